abbrev b_Q_thrown : ByteArray := prog_7_method_2_code
abbrev y_Q_thrown : MethodName := ⟨"MemberChooserModel", "thrown", "()I"⟩
abbrev w_Q_thrown : List Cond := Cond.code y_Q_thrown b_Q_thrown 1 (some .int) :: zTb
theorem d_Q_thrown_0 : decode b_Q_thrown 0 = .ok (.aload_n 0, 1) := by decide +kernel
theorem d_Q_thrown_1 : decode b_Q_thrown 1 = .ok (.getfield 73, 3) := by decide +kernel
theorem d_Q_thrown_4 : decode b_Q_thrown 4 = .ok (.ireturn, 1) := by decide +kernel
abbrev rm_Q_thrown : Room := { frames := 0, cells := 0, slots := 0, locals := 0 }
def fx_Q_thrown (n : Nat) (S : ZQ) : Option (Int32 × ZQ) :=
  some ((qTh S), S)

set_option maxRecDepth 100000 in
set_option maxHeartbeats 4000000 in
theorem k_Q_thrown (l : Launch) (z : zE) (B : Nat → Nat) (Rr : va_W) (n : Nat) (S : ZQ) (r0 : Int32) (S' : ZQ) (h : fx_Q_thrown n S  = some (r0, S')) : zC z l y_Q_thrown w_Q_thrown rm_Q_thrown [.ref (B 0)] (qw z B S ++ Rr) (some (.int r0)) (qw z B S' ++ Rr) := by
  refine zz_of (by decide) (Nat.le_of_ble_eq_true rfl) ?_
  intro p e s m args below meth c A0 ls hM hr hlocks hA hP hD hl
  have hM : zM z p s m args c b_Q_thrown 1 R_Q := hM
  obtain ⟨hx, hb, hml, hown, hts, hK, hN⟩ := id hM
  have hS : va_S A0 s.heap s.heap [] := va_S.rf
  have hl : lv_has ls 1 [(0, .ref (B 0))] := hl
  unfold fx_Q_thrown at h
  refine lv_aload_n hx hb d_Q_thrown_0 rfl (lv_at hl 0 rfl) ?_
  refine va_get (D := z.1) (ci := 5) (v := .int (qTh S)) (C := R_Q) (T := F_Q) (N := 28) hx hb hts i_Q hown hK hP 0 rfl rfl 0 (by decide) (hts _ wq_551) (fun _ h9 => h9) rfl d_Q_thrown_1 ?_
  exact zz_iret (fun S => qw z B S ++ Rr) hx hb hr hlocks hP hD hS h d_Q_thrown_4

abbrev b_Q_isOwn : ByteArray := prog_7_method_3_code
abbrev y_Q_isOwn : MethodName := ⟨"MemberChooserModel", "isOwn", "(I)Z"⟩
abbrev w_Q_isOwn : List Cond := Cond.code y_Q_isOwn b_Q_isOwn 2 (some .boolean) :: zTb
theorem d_Q_isOwn_0 : decode b_Q_isOwn 0 = .ok (.iload_n 1, 1) := by decide +kernel
theorem d_Q_isOwn_1 : decode b_Q_isOwn 1 = .ok (.bipush 8, 2) := by decide +kernel
theorem d_Q_isOwn_3 : decode b_Q_isOwn 3 = .ok (.if_icmp .lt 15, 3) := by decide +kernel
theorem d_Q_isOwn_6 : decode b_Q_isOwn 6 = .ok (.iload_n 1, 1) := by decide +kernel
theorem d_Q_isOwn_7 : decode b_Q_isOwn 7 = .ok (.aload_n 0, 1) := by decide +kernel
theorem d_Q_isOwn_8 : decode b_Q_isOwn 8 = .ok (.getfield 9, 3) := by decide +kernel
theorem d_Q_isOwn_11 : decode b_Q_isOwn 11 = .ok (.if_icmp .ge 7, 3) := by decide +kernel
theorem d_Q_isOwn_14 : decode b_Q_isOwn 14 = .ok (.iconst 1, 1) := by decide +kernel
theorem d_Q_isOwn_15 : decode b_Q_isOwn 15 = .ok (.goto 4, 3) := by decide +kernel
theorem d_Q_isOwn_18 : decode b_Q_isOwn 18 = .ok (.iconst 0, 1) := by decide +kernel
theorem d_Q_isOwn_19 : decode b_Q_isOwn 19 = .ok (.ireturn, 1) := by decide +kernel
abbrev rm_Q_isOwn : Room := { frames := 0, cells := 0, slots := 0, locals := 0 }
def fx_Q_isOwn (n : Nat) (S : ZQ) (a1 : Int32) : Option (Int32 × ZQ) :=
  (if a1 < (8 : Int32) then
  some ((0 : Int32), S)
  else
  (if (qTy S) ≤ a1 then
    some ((0 : Int32), S)
    else
    some ((1 : Int32), S)))

set_option maxRecDepth 100000 in
set_option maxHeartbeats 4000000 in
theorem k_Q_isOwn (l : Launch) (z : zE) (B : Nat → Nat) (Rr : va_W) (n : Nat) (S : ZQ) (a1 : Int32) (r0 : Int32) (S' : ZQ) (h : fx_Q_isOwn n S a1 = some (r0, S')) : zC z l y_Q_isOwn w_Q_isOwn rm_Q_isOwn [.ref (B 0), .int a1] (qw z B S ++ Rr) (some (.int r0)) (qw z B S' ++ Rr) := by
  refine zz_of (by decide) (Nat.le_of_ble_eq_true rfl) ?_
  intro p e s m args below meth c A0 ls hM hr hlocks hA hP hD hl
  have hM : zM z p s m args c b_Q_isOwn 2 R_Q := hM
  obtain ⟨hx, hb, hml, hown, hts, hK, hN⟩ := id hM
  have hS : va_S A0 s.heap s.heap [] := va_S.rf
  have hl : lv_has ls 2 [(0, .ref (B 0)), (1, .int a1)] := hl
  unfold fx_Q_isOwn at h
  refine lv_iload_n hx hb d_Q_isOwn_0 rfl (lv_at hl 1 rfl) ?_
  refine lv_bipush (v := 8) hx hb d_Q_isOwn_1 (by decide) ?_
  refine lv_icmp_lt (tgt := 18) hx hb d_Q_isOwn_3 (by decide) (fun c_1 => ?_) (fun c_1 => ?_)
  · replace h := zz_t c_1 h
    refine lv_iconst (v := 0) hx hb d_Q_isOwn_18 (by decide) ?_
    exact zz_zret (fun S => qw z B S ++ Rr) hx hb hr hlocks hP hD hS rfl h d_Q_isOwn_19
  · replace h := zz_f c_1 h
    refine lv_iload_n hx hb d_Q_isOwn_6 rfl (lv_at hl 1 rfl) ?_
    refine lv_aload_n hx hb d_Q_isOwn_7 rfl (lv_at hl 0 rfl) ?_
    refine va_get (D := z.1) (ci := 5) (v := .int (qTy S)) (C := R_Q) (T := F_Q) (N := 28) hx hb hts i_Q hown hK hP 0 rfl rfl 1 (by decide) (hts _ wq_552) (fun _ h9 => h9) rfl d_Q_isOwn_8 ?_
    refine lv_icmp_ge (tgt := 18) hx hb d_Q_isOwn_11 (by decide) (fun c_2 => ?_) (fun c_2 => ?_)
    · replace h := zz_t c_2 h
      refine lv_iconst (v := 0) hx hb d_Q_isOwn_18 (by decide) ?_
      exact zz_zret (fun S => qw z B S ++ Rr) hx hb hr hlocks hP hD hS rfl h d_Q_isOwn_19
    · replace h := zz_f c_2 h
      refine lv_iconst (v := 1) hx hb d_Q_isOwn_14 (by decide) ?_
      refine lv_goto (tgt := 19) hx hb d_Q_isOwn_15 (by decide) ?_
      exact zz_zret (fun S => qw z B S ++ Rr) hx hb hr hlocks hP hD hS rfl h d_Q_isOwn_19

abbrev b_Q_isType : ByteArray := prog_7_method_4_code
abbrev y_Q_isType : MethodName := ⟨"MemberChooserModel", "isType", "(I)Z"⟩
abbrev w_Q_isType : List Cond := Cond.code y_Q_isType b_Q_isType 2 (some .boolean) :: zTb
theorem d_Q_isType_0 : decode b_Q_isType 0 = .ok (.iload_n 1, 1) := by decide +kernel
theorem d_Q_isType_1 : decode b_Q_isType 1 = .ok (.ifCond .lt 15, 3) := by decide +kernel
theorem d_Q_isType_4 : decode b_Q_isType 4 = .ok (.iload_n 1, 1) := by decide +kernel
theorem d_Q_isType_5 : decode b_Q_isType 5 = .ok (.aload_n 0, 1) := by decide +kernel
theorem d_Q_isType_6 : decode b_Q_isType 6 = .ok (.getfield 9, 3) := by decide +kernel
theorem d_Q_isType_9 : decode b_Q_isType 9 = .ok (.if_icmp .ge 7, 3) := by decide +kernel
theorem d_Q_isType_12 : decode b_Q_isType 12 = .ok (.iconst 1, 1) := by decide +kernel
theorem d_Q_isType_13 : decode b_Q_isType 13 = .ok (.goto 4, 3) := by decide +kernel
theorem d_Q_isType_16 : decode b_Q_isType 16 = .ok (.iconst 0, 1) := by decide +kernel
theorem d_Q_isType_17 : decode b_Q_isType 17 = .ok (.ireturn, 1) := by decide +kernel
abbrev rm_Q_isType : Room := { frames := 0, cells := 0, slots := 0, locals := 0 }
def fx_Q_isType (n : Nat) (S : ZQ) (a1 : Int32) : Option (Int32 × ZQ) :=
  (if a1 < 0 then
  some ((0 : Int32), S)
  else
  (if (qTy S) ≤ a1 then
    some ((0 : Int32), S)
    else
    some ((1 : Int32), S)))

set_option maxRecDepth 100000 in
set_option maxHeartbeats 4000000 in
theorem k_Q_isType (l : Launch) (z : zE) (B : Nat → Nat) (Rr : va_W) (n : Nat) (S : ZQ) (a1 : Int32) (r0 : Int32) (S' : ZQ) (h : fx_Q_isType n S a1 = some (r0, S')) : zC z l y_Q_isType w_Q_isType rm_Q_isType [.ref (B 0), .int a1] (qw z B S ++ Rr) (some (.int r0)) (qw z B S' ++ Rr) := by
  refine zz_of (by decide) (Nat.le_of_ble_eq_true rfl) ?_
  intro p e s m args below meth c A0 ls hM hr hlocks hA hP hD hl
  have hM : zM z p s m args c b_Q_isType 2 R_Q := hM
  obtain ⟨hx, hb, hml, hown, hts, hK, hN⟩ := id hM
  have hS : va_S A0 s.heap s.heap [] := va_S.rf
  have hl : lv_has ls 2 [(0, .ref (B 0)), (1, .int a1)] := hl
  unfold fx_Q_isType at h
  refine lv_iload_n hx hb d_Q_isType_0 rfl (lv_at hl 1 rfl) ?_
  refine lv_if_lt (tgt := 16) hx hb d_Q_isType_1 (by decide) (fun c_1 => ?_) (fun c_1 => ?_)
  · replace h := zz_t c_1 h
    refine lv_iconst (v := 0) hx hb d_Q_isType_16 (by decide) ?_
    exact zz_zret (fun S => qw z B S ++ Rr) hx hb hr hlocks hP hD hS rfl h d_Q_isType_17
  · replace h := zz_f c_1 h
    refine lv_iload_n hx hb d_Q_isType_4 rfl (lv_at hl 1 rfl) ?_
    refine lv_aload_n hx hb d_Q_isType_5 rfl (lv_at hl 0 rfl) ?_
    refine va_get (D := z.1) (ci := 5) (v := .int (qTy S)) (C := R_Q) (T := F_Q) (N := 28) hx hb hts i_Q hown hK hP 0 rfl rfl 1 (by decide) (hts _ wq_552) (fun _ h9 => h9) rfl d_Q_isType_6 ?_
    refine lv_icmp_ge (tgt := 16) hx hb d_Q_isType_9 (by decide) (fun c_2 => ?_) (fun c_2 => ?_)
    · replace h := zz_t c_2 h
      refine lv_iconst (v := 0) hx hb d_Q_isType_16 (by decide) ?_
      exact zz_zret (fun S => qw z B S ++ Rr) hx hb hr hlocks hP hD hS rfl h d_Q_isType_17
    · replace h := zz_f c_2 h
      refine lv_iconst (v := 1) hx hb d_Q_isType_12 (by decide) ?_
      refine lv_goto (tgt := 17) hx hb d_Q_isType_13 (by decide) ?_
      exact zz_zret (fun S => qw z B S ++ Rr) hx hb hr hlocks hP hD hS rfl h d_Q_isType_17

abbrev b_Q_add : ByteArray := prog_7_method_5_code
abbrev y_Q_add : MethodName := ⟨"MemberChooserModel", "add", "(ZI)I"⟩
abbrev w_Q_add : List Cond := Cond.code y_Q_add b_Q_add 3 (some .int) :: zTb
theorem d_Q_add_0 : decode b_Q_add 0 = .ok (.aload_n 0, 1) := by decide +kernel
theorem d_Q_add_1 : decode b_Q_add 1 = .ok (.getfield 13, 3) := by decide +kernel
theorem d_Q_add_4 : decode b_Q_add 4 = .ok (.aload_n 0, 1) := by decide +kernel
theorem d_Q_add_5 : decode b_Q_add 5 = .ok (.getfield 9, 3) := by decide +kernel
theorem d_Q_add_8 : decode b_Q_add 8 = .ok (.iload_n 1, 1) := by decide +kernel
theorem d_Q_add_9 : decode b_Q_add 9 = .ok (.bastore, 1) := by decide +kernel
theorem d_Q_add_10 : decode b_Q_add 10 = .ok (.aload_n 0, 1) := by decide +kernel
theorem d_Q_add_11 : decode b_Q_add 11 = .ok (.getfield 17, 3) := by decide +kernel
theorem d_Q_add_14 : decode b_Q_add 14 = .ok (.aload_n 0, 1) := by decide +kernel
theorem d_Q_add_15 : decode b_Q_add 15 = .ok (.getfield 9, 3) := by decide +kernel
theorem d_Q_add_18 : decode b_Q_add 18 = .ok (.iload_n 2, 1) := by decide +kernel
theorem d_Q_add_19 : decode b_Q_add 19 = .ok (.iastore, 1) := by decide +kernel
theorem d_Q_add_20 : decode b_Q_add 20 = .ok (.aload_n 0, 1) := by decide +kernel
theorem d_Q_add_21 : decode b_Q_add 21 = .ok (.getfield 21, 3) := by decide +kernel
theorem d_Q_add_24 : decode b_Q_add 24 = .ok (.aload_n 0, 1) := by decide +kernel
theorem d_Q_add_25 : decode b_Q_add 25 = .ok (.getfield 9, 3) := by decide +kernel
theorem d_Q_add_28 : decode b_Q_add 28 = .ok (.iconst 0, 1) := by decide +kernel
theorem d_Q_add_29 : decode b_Q_add 29 = .ok (.iastore, 1) := by decide +kernel
theorem d_Q_add_30 : decode b_Q_add 30 = .ok (.aload_n 0, 1) := by decide +kernel
theorem d_Q_add_31 : decode b_Q_add 31 = .ok (.dup, 1) := by decide +kernel
theorem d_Q_add_32 : decode b_Q_add 32 = .ok (.getfield 9, 3) := by decide +kernel
theorem d_Q_add_35 : decode b_Q_add 35 = .ok (.iconst 1, 1) := by decide +kernel
theorem d_Q_add_36 : decode b_Q_add 36 = .ok (.iadd, 1) := by decide +kernel
theorem d_Q_add_37 : decode b_Q_add 37 = .ok (.putfield 9, 3) := by decide +kernel
theorem d_Q_add_40 : decode b_Q_add 40 = .ok (.aload_n 0, 1) := by decide +kernel
theorem d_Q_add_41 : decode b_Q_add 41 = .ok (.getfield 9, 3) := by decide +kernel
theorem d_Q_add_44 : decode b_Q_add 44 = .ok (.iconst 1, 1) := by decide +kernel
theorem d_Q_add_45 : decode b_Q_add 45 = .ok (.isub, 1) := by decide +kernel
theorem d_Q_add_46 : decode b_Q_add 46 = .ok (.ireturn, 1) := by decide +kernel
abbrev rm_Q_add : Room := { frames := 0, cells := 0, slots := 0, locals := 0 }
def fx_Q_add (n : Nat) (S : ZQ) (a1 : Int32) (a2 : Int32) : Option (Int32 × ZQ) :=
  (if zoob (qTy S) 32 then none else
  zlet (qIf' S (upd (qIf S) (qTy S).toNatClampNeg (vp_nar .boolean a1))) (fun S_2 =>
  (if zoob (qTy S_2) 32 then none else
  zlet (qAb' S_2 (upd (qAb S_2) (qTy S_2).toNatClampNeg a2)) (fun S_4 =>
  (if zoob (qTy S_4) 32 then none else
  zlet (qFm' S_4 (upd (qFm S_4) (qTy S_4).toNatClampNeg (0 : Int32))) (fun S_6 =>
  zlet (qTy' S_6 ((qTy S_6) + (1 : Int32))) (fun S_7 =>
  some (((qTy S_7) - (1 : Int32)), S_7))))))))

set_option maxRecDepth 100000 in
set_option maxHeartbeats 4000000 in
theorem k_Q_add (l : Launch) (z : zE) (B : Nat → Nat) (Rr : va_W) (n : Nat) (S : ZQ) (a1 : Int32) (a2 : Int32) (r0 : Int32) (S' : ZQ) (h : fx_Q_add n S a1 a2 = some (r0, S')) : zC z l y_Q_add w_Q_add rm_Q_add [.ref (B 0), .int a1, .int a2] (qw z B S ++ Rr) (some (.int r0)) (qw z B S' ++ Rr) := by
  refine zz_of (by decide) (Nat.le_of_ble_eq_true rfl) ?_
  intro p e s m args below meth c A0 ls hM hr hlocks hA hP hD hl
  have hM : zM z p s m args c b_Q_add 3 R_Q := hM
  obtain ⟨hx, hb, hml, hown, hts, hK, hN⟩ := id hM
  have hS : va_S A0 s.heap s.heap [] := va_S.rf
  have hl : lv_has ls 3 [(0, .ref (B 0)), (1, .int a1), (2, .int a2)] := hl
  unfold fx_Q_add at h
  refine lv_aload_n hx hb d_Q_add_0 rfl (lv_at hl 0 rfl) ?_
  refine va_get (D := z.1) (ci := 5) (v := .ref (B 1)) (C := R_Q) (T := F_Q) (N := 28) hx hb hts i_Q hown hK hP 0 rfl rfl 2 (by decide) (hts _ wq_553) (fun _ h9 => h9) rfl d_Q_add_1 ?_
  refine lv_aload_n hx hb d_Q_add_4 rfl (lv_at hl 0 rfl) ?_
  refine va_get (D := z.1) (ci := 5) (v := .int (qTy S)) (C := R_Q) (T := F_Q) (N := 28) hx hb hts i_Q hown hK hP 0 rfl rfl 1 (by decide) (hts _ wq_552) (fun _ h9 => h9) rfl d_Q_add_5 ?_
  refine lv_iload_n hx hb d_Q_add_8 rfl (lv_at hl 1 rfl) ?_
  obtain ⟨c_1, h⟩ := zz_oob h
  obtain ⟨S_2, e_2, h⟩ := zz_let h
  refine va_zast hx hb hK hP hD hS 1 1 rfl rfl c_1 d_Q_add_9 (fun H locs hP hD hS => ?_)
  have hP : va_P z.1 vwCl (qw z B S_2 ++ Rr) H := by rw [e_2]; exact hP
  have hD : va_D A0 (qw z B S_2 ++ Rr) := by rw [e_2]; exact hD
  refine lv_aload_n hx hb d_Q_add_10 rfl (lv_at hl 0 rfl) ?_
  refine va_get (D := z.1) (ci := 5) (v := .ref (B 2)) (C := R_Q) (T := F_Q) (N := 28) hx hb hts i_Q hown hK hP 0 rfl rfl 3 (by decide) (hts _ wq_554) (fun _ h9 => h9) rfl d_Q_add_11 ?_
  refine lv_aload_n hx hb d_Q_add_14 rfl (lv_at hl 0 rfl) ?_
  refine va_get (D := z.1) (ci := 5) (v := .int (qTy S_2)) (C := R_Q) (T := F_Q) (N := 28) hx hb hts i_Q hown hK hP 0 rfl rfl 1 (by decide) (hts _ wq_552) (fun _ h9 => h9) rfl d_Q_add_15 ?_
  refine lv_iload_n hx hb d_Q_add_18 rfl (lv_at hl 2 rfl) ?_
  obtain ⟨c_3, h⟩ := zz_oob h
  obtain ⟨S_4, e_4, h⟩ := zz_let h
  refine va_iast hx hb hK hP hD hS 2 0 rfl rfl c_3 d_Q_add_19 (fun H locs hP hD hS => ?_)
  have hP : va_P z.1 vwCl (qw z B S_4 ++ Rr) H := by rw [e_4]; exact hP
  have hD : va_D A0 (qw z B S_4 ++ Rr) := by rw [e_4]; exact hD
  refine lv_aload_n hx hb d_Q_add_20 rfl (lv_at hl 0 rfl) ?_
  refine va_get (D := z.1) (ci := 5) (v := .ref (B 3)) (C := R_Q) (T := F_Q) (N := 28) hx hb hts i_Q hown hK hP 0 rfl rfl 4 (by decide) (hts _ wq_555) (fun _ h9 => h9) rfl d_Q_add_21 ?_
  refine lv_aload_n hx hb d_Q_add_24 rfl (lv_at hl 0 rfl) ?_
  refine va_get (D := z.1) (ci := 5) (v := .int (qTy S_4)) (C := R_Q) (T := F_Q) (N := 28) hx hb hts i_Q hown hK hP 0 rfl rfl 1 (by decide) (hts _ wq_552) (fun _ h9 => h9) rfl d_Q_add_25 ?_
  refine lv_iconst (v := 0) hx hb d_Q_add_28 (by decide) ?_
  obtain ⟨c_5, h⟩ := zz_oob h
  obtain ⟨S_6, e_6, h⟩ := zz_let h
  refine va_iast hx hb hK hP hD hS 3 0 rfl rfl c_5 d_Q_add_29 (fun H locs hP hD hS => ?_)
  have hP : va_P z.1 vwCl (qw z B S_6 ++ Rr) H := by rw [e_6]; exact hP
  have hD : va_D A0 (qw z B S_6 ++ Rr) := by rw [e_6]; exact hD
  refine lv_aload_n hx hb d_Q_add_30 rfl (lv_at hl 0 rfl) ?_
  refine lv_dup hx hb d_Q_add_31 rfl ?_
  refine va_get (D := z.1) (ci := 5) (v := .int (qTy S_6)) (C := R_Q) (T := F_Q) (N := 28) hx hb hts i_Q hown hK hP 0 rfl rfl 1 (by decide) (hts _ wq_552) (fun _ h9 => h9) rfl d_Q_add_32 ?_
  refine lv_iconst (v := 1) hx hb d_Q_add_35 (by decide) ?_
  refine lv_iadd hx hb d_Q_add_36 ?_
  obtain ⟨S_7, e_7, h⟩ := zz_let h
  refine va_put (D := z.1) (ci := 5) (v := .int ((qTy S_6) + (1 : Int32))) (ty := .int) (C := R_Q) (T := F_Q) (N := 28) hx hb hts i_Q ty_Q ty_Q_ok n_Q hown hK hP hD hS 0 rfl rfl 1 (by decide) (hts _ wq_552) (fun _ h9 => h9) rfl (by decide +kernel) rfl rfl (Nat.le_of_ble_eq_true rfl) d_Q_add_37 (fun H locs hP hD hS => ?_)
  have hP : va_P z.1 vwCl (qw z B S_7 ++ Rr) H := by rw [e_7]; exact hP
  have hD : va_D A0 (qw z B S_7 ++ Rr) := by rw [e_7]; exact hD
  refine lv_aload_n hx hb d_Q_add_40 rfl (lv_at hl 0 rfl) ?_
  refine va_get (D := z.1) (ci := 5) (v := .int (qTy S_7)) (C := R_Q) (T := F_Q) (N := 28) hx hb hts i_Q hown hK hP 0 rfl rfl 1 (by decide) (hts _ wq_552) (fun _ h9 => h9) rfl d_Q_add_41 ?_
  refine lv_iconst (v := 1) hx hb d_Q_add_44 (by decide) ?_
  refine lv_isub hx hb d_Q_add_45 ?_
  exact zz_iret (fun S => qw z B S ++ Rr) hx hb hr hlocks hP hD hS h d_Q_add_46

abbrev b_Q_type : ByteArray := prog_7_method_6_code
abbrev y_Q_type : MethodName := ⟨"MemberChooserModel", "type", "(I)I"⟩
abbrev w_Q_type : List Cond := Cond.code y_Q_type b_Q_type 2 (some .int) :: zTb
theorem d_Q_type_0 : decode b_Q_type 0 = .ok (.aload_n 0, 1) := by decide +kernel
theorem d_Q_type_1 : decode b_Q_type 1 = .ok (.iload_n 1, 1) := by decide +kernel
theorem d_Q_type_2 : decode b_Q_type 2 = .ok (.iconst (-1), 1) := by decide +kernel
theorem d_Q_type_3 : decode b_Q_type 3 = .ok (.if_icmp .eq 24, 3) := by decide +kernel
theorem d_Q_type_6 : decode b_Q_type 6 = .ok (.aload_n 0, 1) := by decide +kernel
theorem d_Q_type_7 : decode b_Q_type 7 = .ok (.iload_n 1, 1) := by decide +kernel
theorem d_Q_type_8 : decode b_Q_type 8 = .ok (.invokevirtual 76, 3) := by decide +kernel
theorem d_Q_type_11 : decode b_Q_type 11 = .ok (.ifCond .eq 12, 3) := by decide +kernel
theorem d_Q_type_14 : decode b_Q_type 14 = .ok (.aload_n 0, 1) := by decide +kernel
theorem d_Q_type_15 : decode b_Q_type 15 = .ok (.getfield 13, 3) := by decide +kernel
theorem d_Q_type_18 : decode b_Q_type 18 = .ok (.iload_n 1, 1) := by decide +kernel
theorem d_Q_type_19 : decode b_Q_type 19 = .ok (.baload, 1) := by decide +kernel
theorem d_Q_type_20 : decode b_Q_type 20 = .ok (.ifCond .eq 7, 3) := by decide +kernel
theorem d_Q_type_23 : decode b_Q_type 23 = .ok (.iconst 1, 1) := by decide +kernel
theorem d_Q_type_24 : decode b_Q_type 24 = .ok (.goto 17, 3) := by decide +kernel
theorem d_Q_type_27 : decode b_Q_type 27 = .ok (.aload_n 0, 1) := by decide +kernel
theorem d_Q_type_28 : decode b_Q_type 28 = .ok (.getfield 9, 3) := by decide +kernel
theorem d_Q_type_31 : decode b_Q_type 31 = .ok (.bipush 32, 2) := by decide +kernel
theorem d_Q_type_33 : decode b_Q_type 33 = .ok (.if_icmp .ne 7, 3) := by decide +kernel
theorem d_Q_type_36 : decode b_Q_type 36 = .ok (.iconst 2, 1) := by decide +kernel
theorem d_Q_type_37 : decode b_Q_type 37 = .ok (.goto 4, 3) := by decide +kernel
theorem d_Q_type_40 : decode b_Q_type 40 = .ok (.iconst 0, 1) := by decide +kernel
theorem d_Q_type_41 : decode b_Q_type 41 = .ok (.putfield 73, 3) := by decide +kernel
theorem d_Q_type_44 : decode b_Q_type 44 = .ok (.aload_n 0, 1) := by decide +kernel
theorem d_Q_type_45 : decode b_Q_type 45 = .ok (.getfield 73, 3) := by decide +kernel
theorem d_Q_type_48 : decode b_Q_type 48 = .ok (.ifCond .le 7, 3) := by decide +kernel
theorem d_Q_type_51 : decode b_Q_type 51 = .ok (.iconst 0, 1) := by decide +kernel
theorem d_Q_type_52 : decode b_Q_type 52 = .ok (.goto 9, 3) := by decide +kernel
theorem d_Q_type_55 : decode b_Q_type 55 = .ok (.aload_n 0, 1) := by decide +kernel
theorem d_Q_type_56 : decode b_Q_type 56 = .ok (.iconst 0, 1) := by decide +kernel
theorem d_Q_type_57 : decode b_Q_type 57 = .ok (.iload_n 1, 1) := by decide +kernel
theorem d_Q_type_58 : decode b_Q_type 58 = .ok (.invokevirtual 80, 3) := by decide +kernel
theorem d_Q_type_61 : decode b_Q_type 61 = .ok (.ireturn, 1) := by decide +kernel
abbrev rm_Q_type : Room := { frames := 1, cells := 0, slots := 0, locals := 22 }
def jx_Q_type_41 (n : Nat) (k0 : Int32) (v1 : Int32) (S : ZQ) : Option (Int32 × ZQ) :=
  zlet (qTh' S k0) (fun S_7 =>
    (if (qTh S_7) ≤ 0 then
    zbind (fx_Q_add n S_7 (0 : Int32) v1) (fun r_9 S_9 =>
      some (r_9, S_9))
    else
    some ((0 : Int32), S_7)))

def jx_Q_type_27 (n : Nat) (v1 : Int32) (S : ZQ) : Option (Int32 × ZQ) :=
  (if (qTy S) = (32 : Int32) then
    jx_Q_type_41 n (2 : Int32) v1 S
    else
    jx_Q_type_41 n (0 : Int32) v1 S)

def jx_Q_type_23 (n : Nat) (v1 : Int32) (S : ZQ) : Option (Int32 × ZQ) :=
  jx_Q_type_41 n (1 : Int32) v1 S

def fx_Q_type (n : Nat) (S : ZQ) (a1 : Int32) : Option (Int32 × ZQ) :=
  (if a1 = (-1 : Int32) then
  jx_Q_type_27 n a1 S
  else
  zbind (fx_Q_isOwn n S a1) (fun r_2 S_2 =>
    (if r_2 = 0 then
    jx_Q_type_23 n a1 S_2
    else
    (if zoob a1 32 then none else
      (if ((qIf S_2) a1.toNatClampNeg) = 0 then
      jx_Q_type_27 n a1 S_2
      else
      jx_Q_type_23 n a1 S_2)))))

set_option maxRecDepth 100000 in
set_option maxHeartbeats 4000000 in
theorem k_Q_type (l : Launch) (z : zE) (B : Nat → Nat) (Rr : va_W) (n : Nat) (S : ZQ) (a1 : Int32) (r0 : Int32) (S' : ZQ) (h : fx_Q_type n S a1 = some (r0, S')) : zC z l y_Q_type w_Q_type rm_Q_type [.ref (B 0), .int a1] (qw z B S ++ Rr) (some (.int r0)) (qw z B S' ++ Rr) := by
  refine zz_of (by decide) (Nat.le_of_ble_eq_true rfl) ?_
  intro p e s m args below meth c A0 ls hM hr hlocks hA hP hD hl
  have hM : zM z p s m args c b_Q_type 2 R_Q := hM
  obtain ⟨hx, hb, hml, hown, hts, hK, hN⟩ := id hM
  have hS : va_S A0 s.heap s.heap [] := va_S.rf
  have hl : lv_has ls 2 [(0, .ref (B 0)), (1, .int a1)] := hl
  have J41 : ∀ (k0 : Int32) (v1 : Int32) (S : ZQ), jx_Q_type_41 n k0 v1 S = some (r0, S') → ∀ (H : Heap) (locs : List Loc) (ls : Array Slot), va_P z.1 vwCl (qw z B S ++ Rr) H → va_D A0 (qw z B S ++ Rr) → va_S A0 s.heap H locs → lv_has ls 2 [(0, .ref (B 0)), (1, .int v1)] → W p l e rm_Q_type s m args below meth c H locs 0 0 (zQ z below args s A0 (some (.int r0)) (qw z B S' ++ Rr)) (F0 m 41 ls [.int k0, .ref (B 0)]) := by
    intro k0 v1 S h H locs ls hP hD hS hl
    unfold jx_Q_type_41 at h
    obtain ⟨S_7, e_7, h⟩ := zz_let h
    refine va_put (D := z.1) (ci := 5) (v := .int k0) (ty := .int) (C := R_Q) (T := F_Q) (N := 28) hx hb hts i_Q ty_Q ty_Q_ok n_Q hown hK hP hD hS 0 rfl rfl 0 (by decide) (hts _ wq_551) (fun _ h9 => h9) rfl (by decide +kernel) rfl rfl (Nat.le_of_ble_eq_true rfl) d_Q_type_41 (fun H locs hP hD hS => ?_)
    have hP : va_P z.1 vwCl (qw z B S_7 ++ Rr) H := by rw [e_7]; exact hP
    have hD : va_D A0 (qw z B S_7 ++ Rr) := by rw [e_7]; exact hD
    refine lv_aload_n hx hb d_Q_type_44 rfl (lv_at hl 0 rfl) ?_
    refine va_get (D := z.1) (ci := 5) (v := .int (qTh S_7)) (C := R_Q) (T := F_Q) (N := 28) hx hb hts i_Q hown hK hP 0 rfl rfl 0 (by decide) (hts _ wq_551) (fun _ h9 => h9) rfl d_Q_type_45 ?_
    refine lv_if_le (tgt := 55) hx hb d_Q_type_48 (by decide) (fun c_8 => ?_) (fun c_8 => ?_)
    · replace h := zz_t c_8 h
      refine lv_aload_n hx hb d_Q_type_55 rfl (lv_at hl 0 rfl) ?_
      refine lv_iconst (v := 0) hx hb d_Q_type_56 (by decide) ?_
      refine lv_iload_n hx hb d_Q_type_57 rfl (lv_at hl 1 rfl) ?_
      obtain ⟨r_9, S_9, e_9, h⟩ := zz_bind h
      refine zz_goI (zz_runV (As := [.int (0 : Int32), .int v1]) (rest := []) (k_Q_add l z B Rr n _ _ _ _ _ e_9) ⟨hx, hb, hml, hown, hts⟩ (cwV 2 hts (zz_gV wq_648 wq_650 wp_19 wq_6 wq_651) rfl rfl rfl (by decide +kernel) ⟨Nat.le_of_ble_eq_true rfl, Nat.le_of_ble_eq_true rfl⟩) hK hN hP hD (va_recv hK hP (ci := 5) (q0 := 0) rfl rfl) rfl hl.1 rfl (Nat.le_of_ble_eq_true rfl) d_Q_type_58 ⟨Nat.le_of_ble_eq_true rfl, Nat.le_of_ble_eq_true rfl⟩) hD hS hA (fun H locs hP hD hS => ?_)
      exact zz_iret (fun S => qw z B S ++ Rr) hx hb hr hlocks hP hD hS h d_Q_type_61
    · replace h := zz_f c_8 h
      refine lv_iconst (v := 0) hx hb d_Q_type_51 (by decide) ?_
      refine lv_goto (tgt := 61) hx hb d_Q_type_52 (by decide) ?_
      exact zz_iret (fun S => qw z B S ++ Rr) hx hb hr hlocks hP hD hS h d_Q_type_61
  have J27 : ∀ (v1 : Int32) (S : ZQ), jx_Q_type_27 n v1 S = some (r0, S') → ∀ (H : Heap) (locs : List Loc) (ls : Array Slot), va_P z.1 vwCl (qw z B S ++ Rr) H → va_D A0 (qw z B S ++ Rr) → va_S A0 s.heap H locs → lv_has ls 2 [(0, .ref (B 0)), (1, .int v1)] → W p l e rm_Q_type s m args below meth c H locs 0 0 (zQ z below args s A0 (some (.int r0)) (qw z B S' ++ Rr)) (F0 m 27 ls [.ref (B 0)]) := by
    intro v1 S h H locs ls hP hD hS hl
    unfold jx_Q_type_27 at h
    refine lv_aload_n hx hb d_Q_type_27 rfl (lv_at hl 0 rfl) ?_
    refine va_get (D := z.1) (ci := 5) (v := .int (qTy S)) (C := R_Q) (T := F_Q) (N := 28) hx hb hts i_Q hown hK hP 0 rfl rfl 1 (by decide) (hts _ wq_552) (fun _ h9 => h9) rfl d_Q_type_28 ?_
    refine lv_bipush (v := 32) hx hb d_Q_type_31 (by decide) ?_
    refine lv_icmp_ne (tgt := 40) hx hb d_Q_type_33 (by decide) (fun c_6 => ?_) (fun c_6 => ?_)
    · replace h := zz_f c_6 h
      refine lv_iconst (v := 0) hx hb d_Q_type_40 (by decide) ?_
      exact J41 _ _ _ h _ _ _ hP hD hS hl
    · replace h := zz_t c_6 h
      refine lv_iconst (v := 2) hx hb d_Q_type_36 (by decide) ?_
      refine lv_goto (tgt := 41) hx hb d_Q_type_37 (by decide) ?_
      exact J41 _ _ _ h _ _ _ hP hD hS hl
  have J23 : ∀ (v1 : Int32) (S : ZQ), jx_Q_type_23 n v1 S = some (r0, S') → ∀ (H : Heap) (locs : List Loc) (ls : Array Slot), va_P z.1 vwCl (qw z B S ++ Rr) H → va_D A0 (qw z B S ++ Rr) → va_S A0 s.heap H locs → lv_has ls 2 [(0, .ref (B 0)), (1, .int v1)] → W p l e rm_Q_type s m args below meth c H locs 0 0 (zQ z below args s A0 (some (.int r0)) (qw z B S' ++ Rr)) (F0 m 23 ls [.ref (B 0)]) := by
    intro v1 S h H locs ls hP hD hS hl
    unfold jx_Q_type_23 at h
    refine lv_iconst (v := 1) hx hb d_Q_type_23 (by decide) ?_
    refine lv_goto (tgt := 41) hx hb d_Q_type_24 (by decide) ?_
    exact J41 _ _ _ h _ _ _ hP hD hS hl
  unfold fx_Q_type at h
  refine lv_aload_n hx hb d_Q_type_0 rfl (lv_at hl 0 rfl) ?_
  refine lv_iload_n hx hb d_Q_type_1 rfl (lv_at hl 1 rfl) ?_
  refine lv_iconst (v := -1) hx hb d_Q_type_2 (by decide) ?_
  refine lv_icmp_eq (tgt := 27) hx hb d_Q_type_3 (by decide) (fun c_1 => ?_) (fun c_1 => ?_)
  · replace h := zz_t c_1 h
    exact J27 _ _ h _ _ _ hP hD hS hl
  · replace h := zz_f c_1 h
    refine lv_aload_n hx hb d_Q_type_6 rfl (lv_at hl 0 rfl) ?_
    refine lv_iload_n hx hb d_Q_type_7 rfl (lv_at hl 1 rfl) ?_
    obtain ⟨r_2, S_2, e_2, h⟩ := zz_bind h
    refine zz_goI (zz_runV (As := [.int a1]) (rest := [.ref (B 0)]) (k_Q_isOwn l z B Rr n _ _ _ _ e_2) ⟨hx, hb, hml, hown, hts⟩ (cwV 1 hts (zz_gV wq_644 wq_646 wp_18 wq_6 wq_647) rfl rfl rfl (by decide +kernel) ⟨Nat.le_of_ble_eq_true rfl, Nat.le_of_ble_eq_true rfl⟩) hK hN hP hD (va_recv hK hP (ci := 5) (q0 := 0) rfl rfl) rfl hl.1 rfl (Nat.le_of_ble_eq_true rfl) d_Q_type_8 ⟨Nat.le_of_ble_eq_true rfl, Nat.le_of_ble_eq_true rfl⟩) hD hS hA (fun H locs hP hD hS => ?_)
    refine lv_if_eq (tgt := 23) hx hb d_Q_type_11 (by decide) (fun c_3 => ?_) (fun c_3 => ?_)
    · replace h := zz_t c_3 h
      exact J23 _ _ h _ _ _ hP hD hS hl
    · replace h := zz_f c_3 h
      refine lv_aload_n hx hb d_Q_type_14 rfl (lv_at hl 0 rfl) ?_
      refine va_get (D := z.1) (ci := 5) (v := .ref (B 1)) (C := R_Q) (T := F_Q) (N := 28) hx hb hts i_Q hown hK hP 0 rfl rfl 2 (by decide) (hts _ wq_553) (fun _ h9 => h9) rfl d_Q_type_15 ?_
      refine lv_iload_n hx hb d_Q_type_18 rfl (lv_at hl 1 rfl) ?_
      obtain ⟨c_4, h⟩ := zz_oob h
      refine va_zald hx hb hK hP 1 1 rfl rfl c_4 d_Q_type_19 ?_
      refine lv_if_eq (tgt := 27) hx hb d_Q_type_20 (by decide) (fun c_5 => ?_) (fun c_5 => ?_)
      · replace h := zz_t c_5 h
        exact J27 _ _ h _ _ _ hP hD hS hl
      · replace h := zz_f c_5 h
        exact J23 _ _ h _ _ _ hP hD hS hl

abbrev b_Q_face : ByteArray := prog_7_method_7_code
abbrev y_Q_face : MethodName := ⟨"MemberChooserModel", "face", "()I"⟩
abbrev w_Q_face : List Cond := Cond.code y_Q_face b_Q_face 1 (some .int) :: zTb
theorem d_Q_face_0 : decode b_Q_face 0 = .ok (.aload_n 0, 1) := by decide +kernel
theorem d_Q_face_1 : decode b_Q_face 1 = .ok (.aload_n 0, 1) := by decide +kernel
theorem d_Q_face_2 : decode b_Q_face 2 = .ok (.getfield 9, 3) := by decide +kernel
theorem d_Q_face_5 : decode b_Q_face 5 = .ok (.bipush 32, 2) := by decide +kernel
theorem d_Q_face_7 : decode b_Q_face 7 = .ok (.if_icmp .ne 7, 3) := by decide +kernel
theorem d_Q_face_10 : decode b_Q_face 10 = .ok (.iconst 1, 1) := by decide +kernel
theorem d_Q_face_11 : decode b_Q_face 11 = .ok (.goto 4, 3) := by decide +kernel
theorem d_Q_face_14 : decode b_Q_face 14 = .ok (.iconst 0, 1) := by decide +kernel
theorem d_Q_face_15 : decode b_Q_face 15 = .ok (.putfield 73, 3) := by decide +kernel
theorem d_Q_face_18 : decode b_Q_face 18 = .ok (.aload_n 0, 1) := by decide +kernel
theorem d_Q_face_19 : decode b_Q_face 19 = .ok (.getfield 73, 3) := by decide +kernel
theorem d_Q_face_22 : decode b_Q_face 22 = .ok (.ifCond .le 7, 3) := by decide +kernel
theorem d_Q_face_25 : decode b_Q_face 25 = .ok (.iconst 0, 1) := by decide +kernel
theorem d_Q_face_26 : decode b_Q_face 26 = .ok (.goto 9, 3) := by decide +kernel
theorem d_Q_face_29 : decode b_Q_face 29 = .ok (.aload_n 0, 1) := by decide +kernel
theorem d_Q_face_30 : decode b_Q_face 30 = .ok (.iconst 1, 1) := by decide +kernel
theorem d_Q_face_31 : decode b_Q_face 31 = .ok (.iconst (-1), 1) := by decide +kernel
theorem d_Q_face_32 : decode b_Q_face 32 = .ok (.invokevirtual 80, 3) := by decide +kernel
theorem d_Q_face_35 : decode b_Q_face 35 = .ok (.ireturn, 1) := by decide +kernel
abbrev rm_Q_face : Room := { frames := 1, cells := 0, slots := 0, locals := 22 }
def jx_Q_face_15 (n : Nat) (k0 : Int32) (S : ZQ) : Option (Int32 × ZQ) :=
  zlet (qTh' S k0) (fun S_2 =>
    (if (qTh S_2) ≤ 0 then
    zbind (fx_Q_add n S_2 (1 : Int32) (-1 : Int32)) (fun r_4 S_4 =>
      some (r_4, S_4))
    else
    some ((0 : Int32), S_2)))

def fx_Q_face (n : Nat) (S : ZQ) : Option (Int32 × ZQ) :=
  (if (qTy S) = (32 : Int32) then
  jx_Q_face_15 n (1 : Int32) S
  else
  jx_Q_face_15 n (0 : Int32) S)

set_option maxRecDepth 100000 in
set_option maxHeartbeats 4000000 in
theorem k_Q_face (l : Launch) (z : zE) (B : Nat → Nat) (Rr : va_W) (n : Nat) (S : ZQ) (r0 : Int32) (S' : ZQ) (h : fx_Q_face n S  = some (r0, S')) : zC z l y_Q_face w_Q_face rm_Q_face [.ref (B 0)] (qw z B S ++ Rr) (some (.int r0)) (qw z B S' ++ Rr) := by
  refine zz_of (by decide) (Nat.le_of_ble_eq_true rfl) ?_
  intro p e s m args below meth c A0 ls hM hr hlocks hA hP hD hl
  have hM : zM z p s m args c b_Q_face 1 R_Q := hM
  obtain ⟨hx, hb, hml, hown, hts, hK, hN⟩ := id hM
  have hS : va_S A0 s.heap s.heap [] := va_S.rf
  have hl : lv_has ls 1 [(0, .ref (B 0))] := hl
  have J15 : ∀ (k0 : Int32) (S : ZQ), jx_Q_face_15 n k0 S = some (r0, S') → ∀ (H : Heap) (locs : List Loc) (ls : Array Slot), va_P z.1 vwCl (qw z B S ++ Rr) H → va_D A0 (qw z B S ++ Rr) → va_S A0 s.heap H locs → lv_has ls 1 [(0, .ref (B 0))] → W p l e rm_Q_face s m args below meth c H locs 0 0 (zQ z below args s A0 (some (.int r0)) (qw z B S' ++ Rr)) (F0 m 15 ls [.int k0, .ref (B 0)]) := by
    intro k0 S h H locs ls hP hD hS hl
    unfold jx_Q_face_15 at h
    obtain ⟨S_2, e_2, h⟩ := zz_let h
    refine va_put (D := z.1) (ci := 5) (v := .int k0) (ty := .int) (C := R_Q) (T := F_Q) (N := 28) hx hb hts i_Q ty_Q ty_Q_ok n_Q hown hK hP hD hS 0 rfl rfl 0 (by decide) (hts _ wq_551) (fun _ h9 => h9) rfl (by decide +kernel) rfl rfl (Nat.le_of_ble_eq_true rfl) d_Q_face_15 (fun H locs hP hD hS => ?_)
    have hP : va_P z.1 vwCl (qw z B S_2 ++ Rr) H := by rw [e_2]; exact hP
    have hD : va_D A0 (qw z B S_2 ++ Rr) := by rw [e_2]; exact hD
    refine lv_aload_n hx hb d_Q_face_18 rfl (lv_at hl 0 rfl) ?_
    refine va_get (D := z.1) (ci := 5) (v := .int (qTh S_2)) (C := R_Q) (T := F_Q) (N := 28) hx hb hts i_Q hown hK hP 0 rfl rfl 0 (by decide) (hts _ wq_551) (fun _ h9 => h9) rfl d_Q_face_19 ?_
    refine lv_if_le (tgt := 29) hx hb d_Q_face_22 (by decide) (fun c_3 => ?_) (fun c_3 => ?_)
    · replace h := zz_t c_3 h
      refine lv_aload_n hx hb d_Q_face_29 rfl (lv_at hl 0 rfl) ?_
      refine lv_iconst (v := 1) hx hb d_Q_face_30 (by decide) ?_
      refine lv_iconst (v := -1) hx hb d_Q_face_31 (by decide) ?_
      obtain ⟨r_4, S_4, e_4, h⟩ := zz_bind h
      refine zz_goI (zz_runV (As := [.int (1 : Int32), .int (-1 : Int32)]) (rest := []) (k_Q_add l z B Rr n _ _ _ _ _ e_4) ⟨hx, hb, hml, hown, hts⟩ (cwV 2 hts (zz_gV wq_648 wq_650 wp_19 wq_6 wq_651) rfl rfl rfl (by decide +kernel) ⟨Nat.le_of_ble_eq_true rfl, Nat.le_of_ble_eq_true rfl⟩) hK hN hP hD (va_recv hK hP (ci := 5) (q0 := 0) rfl rfl) rfl hl.1 rfl (Nat.le_of_ble_eq_true rfl) d_Q_face_32 ⟨Nat.le_of_ble_eq_true rfl, Nat.le_of_ble_eq_true rfl⟩) hD hS hA (fun H locs hP hD hS => ?_)
      exact zz_iret (fun S => qw z B S ++ Rr) hx hb hr hlocks hP hD hS h d_Q_face_35
    · replace h := zz_f c_3 h
      refine lv_iconst (v := 0) hx hb d_Q_face_25 (by decide) ?_
      refine lv_goto (tgt := 35) hx hb d_Q_face_26 (by decide) ?_
      exact zz_iret (fun S => qw z B S ++ Rr) hx hb hr hlocks hP hD hS h d_Q_face_35
  unfold fx_Q_face at h
  refine lv_aload_n hx hb d_Q_face_0 rfl (lv_at hl 0 rfl) ?_
  refine lv_aload_n hx hb d_Q_face_1 rfl (lv_at hl 0 rfl) ?_
  refine va_get (D := z.1) (ci := 5) (v := .int (qTy S)) (C := R_Q) (T := F_Q) (N := 28) hx hb hts i_Q hown hK hP 0 rfl rfl 1 (by decide) (hts _ wq_552) (fun _ h9 => h9) rfl d_Q_face_2 ?_
  refine lv_bipush (v := 32) hx hb d_Q_face_5 (by decide) ?_
  refine lv_icmp_ne (tgt := 14) hx hb d_Q_face_7 (by decide) (fun c_1 => ?_) (fun c_1 => ?_)
  · replace h := zz_f c_1 h
    refine lv_iconst (v := 0) hx hb d_Q_face_14 (by decide) ?_
    exact J15 _ _ h _ _ _ hP hD hS hl
  · replace h := zz_t c_1 h
    refine lv_iconst (v := 1) hx hb d_Q_face_10 (by decide) ?_
    refine lv_goto (tgt := 15) hx hb d_Q_face_11 (by decide) ?_
    exact J15 _ _ h _ _ _ hP hD hS hl

abbrev b_Q_mark : ByteArray := prog_7_method_8_code
abbrev y_Q_mark : MethodName := ⟨"MemberChooserModel", "mark", "(I)V"⟩
abbrev w_Q_mark : List Cond := Cond.code y_Q_mark b_Q_mark 5 none :: zTb
theorem d_Q_mark_0 : decode b_Q_mark 0 = .ok (.iconst 0, 1) := by decide +kernel
theorem d_Q_mark_1 : decode b_Q_mark 1 = .ok (.istore_n 2, 1) := by decide +kernel
theorem d_Q_mark_2 : decode b_Q_mark 2 = .ok (.iload_n 2, 1) := by decide +kernel
theorem d_Q_mark_3 : decode b_Q_mark 3 = .ok (.bipush 32, 2) := by decide +kernel
theorem d_Q_mark_5 : decode b_Q_mark 5 = .ok (.if_icmp .ge 25, 3) := by decide +kernel
theorem d_Q_mark_8 : decode b_Q_mark 8 = .ok (.aload_n 0, 1) := by decide +kernel
theorem d_Q_mark_9 : decode b_Q_mark 9 = .ok (.getfield 67, 3) := by decide +kernel
theorem d_Q_mark_12 : decode b_Q_mark 12 = .ok (.iload_n 2, 1) := by decide +kernel
theorem d_Q_mark_13 : decode b_Q_mark 13 = .ok (.iload_n 2, 1) := by decide +kernel
theorem d_Q_mark_14 : decode b_Q_mark 14 = .ok (.iload_n 1, 1) := by decide +kernel
theorem d_Q_mark_15 : decode b_Q_mark 15 = .ok (.if_icmp .ne 7, 3) := by decide +kernel
theorem d_Q_mark_18 : decode b_Q_mark 18 = .ok (.iconst 1, 1) := by decide +kernel
theorem d_Q_mark_19 : decode b_Q_mark 19 = .ok (.goto 4, 3) := by decide +kernel
theorem d_Q_mark_22 : decode b_Q_mark 22 = .ok (.iconst 0, 1) := by decide +kernel
theorem d_Q_mark_23 : decode b_Q_mark 23 = .ok (.bastore, 1) := by decide +kernel
theorem d_Q_mark_24 : decode b_Q_mark 24 = .ok (.iinc 2 1, 3) := by decide +kernel
theorem d_Q_mark_27 : decode b_Q_mark 27 = .ok (.goto (-25), 3) := by decide +kernel
theorem d_Q_mark_30 : decode b_Q_mark 30 = .ok (.iload_n 1, 1) := by decide +kernel
theorem d_Q_mark_31 : decode b_Q_mark 31 = .ok (.ifCond .ne 10, 3) := by decide +kernel
theorem d_Q_mark_34 : decode b_Q_mark 34 = .ok (.aload_n 0, 1) := by decide +kernel
theorem d_Q_mark_35 : decode b_Q_mark 35 = .ok (.getfield 67, 3) := by decide +kernel
theorem d_Q_mark_38 : decode b_Q_mark 38 = .ok (.iconst 1, 1) := by decide +kernel
theorem d_Q_mark_39 : decode b_Q_mark 39 = .ok (.iconst 1, 1) := by decide +kernel
theorem d_Q_mark_40 : decode b_Q_mark 40 = .ok (.bastore, 1) := by decide +kernel
theorem d_Q_mark_41 : decode b_Q_mark 41 = .ok (.iload_n 1, 1) := by decide +kernel
theorem d_Q_mark_42 : decode b_Q_mark 42 = .ok (.iconst 2, 1) := by decide +kernel
theorem d_Q_mark_43 : decode b_Q_mark 43 = .ok (.if_icmp .le 11, 3) := by decide +kernel
theorem d_Q_mark_46 : decode b_Q_mark 46 = .ok (.aload_n 0, 1) := by decide +kernel
theorem d_Q_mark_47 : decode b_Q_mark 47 = .ok (.getfield 67, 3) := by decide +kernel
theorem d_Q_mark_50 : decode b_Q_mark 50 = .ok (.bipush 7, 2) := by decide +kernel
theorem d_Q_mark_52 : decode b_Q_mark 52 = .ok (.iconst 1, 1) := by decide +kernel
theorem d_Q_mark_53 : decode b_Q_mark 53 = .ok (.bastore, 1) := by decide +kernel
theorem d_Q_mark_54 : decode b_Q_mark 54 = .ok (.iconst 1, 1) := by decide +kernel
theorem d_Q_mark_55 : decode b_Q_mark 55 = .ok (.istore_n 2, 1) := by decide +kernel
theorem d_Q_mark_56 : decode b_Q_mark 56 = .ok (.iload_n 2, 1) := by decide +kernel
theorem d_Q_mark_57 : decode b_Q_mark 57 = .ok (.ifCond .eq 142, 3) := by decide +kernel
theorem d_Q_mark_60 : decode b_Q_mark 60 = .ok (.iconst 0, 1) := by decide +kernel
theorem d_Q_mark_61 : decode b_Q_mark 61 = .ok (.istore_n 2, 1) := by decide +kernel
theorem d_Q_mark_62 : decode b_Q_mark 62 = .ok (.bipush 8, 2) := by decide +kernel
theorem d_Q_mark_64 : decode b_Q_mark 64 = .ok (.istore_n 3, 1) := by decide +kernel
theorem d_Q_mark_65 : decode b_Q_mark 65 = .ok (.iload_n 3, 1) := by decide +kernel
theorem d_Q_mark_66 : decode b_Q_mark 66 = .ok (.aload_n 0, 1) := by decide +kernel
theorem d_Q_mark_67 : decode b_Q_mark 67 = .ok (.getfield 9, 3) := by decide +kernel
theorem d_Q_mark_70 : decode b_Q_mark 70 = .ok (.if_icmp .ge 126, 3) := by decide +kernel
theorem d_Q_mark_73 : decode b_Q_mark 73 = .ok (.aload_n 0, 1) := by decide +kernel
theorem d_Q_mark_74 : decode b_Q_mark 74 = .ok (.getfield 67, 3) := by decide +kernel
theorem d_Q_mark_77 : decode b_Q_mark 77 = .ok (.iload_n 3, 1) := by decide +kernel
theorem d_Q_mark_78 : decode b_Q_mark 78 = .ok (.baload, 1) := by decide +kernel
theorem d_Q_mark_79 : decode b_Q_mark 79 = .ok (.ifCond .ne 6, 3) := by decide +kernel
theorem d_Q_mark_82 : decode b_Q_mark 82 = .ok (.goto 108, 3) := by decide +kernel
theorem d_Q_mark_85 : decode b_Q_mark 85 = .ok (.aload_n 0, 1) := by decide +kernel
theorem d_Q_mark_86 : decode b_Q_mark 86 = .ok (.getfield 17, 3) := by decide +kernel
theorem d_Q_mark_89 : decode b_Q_mark 89 = .ok (.iload_n 3, 1) := by decide +kernel
theorem d_Q_mark_90 : decode b_Q_mark 90 = .ok (.iaload, 1) := by decide +kernel
theorem d_Q_mark_91 : decode b_Q_mark 91 = .ok (.ifCond .lt 31, 3) := by decide +kernel
theorem d_Q_mark_94 : decode b_Q_mark 94 = .ok (.aload_n 0, 1) := by decide +kernel
theorem d_Q_mark_95 : decode b_Q_mark 95 = .ok (.getfield 67, 3) := by decide +kernel
theorem d_Q_mark_98 : decode b_Q_mark 98 = .ok (.aload_n 0, 1) := by decide +kernel
theorem d_Q_mark_99 : decode b_Q_mark 99 = .ok (.getfield 17, 3) := by decide +kernel
theorem d_Q_mark_102 : decode b_Q_mark 102 = .ok (.iload_n 3, 1) := by decide +kernel
theorem d_Q_mark_103 : decode b_Q_mark 103 = .ok (.iaload, 1) := by decide +kernel
theorem d_Q_mark_104 : decode b_Q_mark 104 = .ok (.baload, 1) := by decide +kernel
theorem d_Q_mark_105 : decode b_Q_mark 105 = .ok (.ifCond .ne 17, 3) := by decide +kernel
theorem d_Q_mark_108 : decode b_Q_mark 108 = .ok (.aload_n 0, 1) := by decide +kernel
theorem d_Q_mark_109 : decode b_Q_mark 109 = .ok (.getfield 67, 3) := by decide +kernel
theorem d_Q_mark_112 : decode b_Q_mark 112 = .ok (.aload_n 0, 1) := by decide +kernel
theorem d_Q_mark_113 : decode b_Q_mark 113 = .ok (.getfield 17, 3) := by decide +kernel
theorem d_Q_mark_116 : decode b_Q_mark 116 = .ok (.iload_n 3, 1) := by decide +kernel
theorem d_Q_mark_117 : decode b_Q_mark 117 = .ok (.iaload, 1) := by decide +kernel
theorem d_Q_mark_118 : decode b_Q_mark 118 = .ok (.iconst 1, 1) := by decide +kernel
theorem d_Q_mark_119 : decode b_Q_mark 119 = .ok (.bastore, 1) := by decide +kernel
theorem d_Q_mark_120 : decode b_Q_mark 120 = .ok (.iconst 1, 1) := by decide +kernel
theorem d_Q_mark_121 : decode b_Q_mark 121 = .ok (.istore_n 2, 1) := by decide +kernel
theorem d_Q_mark_122 : decode b_Q_mark 122 = .ok (.iconst 0, 1) := by decide +kernel
theorem d_Q_mark_123 : decode b_Q_mark 123 = .ok (.istore 4, 2) := by decide +kernel
theorem d_Q_mark_125 : decode b_Q_mark 125 = .ok (.iload 4, 2) := by decide +kernel
theorem d_Q_mark_127 : decode b_Q_mark 127 = .ok (.aload_n 0, 1) := by decide +kernel
theorem d_Q_mark_128 : decode b_Q_mark 128 = .ok (.getfield 21, 3) := by decide +kernel
theorem d_Q_mark_131 : decode b_Q_mark 131 = .ok (.iload_n 3, 1) := by decide +kernel
theorem d_Q_mark_132 : decode b_Q_mark 132 = .ok (.iaload, 1) := by decide +kernel
theorem d_Q_mark_133 : decode b_Q_mark 133 = .ok (.if_icmp .ge 57, 3) := by decide +kernel
theorem d_Q_mark_136 : decode b_Q_mark 136 = .ok (.iload_n 2, 1) := by decide +kernel
theorem d_Q_mark_137 : decode b_Q_mark 137 = .ok (.ifCond .ne 23, 3) := by decide +kernel
theorem d_Q_mark_140 : decode b_Q_mark 140 = .ok (.aload_n 0, 1) := by decide +kernel
theorem d_Q_mark_141 : decode b_Q_mark 141 = .ok (.getfield 67, 3) := by decide +kernel
theorem d_Q_mark_144 : decode b_Q_mark 144 = .ok (.aload_n 0, 1) := by decide +kernel
theorem d_Q_mark_145 : decode b_Q_mark 145 = .ok (.getfield 24, 3) := by decide +kernel
theorem d_Q_mark_148 : decode b_Q_mark 148 = .ok (.bipush 32, 2) := by decide +kernel
theorem d_Q_mark_150 : decode b_Q_mark 150 = .ok (.iload_n 3, 1) := by decide +kernel
theorem d_Q_mark_151 : decode b_Q_mark 151 = .ok (.imul, 1) := by decide +kernel
theorem d_Q_mark_152 : decode b_Q_mark 152 = .ok (.iload 4, 2) := by decide +kernel
theorem d_Q_mark_154 : decode b_Q_mark 154 = .ok (.iadd, 1) := by decide +kernel
theorem d_Q_mark_155 : decode b_Q_mark 155 = .ok (.iaload, 1) := by decide +kernel
theorem d_Q_mark_156 : decode b_Q_mark 156 = .ok (.baload, 1) := by decide +kernel
theorem d_Q_mark_157 : decode b_Q_mark 157 = .ok (.ifCond .ne 7, 3) := by decide +kernel
theorem d_Q_mark_160 : decode b_Q_mark 160 = .ok (.iconst 1, 1) := by decide +kernel
theorem d_Q_mark_161 : decode b_Q_mark 161 = .ok (.goto 4, 3) := by decide +kernel
theorem d_Q_mark_164 : decode b_Q_mark 164 = .ok (.iconst 0, 1) := by decide +kernel
theorem d_Q_mark_165 : decode b_Q_mark 165 = .ok (.istore_n 2, 1) := by decide +kernel
theorem d_Q_mark_166 : decode b_Q_mark 166 = .ok (.aload_n 0, 1) := by decide +kernel
theorem d_Q_mark_167 : decode b_Q_mark 167 = .ok (.getfield 67, 3) := by decide +kernel
theorem d_Q_mark_170 : decode b_Q_mark 170 = .ok (.aload_n 0, 1) := by decide +kernel
theorem d_Q_mark_171 : decode b_Q_mark 171 = .ok (.getfield 24, 3) := by decide +kernel
theorem d_Q_mark_174 : decode b_Q_mark 174 = .ok (.bipush 32, 2) := by decide +kernel
theorem d_Q_mark_176 : decode b_Q_mark 176 = .ok (.iload_n 3, 1) := by decide +kernel
theorem d_Q_mark_177 : decode b_Q_mark 177 = .ok (.imul, 1) := by decide +kernel
theorem d_Q_mark_178 : decode b_Q_mark 178 = .ok (.iload 4, 2) := by decide +kernel
theorem d_Q_mark_180 : decode b_Q_mark 180 = .ok (.iadd, 1) := by decide +kernel
theorem d_Q_mark_181 : decode b_Q_mark 181 = .ok (.iaload, 1) := by decide +kernel
theorem d_Q_mark_182 : decode b_Q_mark 182 = .ok (.iconst 1, 1) := by decide +kernel
theorem d_Q_mark_183 : decode b_Q_mark 183 = .ok (.bastore, 1) := by decide +kernel
theorem d_Q_mark_184 : decode b_Q_mark 184 = .ok (.iinc 4 1, 3) := by decide +kernel
theorem d_Q_mark_187 : decode b_Q_mark 187 = .ok (.goto (-62), 3) := by decide +kernel
theorem d_Q_mark_190 : decode b_Q_mark 190 = .ok (.iinc 3 1, 3) := by decide +kernel
theorem d_Q_mark_193 : decode b_Q_mark 193 = .ok (.goto (-128), 3) := by decide +kernel
theorem d_Q_mark_196 : decode b_Q_mark 196 = .ok (.goto (-140), 3) := by decide +kernel
theorem d_Q_mark_199 : decode b_Q_mark 199 = .ok (.return_, 1) := by decide +kernel
abbrev rm_Q_mark : Room := { frames := 0, cells := 0, slots := 0, locals := 0 }
def st_Q_mark_L2 (n : Nat) (v1 : Int32) (v2 : Int32) (S : ZQ) : Option ((Int32 × ZQ) ⊕ (Nat × Int32 × ZQ)) :=
  (if (32 : Int32) ≤ v2 then
  some (.inr (30, v2, S))
  else
  (if v2 = v1 then
    (if zoob v2 32 then none else
      zlet (qIo' S (upd (qIo S) v2.toNatClampNeg (vp_nar .boolean (1 : Int32)))) (fun S_6 =>
      some (.inl ((v2 + (1 : Int32)), S_6))))
    else
    (if zoob v2 32 then none else
      zlet (qIo' S (upd (qIo S) v2.toNatClampNeg (vp_nar .boolean (0 : Int32)))) (fun S_4 =>
      some (.inl ((v2 + (1 : Int32)), S_4))))))

def fx_Q_mark_L2 (n : Nat) (v1 : Int32) (v2 : Int32) (S : ZQ) : Option (Nat × Int32 × ZQ) := zloop (fun (st : Int32 × ZQ) => st_Q_mark_L2 n v1 st.1 st.2) n (v2, S)

def jx_Q_mark_L125_165 (n : Nat) (k0 : Int32) (v3 : Int32) (v4 : Int32) (S : ZQ) : Option ((Int32 × Int32 × ZQ) ⊕ (Nat × Int32 × Int32 × ZQ)) :=
  (if zoob (((32 : Int32) * v3) + v4) 1024 then none else
    (if zoob ((qFa S) (((32 : Int32) * v3) + v4).toNatClampNeg) 32 then none else
    zlet (qIo' S (upd (qIo S) ((qFa S) (((32 : Int32) * v3) + v4).toNatClampNeg).toNatClampNeg (vp_nar .boolean (1 : Int32)))) (fun S_26 =>
    some (.inl (k0, (v4 + (1 : Int32)), S_26)))))

def jx_Q_mark_L125_160 (n : Nat) (v3 : Int32) (v4 : Int32) (S : ZQ) : Option ((Int32 × Int32 × ZQ) ⊕ (Nat × Int32 × Int32 × ZQ)) :=
  jx_Q_mark_L125_165 n (1 : Int32) v3 v4 S

def st_Q_mark_L125 (n : Nat) (v3 : Int32) (v2 : Int32) (v4 : Int32) (S : ZQ) : Option ((Int32 × Int32 × ZQ) ⊕ (Nat × Int32 × Int32 × ZQ)) :=
  (if zoob v3 32 then none else
  (if ((qFm S) v3.toNatClampNeg) ≤ v4 then
  some (.inr (190, v2, v4, S))
  else
  (if v2 = 0 then
    (if zoob (((32 : Int32) * v3) + v4) 1024 then none else
      (if zoob ((qFa S) (((32 : Int32) * v3) + v4).toNatClampNeg) 32 then none else
      (if ((qIo S) ((qFa S) (((32 : Int32) * v3) + v4).toNatClampNeg).toNatClampNeg) = 0 then
      jx_Q_mark_L125_160 n v3 v4 S
      else
      jx_Q_mark_L125_165 n (0 : Int32) v3 v4 S)))
    else
    jx_Q_mark_L125_160 n v3 v4 S)))

def fx_Q_mark_L125 (n : Nat) (v3 : Int32) (v2 : Int32) (v4 : Int32) (S : ZQ) : Option (Nat × Int32 × Int32 × ZQ) := zloop (fun (st : Int32 × Int32 × ZQ) => st_Q_mark_L125 n v3 st.1 st.2.1 st.2.2) n (v2, v4, S)

def st_Q_mark_L65 (n : Nat)  (v2 : Int32) (v3 : Int32) (S : ZQ) : Option ((Int32 × Int32 × ZQ) ⊕ (Nat × Int32 × Int32 × ZQ)) :=
  (if (qTy S) ≤ v3 then
  some (.inr (196, v2, v3, S))
  else
  (if zoob v3 32 then none else
    (if ((qIo S) v3.toNatClampNeg) = 0 then
    some (.inl (v2, (v3 + (1 : Int32)), S))
    else
    (if zoob v3 32 then none else
      (if ((qAb S) v3.toNatClampNeg) < 0 then
      zbL3 (fx_Q_mark_L125 n v3 v2 (0 : Int32) S) (fun x_27 v2_27 v4_27 S_27 =>
        if x_27 = 190 then
        some (.inl (v2_27, (v3 + (1 : Int32)), S_27))
        else none)
      else
      (if zoob v3 32 then none else
        (if zoob ((qAb S) v3.toNatClampNeg) 32 then none else
        (if ((qIo S) ((qAb S) v3.toNatClampNeg).toNatClampNeg) = 0 then
        (if zoob v3 32 then none else
          (if zoob ((qAb S) v3.toNatClampNeg) 32 then none else
          zlet (qIo' S (upd (qIo S) ((qAb S) v3.toNatClampNeg).toNatClampNeg (vp_nar .boolean (1 : Int32)))) (fun S_34 =>
          zbL3 (fx_Q_mark_L125 n v3 (1 : Int32) (0 : Int32) S_34) (fun x_35 v2_35 v4_35 S_35 =>
          if x_35 = 190 then
          some (.inl (v2_35, (v3 + (1 : Int32)), S_35))
          else none))))
        else
        zbL3 (fx_Q_mark_L125 n v3 v2 (0 : Int32) S) (fun x_31 v2_31 v4_31 S_31 =>
          if x_31 = 190 then
          some (.inl (v2_31, (v3 + (1 : Int32)), S_31))
          else none)))))))))

def fx_Q_mark_L65 (n : Nat)  (v2 : Int32) (v3 : Int32) (S : ZQ) : Option (Nat × Int32 × Int32 × ZQ) := zloop (fun (st : Int32 × Int32 × ZQ) => st_Q_mark_L65 n st.1 st.2.1 st.2.2) n (v2, v3, S)

def st_Q_mark_L56 (n : Nat)  (v2 : Int32) (S : ZQ) : Option ((Int32 × ZQ) ⊕ (Nat × Int32 × ZQ)) :=
  (if v2 = 0 then
  some (.inr (199, v2, S))
  else
  zbL3 (fx_Q_mark_L65 n (0 : Int32) (8 : Int32) S) (fun x_36 v2_36 v3_36 S_36 =>
    if x_36 = 196 then
    some (.inl (v2_36, S_36))
    else none))

def fx_Q_mark_L56 (n : Nat)  (v2 : Int32) (S : ZQ) : Option (Nat × Int32 × ZQ) := zloop (fun (st : Int32 × ZQ) => st_Q_mark_L56 n st.1 st.2) n (v2, S)

def jx_Q_mark_41 (n : Nat) (v1 : Int32) (S : ZQ) : Option (ZQ) :=
  (if v1 ≤ (2 : Int32) then
    zbL2 (fx_Q_mark_L56 n (1 : Int32) S) (fun x_37 v2_37 S_37 =>
      if x_37 = 199 then
      some S_37
      else none)
    else
    (if zoob (7 : Int32) 32 then none else
      zlet (qIo' S (upd (qIo S) (7 : Int32).toNatClampNeg (vp_nar .boolean (1 : Int32)))) (fun S_39 =>
      zbL2 (fx_Q_mark_L56 n (1 : Int32) S_39) (fun x_40 v2_40 S_40 =>
      if x_40 = 199 then
      some S_40
      else none))))

def fx_Q_mark (n : Nat) (S : ZQ) (a1 : Int32) : Option (ZQ) :=
  zbL2 (fx_Q_mark_L2 n a1 (0 : Int32) S) (fun x_7 v2_7 S_7 =>
  if x_7 = 30 then
  (if a1 = 0 then
  (if zoob (1 : Int32) 32 then none else
    zlet (qIo' S_7 (upd (qIo S_7) (1 : Int32).toNatClampNeg (vp_nar .boolean (1 : Int32)))) (fun S_10 =>
    jx_Q_mark_41 n a1 S_10))
  else
  jx_Q_mark_41 n a1 S_7)
  else none)

set_option maxRecDepth 100000 in
set_option maxHeartbeats 4000000 in
theorem lp_Q_mark_L2 {z : zE} {B : Nat → Nat} {Rr : va_W} {p : Program} {l : Launch} {e : Env} {s : State} {m : MethodId} {args : Array Value} {below : List Frame} {meth : Method} {c : Code} {Q : State → Prop} {H0 : Heap} {A0 : Nat → Prop} (hM : zM z p s m args c b_Q_mark 5 R_Q) (hA : ∀ q : Nat, H0.size ≤ q → A0 q) (n : Nat) (v1 : Int32) :
    ∀ (v2 : Int32) (S : ZQ) (r : Nat × Int32 × ZQ), fx_Q_mark_L2 n v1 v2 S = some r → (∀ (H : Heap) (locs : List Loc) (ls : Array Slot), va_P z.1 vwCl (qw z B r.2.2 ++ Rr) H → va_D A0 (qw z B r.2.2 ++ Rr) → va_S A0 H0 H locs → lv_has ls 5 [(0, .ref (B 0)), (1, .int v1), (2, .int r.2.1)] → W p l e rm_Q_mark s m args below meth c H locs 0 0 Q (F0 m r.1 ls [])) →
    ∀ (H : Heap) (locs : List Loc) (ls : Array Slot), va_P z.1 vwCl (qw z B S ++ Rr) H → va_D A0 (qw z B S ++ Rr) → va_S A0 H0 H locs → lv_has ls 5 [(0, .ref (B 0)), (1, .int v1), (2, .int v2)] → W p l e rm_Q_mark s m args below meth c H locs 0 0 Q (F0 m 2 ls []) := by
  obtain ⟨hx, hb, hml, hown, hts, hK, hN⟩ := id hM
  intro v2 S r h hE
  refine zz_loop (G := fun (st : Int32 × ZQ) => ∀ (H : Heap) (locs : List Loc) (ls : Array Slot), va_P z.1 vwCl (qw z B st.2 ++ Rr) H → va_D A0 (qw z B st.2 ++ Rr) → va_S A0 H0 H locs → lv_has ls 5 [(0, .ref (B 0)), (1, .int v1), (2, .int st.1)] → W p l e rm_Q_mark s m args below meth c H locs 0 0 Q (F0 m 2 ls [])) (E := fun (r : Nat × Int32 × ZQ) => ∀ (H : Heap) (locs : List Loc) (ls : Array Slot), va_P z.1 vwCl (qw z B r.2.2 ++ Rr) H → va_D A0 (qw z B r.2.2 ++ Rr) → va_S A0 H0 H locs → lv_has ls 5 [(0, .ref (B 0)), (1, .int v1), (2, .int r.2.1)] → W p l e rm_Q_mark s m args below meth c H locs 0 0 Q (F0 m r.1 ls [])) ?_ n (v2, S) r h hE
  clear h hE r v2 S
  rintro ⟨v2, S⟩ o h hG hE H locs ls hP hD hS hl
  have h : st_Q_mark_L2 n v1 v2 S = some o := h
  have hl : lv_has ls 5 [(0, .ref (B 0)), (1, .int v1), (2, .int v2)] := hl
  have hP : va_P z.1 vwCl (qw z B S ++ Rr) H := hP
  have hD : va_D A0 (qw z B S ++ Rr) := hD
  unfold st_Q_mark_L2 at h
  refine lv_iload_n hx hb d_Q_mark_2 rfl (lv_at hl 2 rfl) ?_
  refine lv_bipush (v := 32) hx hb d_Q_mark_3 (by decide) ?_
  refine lv_icmp_ge (tgt := 30) hx hb d_Q_mark_5 (by decide) (fun c_1 => ?_) (fun c_1 => ?_)
  · replace h := zz_t c_1 h
    exact hE _ (Option.some.inj h).symm _ _ _ hP hD hS hl
  · replace h := zz_f c_1 h
    refine lv_aload_n hx hb d_Q_mark_8 rfl (lv_at hl 0 rfl) ?_
    refine va_get (D := z.1) (ci := 5) (v := .ref (B 18)) (C := R_Q) (T := F_Q) (N := 28) hx hb hts i_Q hown hK hP 0 rfl rfl 26 (by decide) (hts _ wq_577) (fun _ h9 => h9) rfl d_Q_mark_9 ?_
    refine lv_iload_n hx hb d_Q_mark_12 rfl (lv_at hl 2 rfl) ?_
    refine lv_iload_n hx hb d_Q_mark_13 rfl (lv_at hl 2 rfl) ?_
    refine lv_iload_n hx hb d_Q_mark_14 rfl (lv_at hl 1 rfl) ?_
    refine lv_icmp_ne (tgt := 22) hx hb d_Q_mark_15 (by decide) (fun c_2 => ?_) (fun c_2 => ?_)
    · replace h := zz_f c_2 h
      refine lv_iconst (v := 0) hx hb d_Q_mark_22 (by decide) ?_
      obtain ⟨c_3, h⟩ := zz_oob h
      obtain ⟨S_4, e_4, h⟩ := zz_let h
      refine va_zast hx hb hK hP hD hS 18 1 rfl rfl c_3 d_Q_mark_23 (fun H locs hP hD hS => ?_)
      have hP : va_P z.1 vwCl (qw z B S_4 ++ Rr) H := by rw [e_4]; exact hP
      have hD : va_D A0 (qw z B S_4 ++ Rr) := by rw [e_4]; exact hD
      refine lv_iinc (v := (v2 + (1 : Int32))) (lv' := [(2, .int (v2 + (1 : Int32))), (0, .ref (B 0)), (1, .int v1)]) hx hb d_Q_mark_24 hl (k := 2) rfl rfl (by decide) rfl (fun ls hl => ?_)
      refine lv_goto (tgt := 2) hx hb d_Q_mark_27 (by decide) ?_
      exact hG _ (Option.some.inj h).symm _ _ _ hP hD hS (lv_sub hl [1, 2, 0] rfl)
    · replace h := zz_t c_2 h
      refine lv_iconst (v := 1) hx hb d_Q_mark_18 (by decide) ?_
      refine lv_goto (tgt := 23) hx hb d_Q_mark_19 (by decide) ?_
      obtain ⟨c_5, h⟩ := zz_oob h
      obtain ⟨S_6, e_6, h⟩ := zz_let h
      refine va_zast hx hb hK hP hD hS 18 1 rfl rfl c_5 d_Q_mark_23 (fun H locs hP hD hS => ?_)
      have hP : va_P z.1 vwCl (qw z B S_6 ++ Rr) H := by rw [e_6]; exact hP
      have hD : va_D A0 (qw z B S_6 ++ Rr) := by rw [e_6]; exact hD
      refine lv_iinc (v := (v2 + (1 : Int32))) (lv' := [(2, .int (v2 + (1 : Int32))), (0, .ref (B 0)), (1, .int v1)]) hx hb d_Q_mark_24 hl (k := 2) rfl rfl (by decide) rfl (fun ls hl => ?_)
      refine lv_goto (tgt := 2) hx hb d_Q_mark_27 (by decide) ?_
      exact hG _ (Option.some.inj h).symm _ _ _ hP hD hS (lv_sub hl [1, 2, 0] rfl)

set_option maxRecDepth 100000 in
set_option maxHeartbeats 4000000 in
theorem lp_Q_mark_L125 {z : zE} {B : Nat → Nat} {Rr : va_W} {p : Program} {l : Launch} {e : Env} {s : State} {m : MethodId} {args : Array Value} {below : List Frame} {meth : Method} {c : Code} {Q : State → Prop} {H0 : Heap} {A0 : Nat → Prop} (hM : zM z p s m args c b_Q_mark 5 R_Q) (hA : ∀ q : Nat, H0.size ≤ q → A0 q) (n : Nat) (v3 : Int32) :
    ∀ (v2 : Int32) (v4 : Int32) (S : ZQ) (r : Nat × Int32 × Int32 × ZQ), fx_Q_mark_L125 n v3 v2 v4 S = some r → (∀ (H : Heap) (locs : List Loc) (ls : Array Slot), va_P z.1 vwCl (qw z B r.2.2.2 ++ Rr) H → va_D A0 (qw z B r.2.2.2 ++ Rr) → va_S A0 H0 H locs → lv_has ls 5 [(0, .ref (B 0)), (2, .int r.2.1), (3, .int v3), (4, .int r.2.2.1)] → W p l e rm_Q_mark s m args below meth c H locs 0 0 Q (F0 m r.1 ls [])) →
    ∀ (H : Heap) (locs : List Loc) (ls : Array Slot), va_P z.1 vwCl (qw z B S ++ Rr) H → va_D A0 (qw z B S ++ Rr) → va_S A0 H0 H locs → lv_has ls 5 [(0, .ref (B 0)), (2, .int v2), (3, .int v3), (4, .int v4)] → W p l e rm_Q_mark s m args below meth c H locs 0 0 Q (F0 m 125 ls []) := by
  obtain ⟨hx, hb, hml, hown, hts, hK, hN⟩ := id hM
  intro v2 v4 S r h hE
  refine zz_loop (G := fun (st : Int32 × Int32 × ZQ) => ∀ (H : Heap) (locs : List Loc) (ls : Array Slot), va_P z.1 vwCl (qw z B st.2.2 ++ Rr) H → va_D A0 (qw z B st.2.2 ++ Rr) → va_S A0 H0 H locs → lv_has ls 5 [(0, .ref (B 0)), (2, .int st.1), (3, .int v3), (4, .int st.2.1)] → W p l e rm_Q_mark s m args below meth c H locs 0 0 Q (F0 m 125 ls [])) (E := fun (r : Nat × Int32 × Int32 × ZQ) => ∀ (H : Heap) (locs : List Loc) (ls : Array Slot), va_P z.1 vwCl (qw z B r.2.2.2 ++ Rr) H → va_D A0 (qw z B r.2.2.2 ++ Rr) → va_S A0 H0 H locs → lv_has ls 5 [(0, .ref (B 0)), (2, .int r.2.1), (3, .int v3), (4, .int r.2.2.1)] → W p l e rm_Q_mark s m args below meth c H locs 0 0 Q (F0 m r.1 ls [])) ?_ n (v2, v4, S) r h hE
  clear h hE r v2 v4 S
  rintro ⟨v2, v4, S⟩ o h hG hE H locs ls hP hD hS hl
  have h : st_Q_mark_L125 n v3 v2 v4 S = some o := h
  have hl : lv_has ls 5 [(0, .ref (B 0)), (2, .int v2), (3, .int v3), (4, .int v4)] := hl
  have hP : va_P z.1 vwCl (qw z B S ++ Rr) H := hP
  have hD : va_D A0 (qw z B S ++ Rr) := hD
  have J165 : ∀ (k0 : Int32) (v4 : Int32) (S : ZQ), jx_Q_mark_L125_165 n k0 v3 v4 S = some o → ∀ (H : Heap) (locs : List Loc) (ls : Array Slot), va_P z.1 vwCl (qw z B S ++ Rr) H → va_D A0 (qw z B S ++ Rr) → va_S A0 H0 H locs → lv_has ls 5 [(0, .ref (B 0)), (3, .int v3), (4, .int v4)] → W p l e rm_Q_mark s m args below meth c H locs 0 0 Q (F0 m 165 ls [.int k0]) := by
    intro k0 v4 S h H locs ls hP hD hS hl
    unfold jx_Q_mark_L125_165 at h
    refine lv_istore_n (lv' := [(2, .int k0), (0, .ref (B 0)), (3, .int v3), (4, .int v4)]) hx hb d_Q_mark_165 rfl hl (by decide) rfl (fun ls hl => ?_)
    refine lv_aload_n hx hb d_Q_mark_166 rfl (lv_at hl 1 rfl) ?_
    refine va_get (D := z.1) (ci := 5) (v := .ref (B 18)) (C := R_Q) (T := F_Q) (N := 28) hx hb hts i_Q hown hK hP 0 rfl rfl 26 (by decide) (hts _ wq_577) (fun _ h9 => h9) rfl d_Q_mark_167 ?_
    refine lv_aload_n hx hb d_Q_mark_170 rfl (lv_at hl 1 rfl) ?_
    refine va_get (D := z.1) (ci := 5) (v := .ref (B 4)) (C := R_Q) (T := F_Q) (N := 28) hx hb hts i_Q hown hK hP 0 rfl rfl 5 (by decide) (hts _ wq_556) (fun _ h9 => h9) rfl d_Q_mark_171 ?_
    refine lv_bipush (v := 32) hx hb d_Q_mark_174 (by decide) ?_
    refine lv_iload_n hx hb d_Q_mark_176 rfl (lv_at hl 2 rfl) ?_
    refine lv_imul hx hb d_Q_mark_177 ?_
    refine lv_iload hx hb d_Q_mark_178 (lv_at hl 3 rfl) ?_
    refine lv_iadd hx hb d_Q_mark_180 ?_
    obtain ⟨c_24, h⟩ := zz_oob h
    refine va_iald hx hb hK hP 4 0 rfl rfl c_24 d_Q_mark_181 ?_
    refine lv_iconst (v := 1) hx hb d_Q_mark_182 (by decide) ?_
    obtain ⟨c_25, h⟩ := zz_oob h
    obtain ⟨S_26, e_26, h⟩ := zz_let h
    refine va_zast hx hb hK hP hD hS 18 1 rfl rfl c_25 d_Q_mark_183 (fun H locs hP hD hS => ?_)
    have hP : va_P z.1 vwCl (qw z B S_26 ++ Rr) H := by rw [e_26]; exact hP
    have hD : va_D A0 (qw z B S_26 ++ Rr) := by rw [e_26]; exact hD
    refine lv_iinc (v := (v4 + (1 : Int32))) (lv' := [(4, .int (v4 + (1 : Int32))), (2, .int k0), (0, .ref (B 0)), (3, .int v3)]) hx hb d_Q_mark_184 hl (k := 3) rfl rfl (by decide) rfl (fun ls hl => ?_)
    refine lv_goto (tgt := 125) hx hb d_Q_mark_187 (by decide) ?_
    exact hG _ (Option.some.inj h).symm _ _ _ hP hD hS (lv_sub hl [2, 1, 3, 0] rfl)
  have J160 : ∀ (v4 : Int32) (S : ZQ), jx_Q_mark_L125_160 n v3 v4 S = some o → ∀ (H : Heap) (locs : List Loc) (ls : Array Slot), va_P z.1 vwCl (qw z B S ++ Rr) H → va_D A0 (qw z B S ++ Rr) → va_S A0 H0 H locs → lv_has ls 5 [(0, .ref (B 0)), (3, .int v3), (4, .int v4)] → W p l e rm_Q_mark s m args below meth c H locs 0 0 Q (F0 m 160 ls []) := by
    intro v4 S h H locs ls hP hD hS hl
    unfold jx_Q_mark_L125_160 at h
    refine lv_iconst (v := 1) hx hb d_Q_mark_160 (by decide) ?_
    refine lv_goto (tgt := 165) hx hb d_Q_mark_161 (by decide) ?_
    exact J165 _ _ _ h _ _ _ hP hD hS hl
  unfold st_Q_mark_L125 at h
  refine lv_iload hx hb d_Q_mark_125 (lv_at hl 3 rfl) ?_
  refine lv_aload_n hx hb d_Q_mark_127 rfl (lv_at hl 0 rfl) ?_
  refine va_get (D := z.1) (ci := 5) (v := .ref (B 3)) (C := R_Q) (T := F_Q) (N := 28) hx hb hts i_Q hown hK hP 0 rfl rfl 4 (by decide) (hts _ wq_555) (fun _ h9 => h9) rfl d_Q_mark_128 ?_
  refine lv_iload_n hx hb d_Q_mark_131 rfl (lv_at hl 2 rfl) ?_
  obtain ⟨c_18, h⟩ := zz_oob h
  refine va_iald hx hb hK hP 3 0 rfl rfl c_18 d_Q_mark_132 ?_
  refine lv_icmp_ge (tgt := 190) hx hb d_Q_mark_133 (by decide) (fun c_19 => ?_) (fun c_19 => ?_)
  · replace h := zz_t c_19 h
    exact hE _ (Option.some.inj h).symm _ _ _ hP hD hS hl
  · replace h := zz_f c_19 h
    refine lv_iload_n hx hb d_Q_mark_136 rfl (lv_at hl 1 rfl) ?_
    refine lv_if_ne (tgt := 160) hx hb d_Q_mark_137 (by decide) (fun c_20 => ?_) (fun c_20 => ?_)
    · replace h := zz_f c_20 h
      exact J160 _ _ h _ _ _ hP hD hS (lv_sub hl [0, 2, 3] rfl)
    · replace h := zz_t c_20 h
      refine lv_aload_n hx hb d_Q_mark_140 rfl (lv_at hl 0 rfl) ?_
      refine va_get (D := z.1) (ci := 5) (v := .ref (B 18)) (C := R_Q) (T := F_Q) (N := 28) hx hb hts i_Q hown hK hP 0 rfl rfl 26 (by decide) (hts _ wq_577) (fun _ h9 => h9) rfl d_Q_mark_141 ?_
      refine lv_aload_n hx hb d_Q_mark_144 rfl (lv_at hl 0 rfl) ?_
      refine va_get (D := z.1) (ci := 5) (v := .ref (B 4)) (C := R_Q) (T := F_Q) (N := 28) hx hb hts i_Q hown hK hP 0 rfl rfl 5 (by decide) (hts _ wq_556) (fun _ h9 => h9) rfl d_Q_mark_145 ?_
      refine lv_bipush (v := 32) hx hb d_Q_mark_148 (by decide) ?_
      refine lv_iload_n hx hb d_Q_mark_150 rfl (lv_at hl 2 rfl) ?_
      refine lv_imul hx hb d_Q_mark_151 ?_
      refine lv_iload hx hb d_Q_mark_152 (lv_at hl 3 rfl) ?_
      refine lv_iadd hx hb d_Q_mark_154 ?_
      obtain ⟨c_21, h⟩ := zz_oob h
      refine va_iald hx hb hK hP 4 0 rfl rfl c_21 d_Q_mark_155 ?_
      obtain ⟨c_22, h⟩ := zz_oob h
      refine va_zald hx hb hK hP 18 1 rfl rfl c_22 d_Q_mark_156 ?_
      refine lv_if_ne (tgt := 164) hx hb d_Q_mark_157 (by decide) (fun c_23 => ?_) (fun c_23 => ?_)
      · replace h := zz_f c_23 h
        refine lv_iconst (v := 0) hx hb d_Q_mark_164 (by decide) ?_
        exact J165 _ _ _ h _ _ _ hP hD hS (lv_sub hl [0, 2, 3] rfl)
      · replace h := zz_t c_23 h
        exact J160 _ _ h _ _ _ hP hD hS (lv_sub hl [0, 2, 3] rfl)

set_option maxRecDepth 100000 in
set_option maxHeartbeats 4000000 in
theorem lp_Q_mark_L65 {z : zE} {B : Nat → Nat} {Rr : va_W} {p : Program} {l : Launch} {e : Env} {s : State} {m : MethodId} {args : Array Value} {below : List Frame} {meth : Method} {c : Code} {Q : State → Prop} {H0 : Heap} {A0 : Nat → Prop} (hM : zM z p s m args c b_Q_mark 5 R_Q) (hA : ∀ q : Nat, H0.size ≤ q → A0 q) (n : Nat) :
    ∀ (v2 : Int32) (v3 : Int32) (S : ZQ) (r : Nat × Int32 × Int32 × ZQ), fx_Q_mark_L65 n v2 v3 S = some r → (∀ (H : Heap) (locs : List Loc) (ls : Array Slot), va_P z.1 vwCl (qw z B r.2.2.2 ++ Rr) H → va_D A0 (qw z B r.2.2.2 ++ Rr) → va_S A0 H0 H locs → lv_has ls 5 [(0, .ref (B 0)), (2, .int r.2.1), (3, .int r.2.2.1)] → W p l e rm_Q_mark s m args below meth c H locs 0 0 Q (F0 m r.1 ls [])) →
    ∀ (H : Heap) (locs : List Loc) (ls : Array Slot), va_P z.1 vwCl (qw z B S ++ Rr) H → va_D A0 (qw z B S ++ Rr) → va_S A0 H0 H locs → lv_has ls 5 [(0, .ref (B 0)), (2, .int v2), (3, .int v3)] → W p l e rm_Q_mark s m args below meth c H locs 0 0 Q (F0 m 65 ls []) := by
  obtain ⟨hx, hb, hml, hown, hts, hK, hN⟩ := id hM
  intro v2 v3 S r h hE
  refine zz_loop (G := fun (st : Int32 × Int32 × ZQ) => ∀ (H : Heap) (locs : List Loc) (ls : Array Slot), va_P z.1 vwCl (qw z B st.2.2 ++ Rr) H → va_D A0 (qw z B st.2.2 ++ Rr) → va_S A0 H0 H locs → lv_has ls 5 [(0, .ref (B 0)), (2, .int st.1), (3, .int st.2.1)] → W p l e rm_Q_mark s m args below meth c H locs 0 0 Q (F0 m 65 ls [])) (E := fun (r : Nat × Int32 × Int32 × ZQ) => ∀ (H : Heap) (locs : List Loc) (ls : Array Slot), va_P z.1 vwCl (qw z B r.2.2.2 ++ Rr) H → va_D A0 (qw z B r.2.2.2 ++ Rr) → va_S A0 H0 H locs → lv_has ls 5 [(0, .ref (B 0)), (2, .int r.2.1), (3, .int r.2.2.1)] → W p l e rm_Q_mark s m args below meth c H locs 0 0 Q (F0 m r.1 ls [])) ?_ n (v2, v3, S) r h hE
  clear h hE r v2 v3 S
  rintro ⟨v2, v3, S⟩ o h hG hE H locs ls hP hD hS hl
  have h : st_Q_mark_L65 n v2 v3 S = some o := h
  have hl : lv_has ls 5 [(0, .ref (B 0)), (2, .int v2), (3, .int v3)] := hl
  have hP : va_P z.1 vwCl (qw z B S ++ Rr) H := hP
  have hD : va_D A0 (qw z B S ++ Rr) := hD
  unfold st_Q_mark_L65 at h
  refine lv_iload_n hx hb d_Q_mark_65 rfl (lv_at hl 2 rfl) ?_
  refine lv_aload_n hx hb d_Q_mark_66 rfl (lv_at hl 0 rfl) ?_
  refine va_get (D := z.1) (ci := 5) (v := .int (qTy S)) (C := R_Q) (T := F_Q) (N := 28) hx hb hts i_Q hown hK hP 0 rfl rfl 1 (by decide) (hts _ wq_552) (fun _ h9 => h9) rfl d_Q_mark_67 ?_
  refine lv_icmp_ge (tgt := 196) hx hb d_Q_mark_70 (by decide) (fun c_13 => ?_) (fun c_13 => ?_)
  · replace h := zz_t c_13 h
    exact hE _ (Option.some.inj h).symm _ _ _ hP hD hS hl
  · replace h := zz_f c_13 h
    refine lv_aload_n hx hb d_Q_mark_73 rfl (lv_at hl 0 rfl) ?_
    refine va_get (D := z.1) (ci := 5) (v := .ref (B 18)) (C := R_Q) (T := F_Q) (N := 28) hx hb hts i_Q hown hK hP 0 rfl rfl 26 (by decide) (hts _ wq_577) (fun _ h9 => h9) rfl d_Q_mark_74 ?_
    refine lv_iload_n hx hb d_Q_mark_77 rfl (lv_at hl 2 rfl) ?_
    obtain ⟨c_14, h⟩ := zz_oob h
    refine va_zald hx hb hK hP 18 1 rfl rfl c_14 d_Q_mark_78 ?_
    refine lv_if_ne (tgt := 85) hx hb d_Q_mark_79 (by decide) (fun c_15 => ?_) (fun c_15 => ?_)
    · replace h := zz_f c_15 h
      refine lv_aload_n hx hb d_Q_mark_85 rfl (lv_at hl 0 rfl) ?_
      refine va_get (D := z.1) (ci := 5) (v := .ref (B 2)) (C := R_Q) (T := F_Q) (N := 28) hx hb hts i_Q hown hK hP 0 rfl rfl 3 (by decide) (hts _ wq_554) (fun _ h9 => h9) rfl d_Q_mark_86 ?_
      refine lv_iload_n hx hb d_Q_mark_89 rfl (lv_at hl 2 rfl) ?_
      obtain ⟨c_16, h⟩ := zz_oob h
      refine va_iald hx hb hK hP 2 0 rfl rfl c_16 d_Q_mark_90 ?_
      refine lv_if_lt (tgt := 122) hx hb d_Q_mark_91 (by decide) (fun c_17 => ?_) (fun c_17 => ?_)
      · replace h := zz_t c_17 h
        refine lv_iconst (v := 0) hx hb d_Q_mark_122 (by decide) ?_
        refine lv_istore (lv' := [(4, .int (0 : Int32)), (0, .ref (B 0)), (2, .int v2), (3, .int v3)]) hx hb d_Q_mark_123 hl (by decide) rfl (fun ls hl => ?_)
        replace h := zz_bL3 h
        obtain ⟨x_27, v2_27, v4_27, S_27, e_27, h⟩ := h
        refine lp_Q_mark_L125 hM hA n v3 _ _ _ _ e_27 ?_ _ _ _ hP hD hS (lv_sub hl [1, 2, 3, 0] rfl)
        intro H locs ls hP hD hS hl
        have hl : lv_has ls 5 [(0, .ref (B 0)), (2, .int v2_27), (3, .int v3), (4, .int v4_27)] := hl
        have hP : va_P z.1 vwCl (qw z B S_27 ++ Rr) H := hP
        have hD : va_D A0 (qw z B S_27 ++ Rr) := hD
        replace h := zz_grd h
        obtain ⟨c_27, h⟩ := h
        subst c_27
        refine W.eq (g2 := F0 m 190 ls []) rfl ?_
        refine lv_iinc (v := (v3 + (1 : Int32))) (lv' := [(3, .int (v3 + (1 : Int32))), (0, .ref (B 0)), (2, .int v2_27), (4, .int v4_27)]) hx hb d_Q_mark_190 hl (k := 2) rfl rfl (by decide) rfl (fun ls hl => ?_)
        refine lv_goto (tgt := 65) hx hb d_Q_mark_193 (by decide) ?_
        exact hG _ (Option.some.inj h).symm _ _ _ hP hD hS (lv_sub hl [1, 2, 0] rfl)
      · replace h := zz_f c_17 h
        refine lv_aload_n hx hb d_Q_mark_94 rfl (lv_at hl 0 rfl) ?_
        refine va_get (D := z.1) (ci := 5) (v := .ref (B 18)) (C := R_Q) (T := F_Q) (N := 28) hx hb hts i_Q hown hK hP 0 rfl rfl 26 (by decide) (hts _ wq_577) (fun _ h9 => h9) rfl d_Q_mark_95 ?_
        refine lv_aload_n hx hb d_Q_mark_98 rfl (lv_at hl 0 rfl) ?_
        refine va_get (D := z.1) (ci := 5) (v := .ref (B 2)) (C := R_Q) (T := F_Q) (N := 28) hx hb hts i_Q hown hK hP 0 rfl rfl 3 (by decide) (hts _ wq_554) (fun _ h9 => h9) rfl d_Q_mark_99 ?_
        refine lv_iload_n hx hb d_Q_mark_102 rfl (lv_at hl 2 rfl) ?_
        obtain ⟨c_28, h⟩ := zz_oob h
        refine va_iald hx hb hK hP 2 0 rfl rfl c_28 d_Q_mark_103 ?_
        obtain ⟨c_29, h⟩ := zz_oob h
        refine va_zald hx hb hK hP 18 1 rfl rfl c_29 d_Q_mark_104 ?_
        refine lv_if_ne (tgt := 122) hx hb d_Q_mark_105 (by decide) (fun c_30 => ?_) (fun c_30 => ?_)
        · replace h := zz_f c_30 h
          refine lv_iconst (v := 0) hx hb d_Q_mark_122 (by decide) ?_
          refine lv_istore (lv' := [(4, .int (0 : Int32)), (0, .ref (B 0)), (2, .int v2), (3, .int v3)]) hx hb d_Q_mark_123 hl (by decide) rfl (fun ls hl => ?_)
          replace h := zz_bL3 h
          obtain ⟨x_31, v2_31, v4_31, S_31, e_31, h⟩ := h
          refine lp_Q_mark_L125 hM hA n v3 _ _ _ _ e_31 ?_ _ _ _ hP hD hS (lv_sub hl [1, 2, 3, 0] rfl)
          intro H locs ls hP hD hS hl
          have hl : lv_has ls 5 [(0, .ref (B 0)), (2, .int v2_31), (3, .int v3), (4, .int v4_31)] := hl
          have hP : va_P z.1 vwCl (qw z B S_31 ++ Rr) H := hP
          have hD : va_D A0 (qw z B S_31 ++ Rr) := hD
          replace h := zz_grd h
          obtain ⟨c_31, h⟩ := h
          subst c_31
          refine W.eq (g2 := F0 m 190 ls []) rfl ?_
          refine lv_iinc (v := (v3 + (1 : Int32))) (lv' := [(3, .int (v3 + (1 : Int32))), (0, .ref (B 0)), (2, .int v2_31), (4, .int v4_31)]) hx hb d_Q_mark_190 hl (k := 2) rfl rfl (by decide) rfl (fun ls hl => ?_)
          refine lv_goto (tgt := 65) hx hb d_Q_mark_193 (by decide) ?_
          exact hG _ (Option.some.inj h).symm _ _ _ hP hD hS (lv_sub hl [1, 2, 0] rfl)
        · replace h := zz_t c_30 h
          refine lv_aload_n hx hb d_Q_mark_108 rfl (lv_at hl 0 rfl) ?_
          refine va_get (D := z.1) (ci := 5) (v := .ref (B 18)) (C := R_Q) (T := F_Q) (N := 28) hx hb hts i_Q hown hK hP 0 rfl rfl 26 (by decide) (hts _ wq_577) (fun _ h9 => h9) rfl d_Q_mark_109 ?_
          refine lv_aload_n hx hb d_Q_mark_112 rfl (lv_at hl 0 rfl) ?_
          refine va_get (D := z.1) (ci := 5) (v := .ref (B 2)) (C := R_Q) (T := F_Q) (N := 28) hx hb hts i_Q hown hK hP 0 rfl rfl 3 (by decide) (hts _ wq_554) (fun _ h9 => h9) rfl d_Q_mark_113 ?_
          refine lv_iload_n hx hb d_Q_mark_116 rfl (lv_at hl 2 rfl) ?_
          obtain ⟨c_32, h⟩ := zz_oob h
          refine va_iald hx hb hK hP 2 0 rfl rfl c_32 d_Q_mark_117 ?_
          refine lv_iconst (v := 1) hx hb d_Q_mark_118 (by decide) ?_
          obtain ⟨c_33, h⟩ := zz_oob h
          obtain ⟨S_34, e_34, h⟩ := zz_let h
          refine va_zast hx hb hK hP hD hS 18 1 rfl rfl c_33 d_Q_mark_119 (fun H locs hP hD hS => ?_)
          have hP : va_P z.1 vwCl (qw z B S_34 ++ Rr) H := by rw [e_34]; exact hP
          have hD : va_D A0 (qw z B S_34 ++ Rr) := by rw [e_34]; exact hD
          refine lv_iconst (v := 1) hx hb d_Q_mark_120 (by decide) ?_
          refine lv_istore_n (lv' := [(2, .int (1 : Int32)), (0, .ref (B 0)), (3, .int v3)]) hx hb d_Q_mark_121 rfl hl (by decide) rfl (fun ls hl => ?_)
          refine lv_iconst (v := 0) hx hb d_Q_mark_122 (by decide) ?_
          refine lv_istore (lv' := [(4, .int (0 : Int32)), (2, .int (1 : Int32)), (0, .ref (B 0)), (3, .int v3)]) hx hb d_Q_mark_123 hl (by decide) rfl (fun ls hl => ?_)
          replace h := zz_bL3 h
          obtain ⟨x_35, v2_35, v4_35, S_35, e_35, h⟩ := h
          refine lp_Q_mark_L125 hM hA n v3 _ _ _ _ e_35 ?_ _ _ _ hP hD hS (lv_sub hl [2, 1, 3, 0] rfl)
          intro H locs ls hP hD hS hl
          have hl : lv_has ls 5 [(0, .ref (B 0)), (2, .int v2_35), (3, .int v3), (4, .int v4_35)] := hl
          have hP : va_P z.1 vwCl (qw z B S_35 ++ Rr) H := hP
          have hD : va_D A0 (qw z B S_35 ++ Rr) := hD
          replace h := zz_grd h
          obtain ⟨c_35, h⟩ := h
          subst c_35
          refine W.eq (g2 := F0 m 190 ls []) rfl ?_
          refine lv_iinc (v := (v3 + (1 : Int32))) (lv' := [(3, .int (v3 + (1 : Int32))), (0, .ref (B 0)), (2, .int v2_35), (4, .int v4_35)]) hx hb d_Q_mark_190 hl (k := 2) rfl rfl (by decide) rfl (fun ls hl => ?_)
          refine lv_goto (tgt := 65) hx hb d_Q_mark_193 (by decide) ?_
          exact hG _ (Option.some.inj h).symm _ _ _ hP hD hS (lv_sub hl [1, 2, 0] rfl)
    · replace h := zz_t c_15 h
      refine lv_goto (tgt := 190) hx hb d_Q_mark_82 (by decide) ?_
      refine lv_iinc (v := (v3 + (1 : Int32))) (lv' := [(3, .int (v3 + (1 : Int32))), (0, .ref (B 0)), (2, .int v2)]) hx hb d_Q_mark_190 hl (k := 2) rfl rfl (by decide) rfl (fun ls hl => ?_)
      refine lv_goto (tgt := 65) hx hb d_Q_mark_193 (by decide) ?_
      exact hG _ (Option.some.inj h).symm _ _ _ hP hD hS (lv_sub hl [1, 2, 0] rfl)

set_option maxRecDepth 100000 in
set_option maxHeartbeats 4000000 in
theorem lp_Q_mark_L56 {z : zE} {B : Nat → Nat} {Rr : va_W} {p : Program} {l : Launch} {e : Env} {s : State} {m : MethodId} {args : Array Value} {below : List Frame} {meth : Method} {c : Code} {Q : State → Prop} {H0 : Heap} {A0 : Nat → Prop} (hM : zM z p s m args c b_Q_mark 5 R_Q) (hA : ∀ q : Nat, H0.size ≤ q → A0 q) (n : Nat) :
    ∀ (v2 : Int32) (S : ZQ) (r : Nat × Int32 × ZQ), fx_Q_mark_L56 n v2 S = some r → (∀ (H : Heap) (locs : List Loc) (ls : Array Slot), va_P z.1 vwCl (qw z B r.2.2 ++ Rr) H → va_D A0 (qw z B r.2.2 ++ Rr) → va_S A0 H0 H locs → lv_has ls 5 [(0, .ref (B 0)), (2, .int r.2.1)] → W p l e rm_Q_mark s m args below meth c H locs 0 0 Q (F0 m r.1 ls [])) →
    ∀ (H : Heap) (locs : List Loc) (ls : Array Slot), va_P z.1 vwCl (qw z B S ++ Rr) H → va_D A0 (qw z B S ++ Rr) → va_S A0 H0 H locs → lv_has ls 5 [(0, .ref (B 0)), (2, .int v2)] → W p l e rm_Q_mark s m args below meth c H locs 0 0 Q (F0 m 56 ls []) := by
  obtain ⟨hx, hb, hml, hown, hts, hK, hN⟩ := id hM
  intro v2 S r h hE
  refine zz_loop (G := fun (st : Int32 × ZQ) => ∀ (H : Heap) (locs : List Loc) (ls : Array Slot), va_P z.1 vwCl (qw z B st.2 ++ Rr) H → va_D A0 (qw z B st.2 ++ Rr) → va_S A0 H0 H locs → lv_has ls 5 [(0, .ref (B 0)), (2, .int st.1)] → W p l e rm_Q_mark s m args below meth c H locs 0 0 Q (F0 m 56 ls [])) (E := fun (r : Nat × Int32 × ZQ) => ∀ (H : Heap) (locs : List Loc) (ls : Array Slot), va_P z.1 vwCl (qw z B r.2.2 ++ Rr) H → va_D A0 (qw z B r.2.2 ++ Rr) → va_S A0 H0 H locs → lv_has ls 5 [(0, .ref (B 0)), (2, .int r.2.1)] → W p l e rm_Q_mark s m args below meth c H locs 0 0 Q (F0 m r.1 ls [])) ?_ n (v2, S) r h hE
  clear h hE r v2 S
  rintro ⟨v2, S⟩ o h hG hE H locs ls hP hD hS hl
  have h : st_Q_mark_L56 n v2 S = some o := h
  have hl : lv_has ls 5 [(0, .ref (B 0)), (2, .int v2)] := hl
  have hP : va_P z.1 vwCl (qw z B S ++ Rr) H := hP
  have hD : va_D A0 (qw z B S ++ Rr) := hD
  unfold st_Q_mark_L56 at h
  refine lv_iload_n hx hb d_Q_mark_56 rfl (lv_at hl 1 rfl) ?_
  refine lv_if_eq (tgt := 199) hx hb d_Q_mark_57 (by decide) (fun c_12 => ?_) (fun c_12 => ?_)
  · replace h := zz_t c_12 h
    exact hE _ (Option.some.inj h).symm _ _ _ hP hD hS hl
  · replace h := zz_f c_12 h
    refine lv_iconst (v := 0) hx hb d_Q_mark_60 (by decide) ?_
    refine lv_istore_n (lv' := [(2, .int (0 : Int32)), (0, .ref (B 0))]) hx hb d_Q_mark_61 rfl hl (by decide) rfl (fun ls hl => ?_)
    refine lv_bipush (v := 8) hx hb d_Q_mark_62 (by decide) ?_
    refine lv_istore_n (lv' := [(3, .int (8 : Int32)), (2, .int (0 : Int32)), (0, .ref (B 0))]) hx hb d_Q_mark_64 rfl hl (by decide) rfl (fun ls hl => ?_)
    replace h := zz_bL3 h
    obtain ⟨x_36, v2_36, v3_36, S_36, e_36, h⟩ := h
    refine lp_Q_mark_L65 hM hA n _ _ _ _ e_36 ?_ _ _ _ hP hD hS (lv_sub hl [2, 1, 0] rfl)
    intro H locs ls hP hD hS hl
    have hl : lv_has ls 5 [(0, .ref (B 0)), (2, .int v2_36), (3, .int v3_36)] := hl
    have hP : va_P z.1 vwCl (qw z B S_36 ++ Rr) H := hP
    have hD : va_D A0 (qw z B S_36 ++ Rr) := hD
    replace h := zz_grd h
    obtain ⟨c_36, h⟩ := h
    subst c_36
    refine W.eq (g2 := F0 m 196 ls []) rfl ?_
    refine lv_goto (tgt := 56) hx hb d_Q_mark_196 (by decide) ?_
    exact hG _ (Option.some.inj h).symm _ _ _ hP hD hS (lv_sub hl [0, 1] rfl)

set_option maxRecDepth 100000 in
set_option maxHeartbeats 4000000 in
theorem k_Q_mark (l : Launch) (z : zE) (B : Nat → Nat) (Rr : va_W) (n : Nat) (S : ZQ) (a1 : Int32) (S' : ZQ) (h : fx_Q_mark n S a1 = some S') : zC z l y_Q_mark w_Q_mark rm_Q_mark [.ref (B 0), .int a1] (qw z B S ++ Rr) none (qw z B S' ++ Rr) := by
  refine zz_of (by decide) (Nat.le_of_ble_eq_true rfl) ?_
  intro p e s m args below meth c A0 ls hM hr hlocks hA hP hD hl
  have hM : zM z p s m args c b_Q_mark 5 R_Q := hM
  obtain ⟨hx, hb, hml, hown, hts, hK, hN⟩ := id hM
  have hS : va_S A0 s.heap s.heap [] := va_S.rf
  have hl : lv_has ls 5 [(0, .ref (B 0)), (1, .int a1)] := hl
  have J41 : ∀ (v1 : Int32) (S : ZQ), jx_Q_mark_41 n v1 S = some S' → ∀ (H : Heap) (locs : List Loc) (ls : Array Slot), va_P z.1 vwCl (qw z B S ++ Rr) H → va_D A0 (qw z B S ++ Rr) → va_S A0 s.heap H locs → lv_has ls 5 [(0, .ref (B 0)), (1, .int v1)] → W p l e rm_Q_mark s m args below meth c H locs 0 0 (zQ z below args s A0 none (qw z B S' ++ Rr)) (F0 m 41 ls []) := by
    intro v1 S h H locs ls hP hD hS hl
    unfold jx_Q_mark_41 at h
    refine lv_iload_n hx hb d_Q_mark_41 rfl (lv_at hl 1 rfl) ?_
    refine lv_iconst (v := 2) hx hb d_Q_mark_42 (by decide) ?_
    refine lv_icmp_le (tgt := 54) hx hb d_Q_mark_43 (by decide) (fun c_11 => ?_) (fun c_11 => ?_)
    · replace h := zz_t c_11 h
      refine lv_iconst (v := 1) hx hb d_Q_mark_54 (by decide) ?_
      refine lv_istore_n (lv' := [(2, .int (1 : Int32)), (0, .ref (B 0)), (1, .int v1)]) hx hb d_Q_mark_55 rfl hl (by decide) rfl (fun ls hl => ?_)
      replace h := zz_bL2 h
      obtain ⟨x_37, v2_37, S_37, e_37, h⟩ := h
      refine lp_Q_mark_L56 hM hA n _ _ _ e_37 ?_ _ _ _ hP hD hS (lv_sub hl [1, 0] rfl)
      intro H locs ls hP hD hS hl
      have hl : lv_has ls 5 [(0, .ref (B 0)), (2, .int v2_37)] := hl
      have hP : va_P z.1 vwCl (qw z B S_37 ++ Rr) H := hP
      have hD : va_D A0 (qw z B S_37 ++ Rr) := hD
      replace h := zz_grd h
      obtain ⟨c_37, h⟩ := h
      subst c_37
      refine W.eq (g2 := F0 m 199 ls []) rfl ?_
      exact zz_vret (fun S => qw z B S ++ Rr) hx hb hr hlocks hP hD hS h d_Q_mark_199
    · replace h := zz_f c_11 h
      refine lv_aload_n hx hb d_Q_mark_46 rfl (lv_at hl 0 rfl) ?_
      refine va_get (D := z.1) (ci := 5) (v := .ref (B 18)) (C := R_Q) (T := F_Q) (N := 28) hx hb hts i_Q hown hK hP 0 rfl rfl 26 (by decide) (hts _ wq_577) (fun _ h9 => h9) rfl d_Q_mark_47 ?_
      refine lv_bipush (v := 7) hx hb d_Q_mark_50 (by decide) ?_
      refine lv_iconst (v := 1) hx hb d_Q_mark_52 (by decide) ?_
      obtain ⟨c_38, h⟩ := zz_oob h
      obtain ⟨S_39, e_39, h⟩ := zz_let h
      refine va_zast hx hb hK hP hD hS 18 1 rfl rfl c_38 d_Q_mark_53 (fun H locs hP hD hS => ?_)
      have hP : va_P z.1 vwCl (qw z B S_39 ++ Rr) H := by rw [e_39]; exact hP
      have hD : va_D A0 (qw z B S_39 ++ Rr) := by rw [e_39]; exact hD
      refine lv_iconst (v := 1) hx hb d_Q_mark_54 (by decide) ?_
      refine lv_istore_n (lv' := [(2, .int (1 : Int32)), (0, .ref (B 0)), (1, .int v1)]) hx hb d_Q_mark_55 rfl hl (by decide) rfl (fun ls hl => ?_)
      replace h := zz_bL2 h
      obtain ⟨x_40, v2_40, S_40, e_40, h⟩ := h
      refine lp_Q_mark_L56 hM hA n _ _ _ e_40 ?_ _ _ _ hP hD hS (lv_sub hl [1, 0] rfl)
      intro H locs ls hP hD hS hl
      have hl : lv_has ls 5 [(0, .ref (B 0)), (2, .int v2_40)] := hl
      have hP : va_P z.1 vwCl (qw z B S_40 ++ Rr) H := hP
      have hD : va_D A0 (qw z B S_40 ++ Rr) := hD
      replace h := zz_grd h
      obtain ⟨c_40, h⟩ := h
      subst c_40
      refine W.eq (g2 := F0 m 199 ls []) rfl ?_
      exact zz_vret (fun S => qw z B S ++ Rr) hx hb hr hlocks hP hD hS h d_Q_mark_199
  unfold fx_Q_mark at h
  refine lv_iconst (v := 0) hx hb d_Q_mark_0 (by decide) ?_
  refine lv_istore_n (lv' := [(2, .int (0 : Int32)), (0, .ref (B 0)), (1, .int a1)]) hx hb d_Q_mark_1 rfl hl (by decide) rfl (fun ls hl => ?_)
  replace h := zz_bL2 h
  obtain ⟨x_7, v2_7, S_7, e_7, h⟩ := h
  refine lp_Q_mark_L2 hM hA n a1 _ _ _ e_7 ?_ _ _ _ hP hD hS (lv_sub hl [1, 2, 0] rfl)
  intro H locs ls hP hD hS hl
  have hl : lv_has ls 5 [(0, .ref (B 0)), (1, .int a1), (2, .int v2_7)] := hl
  have hP : va_P z.1 vwCl (qw z B S_7 ++ Rr) H := hP
  have hD : va_D A0 (qw z B S_7 ++ Rr) := hD
  replace h := zz_grd h
  obtain ⟨c_7, h⟩ := h
  subst c_7
  refine W.eq (g2 := F0 m 30 ls []) rfl ?_
  refine lv_iload_n hx hb d_Q_mark_30 rfl (lv_at hl 1 rfl) ?_
  refine lv_if_ne (tgt := 41) hx hb d_Q_mark_31 (by decide) (fun c_8 => ?_) (fun c_8 => ?_)
  · replace h := zz_f c_8 h
    exact J41 _ _ h _ _ _ hP hD hS (lv_sub hl [0, 1] rfl)
  · replace h := zz_t c_8 h
    refine lv_aload_n hx hb d_Q_mark_34 rfl (lv_at hl 0 rfl) ?_
    refine va_get (D := z.1) (ci := 5) (v := .ref (B 18)) (C := R_Q) (T := F_Q) (N := 28) hx hb hts i_Q hown hK hP 0 rfl rfl 26 (by decide) (hts _ wq_577) (fun _ h9 => h9) rfl d_Q_mark_35 ?_
    refine lv_iconst (v := 1) hx hb d_Q_mark_38 (by decide) ?_
    refine lv_iconst (v := 1) hx hb d_Q_mark_39 (by decide) ?_
    obtain ⟨c_9, h⟩ := zz_oob h
    obtain ⟨S_10, e_10, h⟩ := zz_let h
    refine va_zast hx hb hK hP hD hS 18 1 rfl rfl c_9 d_Q_mark_40 (fun H locs hP hD hS => ?_)
    have hP : va_P z.1 vwCl (qw z B S_10 ++ Rr) H := by rw [e_10]; exact hP
    have hD : va_D A0 (qw z B S_10 ++ Rr) := by rw [e_10]; exact hD
    exact J41 _ _ h _ _ _ hP hD hS (lv_sub hl [0, 1] rfl)

abbrev b_Q_isUnder : ByteArray := prog_7_method_9_code
abbrev y_Q_isUnder : MethodName := ⟨"MemberChooserModel", "isUnder", "(II)Z"⟩
abbrev w_Q_isUnder : List Cond := Cond.code y_Q_isUnder b_Q_isUnder 3 (some .boolean) :: zTb
theorem d_Q_isUnder_0 : decode b_Q_isUnder 0 = .ok (.aload_n 0, 1) := by decide +kernel
theorem d_Q_isUnder_1 : decode b_Q_isUnder 1 = .ok (.iload_n 1, 1) := by decide +kernel
theorem d_Q_isUnder_2 : decode b_Q_isUnder 2 = .ok (.invokevirtual 84, 3) := by decide +kernel
theorem d_Q_isUnder_5 : decode b_Q_isUnder 5 = .ok (.aload_n 0, 1) := by decide +kernel
theorem d_Q_isUnder_6 : decode b_Q_isUnder 6 = .ok (.getfield 67, 3) := by decide +kernel
theorem d_Q_isUnder_9 : decode b_Q_isUnder 9 = .ok (.iload_n 2, 1) := by decide +kernel
theorem d_Q_isUnder_10 : decode b_Q_isUnder 10 = .ok (.baload, 1) := by decide +kernel
theorem d_Q_isUnder_11 : decode b_Q_isUnder 11 = .ok (.ireturn, 1) := by decide +kernel
abbrev rm_Q_isUnder : Room := { frames := 1, cells := 0, slots := 0, locals := 24 }
def fx_Q_isUnder (n : Nat) (S : ZQ) (a1 : Int32) (a2 : Int32) : Option (Int32 × ZQ) :=
  zbind1 (fx_Q_mark n S a1) (fun S_1 =>
  (if zoob a2 32 then none else
  (if ((qIo S_1) a2.toNatClampNeg) = 0 ∨ ((qIo S_1) a2.toNatClampNeg) = 1 then some (((qIo S_1) a2.toNatClampNeg), S_1) else none)))

set_option maxRecDepth 100000 in
set_option maxHeartbeats 4000000 in
theorem k_Q_isUnder (l : Launch) (z : zE) (B : Nat → Nat) (Rr : va_W) (n : Nat) (S : ZQ) (a1 : Int32) (a2 : Int32) (r0 : Int32) (S' : ZQ) (h : fx_Q_isUnder n S a1 a2 = some (r0, S')) : zC z l y_Q_isUnder w_Q_isUnder rm_Q_isUnder [.ref (B 0), .int a1, .int a2] (qw z B S ++ Rr) (some (.int r0)) (qw z B S' ++ Rr) := by
  refine zz_of (by decide) (Nat.le_of_ble_eq_true rfl) ?_
  intro p e s m args below meth c A0 ls hM hr hlocks hA hP hD hl
  have hM : zM z p s m args c b_Q_isUnder 3 R_Q := hM
  obtain ⟨hx, hb, hml, hown, hts, hK, hN⟩ := id hM
  have hS : va_S A0 s.heap s.heap [] := va_S.rf
  have hl : lv_has ls 3 [(0, .ref (B 0)), (1, .int a1), (2, .int a2)] := hl
  unfold fx_Q_isUnder at h
  refine lv_aload_n hx hb d_Q_isUnder_0 rfl (lv_at hl 0 rfl) ?_
  refine lv_iload_n hx hb d_Q_isUnder_1 rfl (lv_at hl 1 rfl) ?_
  obtain ⟨S_1, e_1, h⟩ := zz_bind1 h
  refine zz_goV (zz_runV (As := [.int a1]) (rest := []) (k_Q_mark l z B Rr n _ _ _ e_1) ⟨hx, hb, hml, hown, hts⟩ (cwV 1 hts (zz_gV wq_668 wq_670 wp_22 wq_6 wq_671) rfl rfl rfl (by decide +kernel) ⟨Nat.le_of_ble_eq_true rfl, Nat.le_of_ble_eq_true rfl⟩) hK hN hP hD (va_recv hK hP (ci := 5) (q0 := 0) rfl rfl) rfl hl.1 rfl (Nat.le_of_ble_eq_true rfl) d_Q_isUnder_2 ⟨Nat.le_of_ble_eq_true rfl, Nat.le_of_ble_eq_true rfl⟩) hD hS hA (fun H locs hP hD hS => ?_)
  refine lv_aload_n hx hb d_Q_isUnder_5 rfl (lv_at hl 0 rfl) ?_
  refine va_get (D := z.1) (ci := 5) (v := .ref (B 18)) (C := R_Q) (T := F_Q) (N := 28) hx hb hts i_Q hown hK hP 0 rfl rfl 26 (by decide) (hts _ wq_577) (fun _ h9 => h9) rfl d_Q_isUnder_6 ?_
  refine lv_iload_n hx hb d_Q_isUnder_9 rfl (lv_at hl 2 rfl) ?_
  obtain ⟨c_2, h⟩ := zz_oob h
  refine va_zald hx hb hK hP 18 1 rfl rfl c_2 d_Q_isUnder_10 ?_
  obtain ⟨c_3, h⟩ := zz_grd h
  exact zz_zret (fun S => qw z B S ++ Rr) hx hb hr hlocks hP hD hS (zz_bool c_3) h d_Q_isUnder_11

abbrev b_Q_subtype : ByteArray := prog_7_method_10_code
abbrev y_Q_subtype : MethodName := ⟨"MemberChooserModel", "subtype", "(II)Z"⟩
abbrev w_Q_subtype : List Cond := Cond.code y_Q_subtype b_Q_subtype 3 (some .boolean) :: zTb
theorem d_Q_subtype_0 : decode b_Q_subtype 0 = .ok (.aload_n 0, 1) := by decide +kernel
theorem d_Q_subtype_1 : decode b_Q_subtype 1 = .ok (.iconst 0, 1) := by decide +kernel
theorem d_Q_subtype_2 : decode b_Q_subtype 2 = .ok (.putfield 73, 3) := by decide +kernel
theorem d_Q_subtype_5 : decode b_Q_subtype 5 = .ok (.aload_n 0, 1) := by decide +kernel
theorem d_Q_subtype_6 : decode b_Q_subtype 6 = .ok (.iload_n 1, 1) := by decide +kernel
theorem d_Q_subtype_7 : decode b_Q_subtype 7 = .ok (.invokevirtual 88, 3) := by decide +kernel
theorem d_Q_subtype_10 : decode b_Q_subtype 10 = .ok (.ifCond .eq 24, 3) := by decide +kernel
theorem d_Q_subtype_13 : decode b_Q_subtype 13 = .ok (.aload_n 0, 1) := by decide +kernel
theorem d_Q_subtype_14 : decode b_Q_subtype 14 = .ok (.iload_n 2, 1) := by decide +kernel
theorem d_Q_subtype_15 : decode b_Q_subtype 15 = .ok (.invokevirtual 88, 3) := by decide +kernel
theorem d_Q_subtype_18 : decode b_Q_subtype 18 = .ok (.ifCond .eq 16, 3) := by decide +kernel
theorem d_Q_subtype_21 : decode b_Q_subtype 21 = .ok (.aload_n 0, 1) := by decide +kernel
theorem d_Q_subtype_22 : decode b_Q_subtype 22 = .ok (.iload_n 1, 1) := by decide +kernel
theorem d_Q_subtype_23 : decode b_Q_subtype 23 = .ok (.iload_n 2, 1) := by decide +kernel
theorem d_Q_subtype_24 : decode b_Q_subtype 24 = .ok (.invokevirtual 91, 3) := by decide +kernel
theorem d_Q_subtype_27 : decode b_Q_subtype 27 = .ok (.ifCond .eq 7, 3) := by decide +kernel
theorem d_Q_subtype_30 : decode b_Q_subtype 30 = .ok (.iconst 1, 1) := by decide +kernel
theorem d_Q_subtype_31 : decode b_Q_subtype 31 = .ok (.goto 4, 3) := by decide +kernel
theorem d_Q_subtype_34 : decode b_Q_subtype 34 = .ok (.iconst 0, 1) := by decide +kernel
theorem d_Q_subtype_35 : decode b_Q_subtype 35 = .ok (.ireturn, 1) := by decide +kernel
abbrev rm_Q_subtype : Room := { frames := 2, cells := 0, slots := 0, locals := 46 }
def fx_Q_subtype (n : Nat) (S : ZQ) (a1 : Int32) (a2 : Int32) : Option (Int32 × ZQ) :=
  zlet (qTh' S (0 : Int32)) (fun S_1 =>
  zbind (fx_Q_isType n S_1 a1) (fun r_2 S_2 =>
  (if r_2 = 0 then
  some ((0 : Int32), S_2)
  else
  zbind (fx_Q_isType n S_2 a2) (fun r_4 S_4 =>
    (if r_4 = 0 then
    some ((0 : Int32), S_4)
    else
    zbind (fx_Q_isUnder n S_4 a1 a2) (fun r_6 S_6 =>
      (if r_6 = 0 then
      some ((0 : Int32), S_6)
      else
      some ((1 : Int32), S_6))))))))

set_option maxRecDepth 100000 in
set_option maxHeartbeats 4000000 in
theorem k_Q_subtype (l : Launch) (z : zE) (B : Nat → Nat) (Rr : va_W) (n : Nat) (S : ZQ) (a1 : Int32) (a2 : Int32) (r0 : Int32) (S' : ZQ) (h : fx_Q_subtype n S a1 a2 = some (r0, S')) : zC z l y_Q_subtype w_Q_subtype rm_Q_subtype [.ref (B 0), .int a1, .int a2] (qw z B S ++ Rr) (some (.int r0)) (qw z B S' ++ Rr) := by
  refine zz_of (by decide) (Nat.le_of_ble_eq_true rfl) ?_
  intro p e s m args below meth c A0 ls hM hr hlocks hA hP hD hl
  have hM : zM z p s m args c b_Q_subtype 3 R_Q := hM
  obtain ⟨hx, hb, hml, hown, hts, hK, hN⟩ := id hM
  have hS : va_S A0 s.heap s.heap [] := va_S.rf
  have hl : lv_has ls 3 [(0, .ref (B 0)), (1, .int a1), (2, .int a2)] := hl
  unfold fx_Q_subtype at h
  refine lv_aload_n hx hb d_Q_subtype_0 rfl (lv_at hl 0 rfl) ?_
  refine lv_iconst (v := 0) hx hb d_Q_subtype_1 (by decide) ?_
  obtain ⟨S_1, e_1, h⟩ := zz_let h
  refine va_put (D := z.1) (ci := 5) (v := .int (0 : Int32)) (ty := .int) (C := R_Q) (T := F_Q) (N := 28) hx hb hts i_Q ty_Q ty_Q_ok n_Q hown hK hP hD hS 0 rfl rfl 0 (by decide) (hts _ wq_551) (fun _ h9 => h9) rfl (by decide +kernel) rfl rfl (Nat.le_of_ble_eq_true rfl) d_Q_subtype_2 (fun H locs hP hD hS => ?_)
  have hP : va_P z.1 vwCl (qw z B S_1 ++ Rr) H := by rw [e_1]; exact hP
  have hD : va_D A0 (qw z B S_1 ++ Rr) := by rw [e_1]; exact hD
  refine lv_aload_n hx hb d_Q_subtype_5 rfl (lv_at hl 0 rfl) ?_
  refine lv_iload_n hx hb d_Q_subtype_6 rfl (lv_at hl 1 rfl) ?_
  obtain ⟨r_2, S_2, e_2, h⟩ := zz_bind h
  refine zz_goI (zz_runV (As := [.int a1]) (rest := []) (k_Q_isType l z B Rr n _ _ _ _ e_2) ⟨hx, hb, hml, hown, hts⟩ (cwV 1 hts (zz_gV wq_660 wq_662 wp_20 wq_6 wq_663) rfl rfl rfl (by decide +kernel) ⟨Nat.le_of_ble_eq_true rfl, Nat.le_of_ble_eq_true rfl⟩) hK hN hP hD (va_recv hK hP (ci := 5) (q0 := 0) rfl rfl) rfl hl.1 rfl (Nat.le_of_ble_eq_true rfl) d_Q_subtype_7 ⟨Nat.le_of_ble_eq_true rfl, Nat.le_of_ble_eq_true rfl⟩) hD hS hA (fun H locs hP hD hS => ?_)
  refine lv_if_eq (tgt := 34) hx hb d_Q_subtype_10 (by decide) (fun c_3 => ?_) (fun c_3 => ?_)
  · replace h := zz_t c_3 h
    refine lv_iconst (v := 0) hx hb d_Q_subtype_34 (by decide) ?_
    exact zz_zret (fun S => qw z B S ++ Rr) hx hb hr hlocks hP hD hS rfl h d_Q_subtype_35
  · replace h := zz_f c_3 h
    refine lv_aload_n hx hb d_Q_subtype_13 rfl (lv_at hl 0 rfl) ?_
    refine lv_iload_n hx hb d_Q_subtype_14 rfl (lv_at hl 2 rfl) ?_
    obtain ⟨r_4, S_4, e_4, h⟩ := zz_bind h
    refine zz_goI (zz_runV (As := [.int a2]) (rest := []) (k_Q_isType l z B Rr n _ _ _ _ e_4) ⟨hx, hb, hml, hown, hts⟩ (cwV 1 hts (zz_gV wq_660 wq_662 wp_20 wq_6 wq_663) rfl rfl rfl (by decide +kernel) ⟨Nat.le_of_ble_eq_true rfl, Nat.le_of_ble_eq_true rfl⟩) hK hN hP hD (va_recv hK hP (ci := 5) (q0 := 0) rfl rfl) rfl hl.1 rfl (Nat.le_of_ble_eq_true rfl) d_Q_subtype_15 ⟨Nat.le_of_ble_eq_true rfl, Nat.le_of_ble_eq_true rfl⟩) hD hS hA (fun H locs hP hD hS => ?_)
    refine lv_if_eq (tgt := 34) hx hb d_Q_subtype_18 (by decide) (fun c_5 => ?_) (fun c_5 => ?_)
    · replace h := zz_t c_5 h
      refine lv_iconst (v := 0) hx hb d_Q_subtype_34 (by decide) ?_
      exact zz_zret (fun S => qw z B S ++ Rr) hx hb hr hlocks hP hD hS rfl h d_Q_subtype_35
    · replace h := zz_f c_5 h
      refine lv_aload_n hx hb d_Q_subtype_21 rfl (lv_at hl 0 rfl) ?_
      refine lv_iload_n hx hb d_Q_subtype_22 rfl (lv_at hl 1 rfl) ?_
      refine lv_iload_n hx hb d_Q_subtype_23 rfl (lv_at hl 2 rfl) ?_
      obtain ⟨r_6, S_6, e_6, h⟩ := zz_bind h
      refine zz_goI (zz_runV (As := [.int a1, .int a2]) (rest := []) (k_Q_isUnder l z B Rr n _ _ _ _ _ e_6) ⟨hx, hb, hml, hown, hts⟩ (cwV 2 hts (zz_gV wq_664 wq_666 wp_21 wq_6 wq_667) rfl rfl rfl (by decide +kernel) ⟨Nat.le_of_ble_eq_true rfl, Nat.le_of_ble_eq_true rfl⟩) hK hN hP hD (va_recv hK hP (ci := 5) (q0 := 0) rfl rfl) rfl hl.1 rfl (Nat.le_of_ble_eq_true rfl) d_Q_subtype_24 ⟨Nat.le_of_ble_eq_true rfl, Nat.le_of_ble_eq_true rfl⟩) hD hS hA (fun H locs hP hD hS => ?_)
      refine lv_if_eq (tgt := 34) hx hb d_Q_subtype_27 (by decide) (fun c_7 => ?_) (fun c_7 => ?_)
      · replace h := zz_t c_7 h
        refine lv_iconst (v := 0) hx hb d_Q_subtype_34 (by decide) ?_
        exact zz_zret (fun S => qw z B S ++ Rr) hx hb hr hlocks hP hD hS rfl h d_Q_subtype_35
      · replace h := zz_f c_7 h
        refine lv_iconst (v := 1) hx hb d_Q_subtype_30 (by decide) ?_
        refine lv_goto (tgt := 35) hx hb d_Q_subtype_31 (by decide) ?_
        exact zz_zret (fun S => qw z B S ++ Rr) hx hb hr hlocks hP hD hS rfl h d_Q_subtype_35

