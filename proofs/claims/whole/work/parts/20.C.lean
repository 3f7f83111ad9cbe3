abbrev b_M_isFull : ByteArray := prog_4_method_2_code
abbrev y_M_isFull : MethodName := ⟨"MemberChooser$Members", "isFull", "()Z"⟩
abbrev w_M_isFull : List Cond := Cond.code y_M_isFull b_M_isFull 1 (some .boolean) :: zTb
theorem d_M_isFull_0 : decode b_M_isFull 0 = .ok (.aload_n 0, 1) := by decide +kernel
theorem d_M_isFull_1 : decode b_M_isFull 1 = .ok (.getfield 29, 3) := by decide +kernel
theorem d_M_isFull_4 : decode b_M_isFull 4 = .ok (.bipush 80, 2) := by decide +kernel
theorem d_M_isFull_6 : decode b_M_isFull 6 = .ok (.if_icmp .lt 7, 3) := by decide +kernel
theorem d_M_isFull_9 : decode b_M_isFull 9 = .ok (.iconst 1, 1) := by decide +kernel
theorem d_M_isFull_10 : decode b_M_isFull 10 = .ok (.goto 4, 3) := by decide +kernel
theorem d_M_isFull_13 : decode b_M_isFull 13 = .ok (.iconst 0, 1) := by decide +kernel
theorem d_M_isFull_14 : decode b_M_isFull 14 = .ok (.ireturn, 1) := by decide +kernel
abbrev rm_M_isFull : Room := { frames := 0, cells := 0, slots := 0, locals := 0 }
def fx_M_isFull (n : Nat) (S : ZC) : Option (Int32 × ZC) :=
  (if (mTo S) < (80 : Int32) then
  some ((0 : Int32), S)
  else
  some ((1 : Int32), S))

set_option maxRecDepth 100000 in
set_option maxHeartbeats 4000000 in
theorem k_M_isFull (l : Launch) (z : zE) (A : Nat → Nat) (Rr : va_W) (n : Nat) (S : ZC) (r0 : Int32) (S' : ZC) (h : fx_M_isFull n S  = some (r0, S')) : zC z l y_M_isFull w_M_isFull rm_M_isFull [.ref (A 11)] (cw z A S ++ Rr) (some (.int r0)) (cw z A S' ++ Rr) := by
  refine zz_of (by decide) (Nat.le_of_ble_eq_true rfl) ?_
  intro p e s m args below meth c A0 ls hM hr hlocks hA hP hD hl
  have hM : zM z p s m args c b_M_isFull 1 R_M := hM
  obtain ⟨hx, hb, hml, hown, hts, hK, hN⟩ := id hM
  have hS : va_S A0 s.heap s.heap [] := va_S.rf
  have hl : lv_has ls 1 [(0, .ref (A 11))] := hl
  unfold fx_M_isFull at h
  refine lv_aload_n hx hb d_M_isFull_0 rfl (lv_at hl 0 rfl) ?_
  refine va_get (D := z.1) (ci := 2) (v := .int (mTo S)) (C := R_M) (T := F_M) (N := 6) hx hb hts i_M hown hK hP 11 rfl rfl 5 (by decide) (hts _ wq_73) (fun _ h9 => h9) rfl d_M_isFull_1 ?_
  refine lv_bipush (v := 80) hx hb d_M_isFull_4 (by decide) ?_
  refine lv_icmp_lt (tgt := 13) hx hb d_M_isFull_6 (by decide) (fun c_1 => ?_) (fun c_1 => ?_)
  · replace h := zz_t c_1 h
    refine lv_iconst (v := 0) hx hb d_M_isFull_13 (by decide) ?_
    exact zz_zret (fun S => cw z A S ++ Rr) hx hb hr hlocks hP hD hS rfl h d_M_isFull_14
  · replace h := zz_f c_1 h
    refine lv_iconst (v := 1) hx hb d_M_isFull_9 (by decide) ?_
    refine lv_goto (tgt := 14) hx hb d_M_isFull_10 (by decide) ?_
    exact zz_zret (fun S => cw z A S ++ Rr) hx hb hr hlocks hP hD hS rfl h d_M_isFull_14

abbrev b_M_isOf : ByteArray := prog_4_method_5_code
abbrev y_M_isOf : MethodName := ⟨"MemberChooser$Members", "isOf", "(III)Z"⟩
abbrev w_M_isOf : List Cond := Cond.code y_M_isOf b_M_isOf 4 (some .boolean) :: zTb
theorem d_M_isOf_0 : decode b_M_isOf 0 = .ok (.aload_n 0, 1) := by decide +kernel
theorem d_M_isOf_1 : decode b_M_isOf 1 = .ok (.getfield 11, 3) := by decide +kernel
theorem d_M_isOf_4 : decode b_M_isOf 4 = .ok (.iload_n 1, 1) := by decide +kernel
theorem d_M_isOf_5 : decode b_M_isOf 5 = .ok (.iaload, 1) := by decide +kernel
theorem d_M_isOf_6 : decode b_M_isOf 6 = .ok (.iload_n 2, 1) := by decide +kernel
theorem d_M_isOf_7 : decode b_M_isOf 7 = .ok (.if_icmp .ne 17, 3) := by decide +kernel
theorem d_M_isOf_10 : decode b_M_isOf 10 = .ok (.aload_n 0, 1) := by decide +kernel
theorem d_M_isOf_11 : decode b_M_isOf 11 = .ok (.getfield 15, 3) := by decide +kernel
theorem d_M_isOf_14 : decode b_M_isOf 14 = .ok (.iload_n 1, 1) := by decide +kernel
theorem d_M_isOf_15 : decode b_M_isOf 15 = .ok (.iaload, 1) := by decide +kernel
theorem d_M_isOf_16 : decode b_M_isOf 16 = .ok (.iload_n 3, 1) := by decide +kernel
theorem d_M_isOf_17 : decode b_M_isOf 17 = .ok (.if_icmp .ne 7, 3) := by decide +kernel
theorem d_M_isOf_20 : decode b_M_isOf 20 = .ok (.iconst 1, 1) := by decide +kernel
theorem d_M_isOf_21 : decode b_M_isOf 21 = .ok (.goto 4, 3) := by decide +kernel
theorem d_M_isOf_24 : decode b_M_isOf 24 = .ok (.iconst 0, 1) := by decide +kernel
theorem d_M_isOf_25 : decode b_M_isOf 25 = .ok (.ireturn, 1) := by decide +kernel
abbrev rm_M_isOf : Room := { frames := 0, cells := 0, slots := 0, locals := 0 }
def fx_M_isOf (n : Nat) (S : ZC) (a1 : Int32) (a2 : Int32) (a3 : Int32) : Option (Int32 × ZC) :=
  (if zoob a1 80 then none else
  (if ((mOw S) a1.toNatClampNeg) = a2 then
  (if zoob a1 80 then none else
    (if ((mNa S) a1.toNatClampNeg) = a3 then
    some ((1 : Int32), S)
    else
    some ((0 : Int32), S)))
  else
  some ((0 : Int32), S)))

set_option maxRecDepth 100000 in
set_option maxHeartbeats 4000000 in
theorem k_M_isOf (l : Launch) (z : zE) (A : Nat → Nat) (Rr : va_W) (n : Nat) (S : ZC) (a1 : Int32) (a2 : Int32) (a3 : Int32) (r0 : Int32) (S' : ZC) (h : fx_M_isOf n S a1 a2 a3 = some (r0, S')) : zC z l y_M_isOf w_M_isOf rm_M_isOf [.ref (A 11), .int a1, .int a2, .int a3] (cw z A S ++ Rr) (some (.int r0)) (cw z A S' ++ Rr) := by
  refine zz_of (by decide) (Nat.le_of_ble_eq_true rfl) ?_
  intro p e s m args below meth c A0 ls hM hr hlocks hA hP hD hl
  have hM : zM z p s m args c b_M_isOf 4 R_M := hM
  obtain ⟨hx, hb, hml, hown, hts, hK, hN⟩ := id hM
  have hS : va_S A0 s.heap s.heap [] := va_S.rf
  have hl : lv_has ls 4 [(0, .ref (A 11)), (1, .int a1), (2, .int a2), (3, .int a3)] := hl
  unfold fx_M_isOf at h
  refine lv_aload_n hx hb d_M_isOf_0 rfl (lv_at hl 0 rfl) ?_
  refine va_get (D := z.1) (ci := 2) (v := .ref (A 12)) (C := R_M) (T := F_M) (N := 6) hx hb hts i_M hown hK hP 11 rfl rfl 0 (by decide) (hts _ wq_66) (fun _ h9 => h9) rfl d_M_isOf_1 ?_
  refine lv_iload_n hx hb d_M_isOf_4 rfl (lv_at hl 1 rfl) ?_
  obtain ⟨c_1, h⟩ := zz_oob h
  refine va_iald hx hb hK hP 12 0 rfl rfl c_1 d_M_isOf_5 ?_
  refine lv_iload_n hx hb d_M_isOf_6 rfl (lv_at hl 2 rfl) ?_
  refine lv_icmp_ne (tgt := 24) hx hb d_M_isOf_7 (by decide) (fun c_2 => ?_) (fun c_2 => ?_)
  · replace h := zz_f c_2 h
    refine lv_iconst (v := 0) hx hb d_M_isOf_24 (by decide) ?_
    exact zz_zret (fun S => cw z A S ++ Rr) hx hb hr hlocks hP hD hS rfl h d_M_isOf_25
  · replace h := zz_t c_2 h
    refine lv_aload_n hx hb d_M_isOf_10 rfl (lv_at hl 0 rfl) ?_
    refine va_get (D := z.1) (ci := 2) (v := .ref (A 13)) (C := R_M) (T := F_M) (N := 6) hx hb hts i_M hown hK hP 11 rfl rfl 1 (by decide) (hts _ wq_67) (fun _ h9 => h9) rfl d_M_isOf_11 ?_
    refine lv_iload_n hx hb d_M_isOf_14 rfl (lv_at hl 1 rfl) ?_
    obtain ⟨c_3, h⟩ := zz_oob h
    refine va_iald hx hb hK hP 13 0 rfl rfl c_3 d_M_isOf_15 ?_
    refine lv_iload_n hx hb d_M_isOf_16 rfl (lv_at hl 3 rfl) ?_
    refine lv_icmp_ne (tgt := 24) hx hb d_M_isOf_17 (by decide) (fun c_4 => ?_) (fun c_4 => ?_)
    · replace h := zz_f c_4 h
      refine lv_iconst (v := 0) hx hb d_M_isOf_24 (by decide) ?_
      exact zz_zret (fun S => cw z A S ++ Rr) hx hb hr hlocks hP hD hS rfl h d_M_isOf_25
    · replace h := zz_t c_4 h
      refine lv_iconst (v := 1) hx hb d_M_isOf_20 (by decide) ?_
      refine lv_goto (tgt := 25) hx hb d_M_isOf_21 (by decide) ?_
      exact zz_zret (fun S => cw z A S ++ Rr) hx hb hr hlocks hP hD hS rfl h d_M_isOf_25

abbrev b_M_isTold : ByteArray := prog_4_method_3_code
abbrev y_M_isTold : MethodName := ⟨"MemberChooser$Members", "isTold", "(IIIJ)Z"⟩
abbrev w_M_isTold : List Cond := Cond.code y_M_isTold b_M_isTold 7 (some .boolean) :: zTb
theorem d_M_isTold_0 : decode b_M_isTold 0 = .ok (.iconst 0, 1) := by decide +kernel
theorem d_M_isTold_1 : decode b_M_isTold 1 = .ok (.istore 6, 2) := by decide +kernel
theorem d_M_isTold_3 : decode b_M_isTold 3 = .ok (.iload 6, 2) := by decide +kernel
theorem d_M_isTold_5 : decode b_M_isTold 5 = .ok (.aload_n 0, 1) := by decide +kernel
theorem d_M_isTold_6 : decode b_M_isTold 6 = .ok (.getfield 29, 3) := by decide +kernel
theorem d_M_isTold_9 : decode b_M_isTold 9 = .ok (.if_icmp .ge 46, 3) := by decide +kernel
theorem d_M_isTold_12 : decode b_M_isTold 12 = .ok (.aload_n 0, 1) := by decide +kernel
theorem d_M_isTold_13 : decode b_M_isTold 13 = .ok (.iload 6, 2) := by decide +kernel
theorem d_M_isTold_15 : decode b_M_isTold 15 = .ok (.iload_n 1, 1) := by decide +kernel
theorem d_M_isTold_16 : decode b_M_isTold 16 = .ok (.iload_n 2, 1) := by decide +kernel
theorem d_M_isTold_17 : decode b_M_isTold 17 = .ok (.invokevirtual 33, 3) := by decide +kernel
theorem d_M_isTold_20 : decode b_M_isTold 20 = .ok (.ifCond .eq 29, 3) := by decide +kernel
theorem d_M_isTold_23 : decode b_M_isTold 23 = .ok (.aload_n 0, 1) := by decide +kernel
theorem d_M_isTold_24 : decode b_M_isTold 24 = .ok (.getfield 18, 3) := by decide +kernel
theorem d_M_isTold_27 : decode b_M_isTold 27 = .ok (.iload 6, 2) := by decide +kernel
theorem d_M_isTold_29 : decode b_M_isTold 29 = .ok (.iaload, 1) := by decide +kernel
theorem d_M_isTold_30 : decode b_M_isTold 30 = .ok (.iload_n 3, 1) := by decide +kernel
theorem d_M_isTold_31 : decode b_M_isTold 31 = .ok (.if_icmp .ne 18, 3) := by decide +kernel
theorem d_M_isTold_34 : decode b_M_isTold 34 = .ok (.aload_n 0, 1) := by decide +kernel
theorem d_M_isTold_35 : decode b_M_isTold 35 = .ok (.getfield 21, 3) := by decide +kernel
theorem d_M_isTold_38 : decode b_M_isTold 38 = .ok (.iload 6, 2) := by decide +kernel
theorem d_M_isTold_40 : decode b_M_isTold 40 = .ok (.laload, 1) := by decide +kernel
theorem d_M_isTold_41 : decode b_M_isTold 41 = .ok (.lload 4, 2) := by decide +kernel
theorem d_M_isTold_43 : decode b_M_isTold 43 = .ok (.lcmp, 1) := by decide +kernel
theorem d_M_isTold_44 : decode b_M_isTold 44 = .ok (.ifCond .ne 5, 3) := by decide +kernel
theorem d_M_isTold_47 : decode b_M_isTold 47 = .ok (.iconst 1, 1) := by decide +kernel
theorem d_M_isTold_48 : decode b_M_isTold 48 = .ok (.ireturn, 1) := by decide +kernel
theorem d_M_isTold_49 : decode b_M_isTold 49 = .ok (.iinc 6 1, 3) := by decide +kernel
theorem d_M_isTold_52 : decode b_M_isTold 52 = .ok (.goto (-49), 3) := by decide +kernel
theorem d_M_isTold_55 : decode b_M_isTold 55 = .ok (.iconst 0, 1) := by decide +kernel
theorem d_M_isTold_56 : decode b_M_isTold 56 = .ok (.ireturn, 1) := by decide +kernel
abbrev rm_M_isTold : Room := { frames := 1, cells := 0, slots := 0, locals := 23 }
def st_M_isTold_L3 (n : Nat) (v1 : Int32) (v2 : Int32) (v3 : Int32) (v4 : Int64) (v6 : Int32) (S : ZC) : Option ((Int32 × ZC) ⊕ (Nat × Int32 × ZC)) :=
  (if (mTo S) ≤ v6 then
  some (.inr (55, v6, S))
  else
  zbind (fx_M_isOf n S v6 v1 v2) (fun r_2 S_2 =>
    (if r_2 = 0 then
    some (.inl ((v6 + (1 : Int32)), S_2))
    else
    (if zoob v6 80 then none else
      (if ((mSz S_2) v6.toNatClampNeg) = v3 then
      (if zoob v6 80 then none else
        (if (lg_cmp ((mPa S_2) v6.toNatClampNeg) v4) = 0 then
        some (.inr (47, v6, S_2))
        else
        some (.inl ((v6 + (1 : Int32)), S_2))))
      else
      some (.inl ((v6 + (1 : Int32)), S_2)))))))

def fx_M_isTold_L3 (n : Nat) (v1 : Int32) (v2 : Int32) (v3 : Int32) (v4 : Int64) (v6 : Int32) (S : ZC) : Option (Nat × Int32 × ZC) := zloop (fun (st : Int32 × ZC) => st_M_isTold_L3 n v1 v2 v3 v4 st.1 st.2) n (v6, S)

def fx_M_isTold (n : Nat) (S : ZC) (a1 : Int32) (a2 : Int32) (a3 : Int32) (a4 : Int64) : Option (Int32 × ZC) :=
  zbL2 (fx_M_isTold_L3 n a1 a2 a3 a4 (0 : Int32) S) (fun x_8 v6_8 S_8 =>
  if x_8 = 47 then
  some ((1 : Int32), S_8)
  else if x_8 = 55 then
  some ((0 : Int32), S_8)
  else none)

set_option maxRecDepth 100000 in
set_option maxHeartbeats 4000000 in
theorem lp_M_isTold_L3 {z : zE} {A : Nat → Nat} {Rr : va_W} {p : Program} {l : Launch} {e : Env} {s : State} {m : MethodId} {args : Array Value} {below : List Frame} {meth : Method} {c : Code} {Q : State → Prop} {H0 : Heap} {A0 : Nat → Prop} (hM : zM z p s m args c b_M_isTold 7 R_M) (hA : ∀ q : Nat, H0.size ≤ q → A0 q) (n : Nat) (v1 : Int32) (v2 : Int32) (v3 : Int32) (v4 : Int64) :
    ∀ (v6 : Int32) (S : ZC) (r : Nat × Int32 × ZC), fx_M_isTold_L3 n v1 v2 v3 v4 v6 S = some r → (∀ (H : Heap) (locs : List Loc) (ls : Array Slot), va_P z.1 vwCl (cw z A r.2.2 ++ Rr) H → va_D A0 (cw z A r.2.2 ++ Rr) → va_S A0 H0 H locs → lv_has ls 7 [(0, .ref (A 11)), (1, .int v1), (2, .int v2), (3, .int v3), (4, .long v4), (6, .int r.2.1)] → W p l e rm_M_isTold s m args below meth c H locs 0 0 Q (F0 m r.1 ls [])) →
    ∀ (H : Heap) (locs : List Loc) (ls : Array Slot), va_P z.1 vwCl (cw z A S ++ Rr) H → va_D A0 (cw z A S ++ Rr) → va_S A0 H0 H locs → lv_has ls 7 [(0, .ref (A 11)), (1, .int v1), (2, .int v2), (3, .int v3), (4, .long v4), (6, .int v6)] → W p l e rm_M_isTold s m args below meth c H locs 0 0 Q (F0 m 3 ls []) := by
  obtain ⟨hx, hb, hml, hown, hts, hK, hN⟩ := id hM
  intro v6 S r h hE
  refine zz_loop (G := fun (st : Int32 × ZC) => ∀ (H : Heap) (locs : List Loc) (ls : Array Slot), va_P z.1 vwCl (cw z A st.2 ++ Rr) H → va_D A0 (cw z A st.2 ++ Rr) → va_S A0 H0 H locs → lv_has ls 7 [(0, .ref (A 11)), (1, .int v1), (2, .int v2), (3, .int v3), (4, .long v4), (6, .int st.1)] → W p l e rm_M_isTold s m args below meth c H locs 0 0 Q (F0 m 3 ls [])) (E := fun (r : Nat × Int32 × ZC) => ∀ (H : Heap) (locs : List Loc) (ls : Array Slot), va_P z.1 vwCl (cw z A r.2.2 ++ Rr) H → va_D A0 (cw z A r.2.2 ++ Rr) → va_S A0 H0 H locs → lv_has ls 7 [(0, .ref (A 11)), (1, .int v1), (2, .int v2), (3, .int v3), (4, .long v4), (6, .int r.2.1)] → W p l e rm_M_isTold s m args below meth c H locs 0 0 Q (F0 m r.1 ls [])) ?_ n (v6, S) r h hE
  clear h hE r v6 S
  rintro ⟨v6, S⟩ o h hG hE H locs ls hP hD hS hl
  have h : st_M_isTold_L3 n v1 v2 v3 v4 v6 S = some o := h
  have hl : lv_has ls 7 [(0, .ref (A 11)), (1, .int v1), (2, .int v2), (3, .int v3), (4, .long v4), (6, .int v6)] := hl
  have hP : va_P z.1 vwCl (cw z A S ++ Rr) H := hP
  have hD : va_D A0 (cw z A S ++ Rr) := hD
  unfold st_M_isTold_L3 at h
  refine lv_iload hx hb d_M_isTold_3 (lv_at hl 5 rfl) ?_
  refine lv_aload_n hx hb d_M_isTold_5 rfl (lv_at hl 0 rfl) ?_
  refine va_get (D := z.1) (ci := 2) (v := .int (mTo S)) (C := R_M) (T := F_M) (N := 6) hx hb hts i_M hown hK hP 11 rfl rfl 5 (by decide) (hts _ wq_73) (fun _ h9 => h9) rfl d_M_isTold_6 ?_
  refine lv_icmp_ge (tgt := 55) hx hb d_M_isTold_9 (by decide) (fun c_1 => ?_) (fun c_1 => ?_)
  · replace h := zz_t c_1 h
    exact hE _ (Option.some.inj h).symm _ _ _ hP hD hS hl
  · replace h := zz_f c_1 h
    refine lv_aload_n hx hb d_M_isTold_12 rfl (lv_at hl 0 rfl) ?_
    refine lv_iload hx hb d_M_isTold_13 (lv_at hl 5 rfl) ?_
    refine lv_iload_n hx hb d_M_isTold_15 rfl (lv_at hl 1 rfl) ?_
    refine lv_iload_n hx hb d_M_isTold_16 rfl (lv_at hl 2 rfl) ?_
    obtain ⟨r_2, S_2, e_2, h⟩ := zz_bind h
    refine zz_goI (zz_runV (As := [.int v6, .int v1, .int v2]) (rest := []) (k_M_isOf l z A Rr n _ _ _ _ _ _ e_2) ⟨hx, hb, hml, hown, hts⟩ (cwV 3 hts (zz_gV wq_420 wq_236 wq_237 wq_3 wq_238) rfl rfl rfl (by decide +kernel) ⟨Nat.le_of_ble_eq_true rfl, Nat.le_of_ble_eq_true rfl⟩) hK hN hP hD (va_recv hK hP (ci := 2) (q0 := 11) rfl rfl) rfl hl.1 rfl (Nat.le_of_ble_eq_true rfl) d_M_isTold_17 ⟨Nat.le_of_ble_eq_true rfl, Nat.le_of_ble_eq_true rfl⟩) hD hS hA (fun H locs hP hD hS => ?_)
    refine lv_if_eq (tgt := 49) hx hb d_M_isTold_20 (by decide) (fun c_3 => ?_) (fun c_3 => ?_)
    · replace h := zz_t c_3 h
      refine lv_iinc (v := (v6 + (1 : Int32))) (lv' := [(6, .int (v6 + (1 : Int32))), (0, .ref (A 11)), (1, .int v1), (2, .int v2), (3, .int v3), (4, .long v4)]) hx hb d_M_isTold_49 hl (k := 5) rfl rfl (by decide) rfl (fun ls hl => ?_)
      refine lv_goto (tgt := 3) hx hb d_M_isTold_52 (by decide) ?_
      exact hG _ (Option.some.inj h).symm _ _ _ hP hD hS (lv_sub hl [1, 2, 3, 4, 5, 0] rfl)
    · replace h := zz_f c_3 h
      refine lv_aload_n hx hb d_M_isTold_23 rfl (lv_at hl 0 rfl) ?_
      refine va_get (D := z.1) (ci := 2) (v := .ref (A 14)) (C := R_M) (T := F_M) (N := 6) hx hb hts i_M hown hK hP 11 rfl rfl 2 (by decide) (hts _ wq_68) (fun _ h9 => h9) rfl d_M_isTold_24 ?_
      refine lv_iload hx hb d_M_isTold_27 (lv_at hl 5 rfl) ?_
      obtain ⟨c_4, h⟩ := zz_oob h
      refine va_iald hx hb hK hP 14 0 rfl rfl c_4 d_M_isTold_29 ?_
      refine lv_iload_n hx hb d_M_isTold_30 rfl (lv_at hl 3 rfl) ?_
      refine lv_icmp_ne (tgt := 49) hx hb d_M_isTold_31 (by decide) (fun c_5 => ?_) (fun c_5 => ?_)
      · replace h := zz_f c_5 h
        refine lv_iinc (v := (v6 + (1 : Int32))) (lv' := [(6, .int (v6 + (1 : Int32))), (0, .ref (A 11)), (1, .int v1), (2, .int v2), (3, .int v3), (4, .long v4)]) hx hb d_M_isTold_49 hl (k := 5) rfl rfl (by decide) rfl (fun ls hl => ?_)
        refine lv_goto (tgt := 3) hx hb d_M_isTold_52 (by decide) ?_
        exact hG _ (Option.some.inj h).symm _ _ _ hP hD hS (lv_sub hl [1, 2, 3, 4, 5, 0] rfl)
      · replace h := zz_t c_5 h
        refine lv_aload_n hx hb d_M_isTold_34 rfl (lv_at hl 0 rfl) ?_
        refine va_get (D := z.1) (ci := 2) (v := .ref (A 15)) (C := R_M) (T := F_M) (N := 6) hx hb hts i_M hown hK hP 11 rfl rfl 3 (by decide) (hts _ wq_70) (fun _ h9 => h9) rfl d_M_isTold_35 ?_
        refine lv_iload hx hb d_M_isTold_38 (lv_at hl 5 rfl) ?_
        obtain ⟨c_6, h⟩ := zz_oob h
        refine va_lald hx hb hK hP 15 2 rfl rfl c_6 d_M_isTold_40 ?_
        refine lv_lload hx hb d_M_isTold_41 (lv_at hl 4 rfl) ?_
        refine W.lcmp hx hb d_M_isTold_43 ?_
        refine lv_if_ne (tgt := 49) hx hb d_M_isTold_44 (by decide) (fun c_7 => ?_) (fun c_7 => ?_)
        · replace h := zz_f c_7 h
          refine lv_iinc (v := (v6 + (1 : Int32))) (lv' := [(6, .int (v6 + (1 : Int32))), (0, .ref (A 11)), (1, .int v1), (2, .int v2), (3, .int v3), (4, .long v4)]) hx hb d_M_isTold_49 hl (k := 5) rfl rfl (by decide) rfl (fun ls hl => ?_)
          refine lv_goto (tgt := 3) hx hb d_M_isTold_52 (by decide) ?_
          exact hG _ (Option.some.inj h).symm _ _ _ hP hD hS (lv_sub hl [1, 2, 3, 4, 5, 0] rfl)
        · replace h := zz_t c_7 h
          exact hE _ (Option.some.inj h).symm _ _ _ hP hD hS hl

set_option maxRecDepth 100000 in
set_option maxHeartbeats 4000000 in
theorem k_M_isTold (l : Launch) (z : zE) (A : Nat → Nat) (Rr : va_W) (n : Nat) (S : ZC) (a1 : Int32) (a2 : Int32) (a3 : Int32) (a4 : Int64) (r0 : Int32) (S' : ZC) (h : fx_M_isTold n S a1 a2 a3 a4 = some (r0, S')) : zC z l y_M_isTold w_M_isTold rm_M_isTold [.ref (A 11), .int a1, .int a2, .int a3, .long a4] (cw z A S ++ Rr) (some (.int r0)) (cw z A S' ++ Rr) := by
  refine zz_of (by decide) (Nat.le_of_ble_eq_true rfl) ?_
  intro p e s m args below meth c A0 ls hM hr hlocks hA hP hD hl
  have hM : zM z p s m args c b_M_isTold 7 R_M := hM
  obtain ⟨hx, hb, hml, hown, hts, hK, hN⟩ := id hM
  have hS : va_S A0 s.heap s.heap [] := va_S.rf
  have hl : lv_has ls 7 [(0, .ref (A 11)), (1, .int a1), (2, .int a2), (3, .int a3), (4, .long a4)] := hl
  unfold fx_M_isTold at h
  refine lv_iconst (v := 0) hx hb d_M_isTold_0 (by decide) ?_
  refine lv_istore (lv' := [(6, .int (0 : Int32)), (0, .ref (A 11)), (1, .int a1), (2, .int a2), (3, .int a3), (4, .long a4)]) hx hb d_M_isTold_1 hl (by decide) rfl (fun ls hl => ?_)
  replace h := zz_bL2 h
  obtain ⟨x_8, v6_8, S_8, e_8, h⟩ := h
  refine lp_M_isTold_L3 hM hA n a1 a2 a3 a4 _ _ _ e_8 ?_ _ _ _ hP hD hS (lv_sub hl [1, 2, 3, 4, 5, 0] rfl)
  intro H locs ls hP hD hS hl
  have hl : lv_has ls 7 [(0, .ref (A 11)), (1, .int a1), (2, .int a2), (3, .int a3), (4, .long a4), (6, .int v6_8)] := hl
  have hP : va_P z.1 vwCl (cw z A S_8 ++ Rr) H := hP
  have hD : va_D A0 (cw z A S_8 ++ Rr) := hD
  by_cases c_8 : x_8 = 47
  · replace h := zz_t c_8 h
    subst c_8
    refine W.eq (g2 := F0 m 47 ls []) rfl ?_
    refine lv_iconst (v := 1) hx hb d_M_isTold_47 (by decide) ?_
    exact zz_zret (fun S => cw z A S ++ Rr) hx hb hr hlocks hP hD hS rfl h d_M_isTold_48
  replace h := zz_f c_8 h
  replace h := zz_grd h
  obtain ⟨c_8, h⟩ := h
  subst c_8
  refine W.eq (g2 := F0 m 55 ls []) rfl ?_
  refine lv_iconst (v := 0) hx hb d_M_isTold_55 (by decide) ?_
  exact zz_zret (fun S => cw z A S ++ Rr) hx hb hr hlocks hP hD hS rfl h d_M_isTold_56

abbrev b_M_add : ByteArray := prog_4_method_4_code
abbrev y_M_add : MethodName := ⟨"MemberChooser$Members", "add", "(IIIJZ)I"⟩
abbrev w_M_add : List Cond := Cond.code y_M_add b_M_add 8 (some .int) :: zTb
theorem d_M_add_0 : decode b_M_add 0 = .ok (.aload_n 0, 1) := by decide +kernel
theorem d_M_add_1 : decode b_M_add 1 = .ok (.getfield 29, 3) := by decide +kernel
theorem d_M_add_4 : decode b_M_add 4 = .ok (.istore 7, 2) := by decide +kernel
theorem d_M_add_6 : decode b_M_add 6 = .ok (.iload 7, 2) := by decide +kernel
theorem d_M_add_8 : decode b_M_add 8 = .ok (.bipush 80, 2) := by decide +kernel
theorem d_M_add_10 : decode b_M_add 10 = .ok (.if_icmp .lt 5, 3) := by decide +kernel
theorem d_M_add_13 : decode b_M_add 13 = .ok (.iconst (-1), 1) := by decide +kernel
theorem d_M_add_14 : decode b_M_add 14 = .ok (.ireturn, 1) := by decide +kernel
theorem d_M_add_15 : decode b_M_add 15 = .ok (.aload_n 0, 1) := by decide +kernel
theorem d_M_add_16 : decode b_M_add 16 = .ok (.getfield 11, 3) := by decide +kernel
theorem d_M_add_19 : decode b_M_add 19 = .ok (.iload 7, 2) := by decide +kernel
theorem d_M_add_21 : decode b_M_add 21 = .ok (.iload_n 1, 1) := by decide +kernel
theorem d_M_add_22 : decode b_M_add 22 = .ok (.iastore, 1) := by decide +kernel
theorem d_M_add_23 : decode b_M_add 23 = .ok (.aload_n 0, 1) := by decide +kernel
theorem d_M_add_24 : decode b_M_add 24 = .ok (.getfield 15, 3) := by decide +kernel
theorem d_M_add_27 : decode b_M_add 27 = .ok (.iload 7, 2) := by decide +kernel
theorem d_M_add_29 : decode b_M_add 29 = .ok (.iload_n 2, 1) := by decide +kernel
theorem d_M_add_30 : decode b_M_add 30 = .ok (.iastore, 1) := by decide +kernel
theorem d_M_add_31 : decode b_M_add 31 = .ok (.aload_n 0, 1) := by decide +kernel
theorem d_M_add_32 : decode b_M_add 32 = .ok (.getfield 18, 3) := by decide +kernel
theorem d_M_add_35 : decode b_M_add 35 = .ok (.iload 7, 2) := by decide +kernel
theorem d_M_add_37 : decode b_M_add 37 = .ok (.iload_n 3, 1) := by decide +kernel
theorem d_M_add_38 : decode b_M_add 38 = .ok (.iastore, 1) := by decide +kernel
theorem d_M_add_39 : decode b_M_add 39 = .ok (.aload_n 0, 1) := by decide +kernel
theorem d_M_add_40 : decode b_M_add 40 = .ok (.getfield 21, 3) := by decide +kernel
theorem d_M_add_43 : decode b_M_add 43 = .ok (.iload 7, 2) := by decide +kernel
theorem d_M_add_45 : decode b_M_add 45 = .ok (.lload 4, 2) := by decide +kernel
theorem d_M_add_47 : decode b_M_add 47 = .ok (.lastore, 1) := by decide +kernel
theorem d_M_add_48 : decode b_M_add 48 = .ok (.aload_n 0, 1) := by decide +kernel
theorem d_M_add_49 : decode b_M_add 49 = .ok (.getfield 25, 3) := by decide +kernel
theorem d_M_add_52 : decode b_M_add 52 = .ok (.iload 7, 2) := by decide +kernel
theorem d_M_add_54 : decode b_M_add 54 = .ok (.iload 6, 2) := by decide +kernel
theorem d_M_add_56 : decode b_M_add 56 = .ok (.bastore, 1) := by decide +kernel
theorem d_M_add_57 : decode b_M_add 57 = .ok (.aload_n 0, 1) := by decide +kernel
theorem d_M_add_58 : decode b_M_add 58 = .ok (.dup, 1) := by decide +kernel
theorem d_M_add_59 : decode b_M_add 59 = .ok (.getfield 29, 3) := by decide +kernel
theorem d_M_add_62 : decode b_M_add 62 = .ok (.iconst 1, 1) := by decide +kernel
theorem d_M_add_63 : decode b_M_add 63 = .ok (.iadd, 1) := by decide +kernel
theorem d_M_add_64 : decode b_M_add 64 = .ok (.putfield 29, 3) := by decide +kernel
theorem d_M_add_67 : decode b_M_add 67 = .ok (.iload 7, 2) := by decide +kernel
theorem d_M_add_69 : decode b_M_add 69 = .ok (.ireturn, 1) := by decide +kernel
abbrev rm_M_add : Room := { frames := 0, cells := 0, slots := 0, locals := 0 }
def fx_M_add (n : Nat) (S : ZC) (a1 : Int32) (a2 : Int32) (a3 : Int32) (a4 : Int64) (a6 : Int32) : Option (Int32 × ZC) :=
  (if (mTo S) < (80 : Int32) then
  (if zoob (mTo S) 80 then none else
    zlet (mOw' S (upd (mOw S) (mTo S).toNatClampNeg a1)) (fun S_3 =>
    (if zoob (mTo S) 80 then none else
    zlet (mNa' S_3 (upd (mNa S_3) (mTo S).toNatClampNeg a2)) (fun S_5 =>
    (if zoob (mTo S) 80 then none else
    zlet (mSz' S_5 (upd (mSz S_5) (mTo S).toNatClampNeg a3)) (fun S_7 =>
    (if zoob (mTo S) 80 then none else
    zlet (mPa' S_7 (vp_updL (mPa S_7) (mTo S).toNatClampNeg a4)) (fun S_9 =>
    (if zoob (mTo S) 80 then none else
    zlet (mVa' S_9 (upd (mVa S_9) (mTo S).toNatClampNeg (vp_nar .boolean a6))) (fun S_11 =>
    zlet (mTo' S_11 ((mTo S_11) + (1 : Int32))) (fun S_12 =>
    some ((mTo S), S_12))))))))))))
  else
  some ((-1 : Int32), S))

set_option maxRecDepth 100000 in
set_option maxHeartbeats 4000000 in
theorem k_M_add (l : Launch) (z : zE) (A : Nat → Nat) (Rr : va_W) (n : Nat) (S : ZC) (a1 : Int32) (a2 : Int32) (a3 : Int32) (a4 : Int64) (a6 : Int32) (r0 : Int32) (S' : ZC) (h : fx_M_add n S a1 a2 a3 a4 a6 = some (r0, S')) : zC z l y_M_add w_M_add rm_M_add [.ref (A 11), .int a1, .int a2, .int a3, .long a4, .int a6] (cw z A S ++ Rr) (some (.int r0)) (cw z A S' ++ Rr) := by
  refine zz_of (by decide) (Nat.le_of_ble_eq_true rfl) ?_
  intro p e s m args below meth c A0 ls hM hr hlocks hA hP hD hl
  have hM : zM z p s m args c b_M_add 8 R_M := hM
  obtain ⟨hx, hb, hml, hown, hts, hK, hN⟩ := id hM
  have hS : va_S A0 s.heap s.heap [] := va_S.rf
  have hl : lv_has ls 8 [(0, .ref (A 11)), (1, .int a1), (2, .int a2), (3, .int a3), (4, .long a4), (6, .int a6)] := hl
  unfold fx_M_add at h
  refine lv_aload_n hx hb d_M_add_0 rfl (lv_at hl 0 rfl) ?_
  refine va_get (D := z.1) (ci := 2) (v := .int (mTo S)) (C := R_M) (T := F_M) (N := 6) hx hb hts i_M hown hK hP 11 rfl rfl 5 (by decide) (hts _ wq_73) (fun _ h9 => h9) rfl d_M_add_1 ?_
  refine lv_istore (lv' := [(7, .int (mTo S)), (0, .ref (A 11)), (1, .int a1), (2, .int a2), (3, .int a3), (4, .long a4), (6, .int a6)]) hx hb d_M_add_4 hl (by decide) rfl (fun ls hl => ?_)
  refine lv_iload hx hb d_M_add_6 (lv_at hl 0 rfl) ?_
  refine lv_bipush (v := 80) hx hb d_M_add_8 (by decide) ?_
  refine lv_icmp_lt (tgt := 15) hx hb d_M_add_10 (by decide) (fun c_1 => ?_) (fun c_1 => ?_)
  · replace h := zz_t c_1 h
    refine lv_aload_n hx hb d_M_add_15 rfl (lv_at hl 1 rfl) ?_
    refine va_get (D := z.1) (ci := 2) (v := .ref (A 12)) (C := R_M) (T := F_M) (N := 6) hx hb hts i_M hown hK hP 11 rfl rfl 0 (by decide) (hts _ wq_66) (fun _ h9 => h9) rfl d_M_add_16 ?_
    refine lv_iload hx hb d_M_add_19 (lv_at hl 0 rfl) ?_
    refine lv_iload_n hx hb d_M_add_21 rfl (lv_at hl 2 rfl) ?_
    obtain ⟨c_2, h⟩ := zz_oob h
    obtain ⟨S_3, e_3, h⟩ := zz_let h
    refine va_iast hx hb hK hP hD hS 12 0 rfl rfl c_2 d_M_add_22 (fun H locs hP hD hS => ?_)
    have hP : va_P z.1 vwCl (cw z A S_3 ++ Rr) H := by rw [e_3]; exact hP
    have hD : va_D A0 (cw z A S_3 ++ Rr) := by rw [e_3]; exact hD
    refine lv_aload_n hx hb d_M_add_23 rfl (lv_at hl 1 rfl) ?_
    refine va_get (D := z.1) (ci := 2) (v := .ref (A 13)) (C := R_M) (T := F_M) (N := 6) hx hb hts i_M hown hK hP 11 rfl rfl 1 (by decide) (hts _ wq_67) (fun _ h9 => h9) rfl d_M_add_24 ?_
    refine lv_iload hx hb d_M_add_27 (lv_at hl 0 rfl) ?_
    refine lv_iload_n hx hb d_M_add_29 rfl (lv_at hl 3 rfl) ?_
    obtain ⟨c_4, h⟩ := zz_oob h
    obtain ⟨S_5, e_5, h⟩ := zz_let h
    refine va_iast hx hb hK hP hD hS 13 0 rfl rfl c_4 d_M_add_30 (fun H locs hP hD hS => ?_)
    have hP : va_P z.1 vwCl (cw z A S_5 ++ Rr) H := by rw [e_5]; exact hP
    have hD : va_D A0 (cw z A S_5 ++ Rr) := by rw [e_5]; exact hD
    refine lv_aload_n hx hb d_M_add_31 rfl (lv_at hl 1 rfl) ?_
    refine va_get (D := z.1) (ci := 2) (v := .ref (A 14)) (C := R_M) (T := F_M) (N := 6) hx hb hts i_M hown hK hP 11 rfl rfl 2 (by decide) (hts _ wq_68) (fun _ h9 => h9) rfl d_M_add_32 ?_
    refine lv_iload hx hb d_M_add_35 (lv_at hl 0 rfl) ?_
    refine lv_iload_n hx hb d_M_add_37 rfl (lv_at hl 4 rfl) ?_
    obtain ⟨c_6, h⟩ := zz_oob h
    obtain ⟨S_7, e_7, h⟩ := zz_let h
    refine va_iast hx hb hK hP hD hS 14 0 rfl rfl c_6 d_M_add_38 (fun H locs hP hD hS => ?_)
    have hP : va_P z.1 vwCl (cw z A S_7 ++ Rr) H := by rw [e_7]; exact hP
    have hD : va_D A0 (cw z A S_7 ++ Rr) := by rw [e_7]; exact hD
    refine lv_aload_n hx hb d_M_add_39 rfl (lv_at hl 1 rfl) ?_
    refine va_get (D := z.1) (ci := 2) (v := .ref (A 15)) (C := R_M) (T := F_M) (N := 6) hx hb hts i_M hown hK hP 11 rfl rfl 3 (by decide) (hts _ wq_70) (fun _ h9 => h9) rfl d_M_add_40 ?_
    refine lv_iload hx hb d_M_add_43 (lv_at hl 0 rfl) ?_
    refine lv_lload hx hb d_M_add_45 (lv_at hl 5 rfl) ?_
    obtain ⟨c_8, h⟩ := zz_oob h
    obtain ⟨S_9, e_9, h⟩ := zz_let h
    refine va_last hx hb hK hP hD hS 15 2 rfl rfl c_8 d_M_add_47 (fun H locs hP hD hS => ?_)
    have hP : va_P z.1 vwCl (cw z A S_9 ++ Rr) H := by rw [e_9]; exact hP
    have hD : va_D A0 (cw z A S_9 ++ Rr) := by rw [e_9]; exact hD
    refine lv_aload_n hx hb d_M_add_48 rfl (lv_at hl 1 rfl) ?_
    refine va_get (D := z.1) (ci := 2) (v := .ref (A 16)) (C := R_M) (T := F_M) (N := 6) hx hb hts i_M hown hK hP 11 rfl rfl 4 (by decide) (hts _ wq_71) (fun _ h9 => h9) rfl d_M_add_49 ?_
    refine lv_iload hx hb d_M_add_52 (lv_at hl 0 rfl) ?_
    refine lv_iload hx hb d_M_add_54 (lv_at hl 6 rfl) ?_
    obtain ⟨c_10, h⟩ := zz_oob h
    obtain ⟨S_11, e_11, h⟩ := zz_let h
    refine va_zast hx hb hK hP hD hS 16 1 rfl rfl c_10 d_M_add_56 (fun H locs hP hD hS => ?_)
    have hP : va_P z.1 vwCl (cw z A S_11 ++ Rr) H := by rw [e_11]; exact hP
    have hD : va_D A0 (cw z A S_11 ++ Rr) := by rw [e_11]; exact hD
    refine lv_aload_n hx hb d_M_add_57 rfl (lv_at hl 1 rfl) ?_
    refine lv_dup hx hb d_M_add_58 rfl ?_
    refine va_get (D := z.1) (ci := 2) (v := .int (mTo S_11)) (C := R_M) (T := F_M) (N := 6) hx hb hts i_M hown hK hP 11 rfl rfl 5 (by decide) (hts _ wq_73) (fun _ h9 => h9) rfl d_M_add_59 ?_
    refine lv_iconst (v := 1) hx hb d_M_add_62 (by decide) ?_
    refine lv_iadd hx hb d_M_add_63 ?_
    obtain ⟨S_12, e_12, h⟩ := zz_let h
    refine va_put (D := z.1) (ci := 2) (v := .int ((mTo S_11) + (1 : Int32))) (ty := .int) (C := R_M) (T := F_M) (N := 6) hx hb hts i_M ty_M ty_M_ok n_M hown hK hP hD hS 11 rfl rfl 5 (by decide) (hts _ wq_73) (fun _ h9 => h9) rfl (by decide +kernel) rfl rfl (Nat.le_of_ble_eq_true rfl) d_M_add_64 (fun H locs hP hD hS => ?_)
    have hP : va_P z.1 vwCl (cw z A S_12 ++ Rr) H := by rw [e_12]; exact hP
    have hD : va_D A0 (cw z A S_12 ++ Rr) := by rw [e_12]; exact hD
    refine lv_iload hx hb d_M_add_67 (lv_at hl 0 rfl) ?_
    exact zz_iret (fun S => cw z A S ++ Rr) hx hb hr hlocks hP hD hS h d_M_add_69
  · replace h := zz_f c_1 h
    refine lv_iconst (v := -1) hx hb d_M_add_13 (by decide) ?_
    exact zz_iret (fun S => cw z A S ++ Rr) hx hb hr hlocks hP hD hS h d_M_add_14

abbrev b_M_haveSameParameters : ByteArray := prog_4_method_6_code
abbrev y_M_haveSameParameters : MethodName := ⟨"MemberChooser$Members", "haveSameParameters", "(II)Z"⟩
abbrev w_M_haveSameParameters : List Cond := Cond.code y_M_haveSameParameters b_M_haveSameParameters 3 (some .boolean) :: zTb
theorem d_M_haveSameParameters_0 : decode b_M_haveSameParameters 0 = .ok (.aload_n 0, 1) := by decide +kernel
theorem d_M_haveSameParameters_1 : decode b_M_haveSameParameters 1 = .ok (.getfield 18, 3) := by decide +kernel
theorem d_M_haveSameParameters_4 : decode b_M_haveSameParameters 4 = .ok (.iload_n 1, 1) := by decide +kernel
theorem d_M_haveSameParameters_5 : decode b_M_haveSameParameters 5 = .ok (.iaload, 1) := by decide +kernel
theorem d_M_haveSameParameters_6 : decode b_M_haveSameParameters 6 = .ok (.aload_n 0, 1) := by decide +kernel
theorem d_M_haveSameParameters_7 : decode b_M_haveSameParameters 7 = .ok (.getfield 18, 3) := by decide +kernel
theorem d_M_haveSameParameters_10 : decode b_M_haveSameParameters 10 = .ok (.iload_n 2, 1) := by decide +kernel
theorem d_M_haveSameParameters_11 : decode b_M_haveSameParameters 11 = .ok (.iaload, 1) := by decide +kernel
theorem d_M_haveSameParameters_12 : decode b_M_haveSameParameters 12 = .ok (.if_icmp .ne 23, 3) := by decide +kernel
theorem d_M_haveSameParameters_15 : decode b_M_haveSameParameters 15 = .ok (.aload_n 0, 1) := by decide +kernel
theorem d_M_haveSameParameters_16 : decode b_M_haveSameParameters 16 = .ok (.getfield 21, 3) := by decide +kernel
theorem d_M_haveSameParameters_19 : decode b_M_haveSameParameters 19 = .ok (.iload_n 1, 1) := by decide +kernel
theorem d_M_haveSameParameters_20 : decode b_M_haveSameParameters 20 = .ok (.laload, 1) := by decide +kernel
theorem d_M_haveSameParameters_21 : decode b_M_haveSameParameters 21 = .ok (.aload_n 0, 1) := by decide +kernel
theorem d_M_haveSameParameters_22 : decode b_M_haveSameParameters 22 = .ok (.getfield 21, 3) := by decide +kernel
theorem d_M_haveSameParameters_25 : decode b_M_haveSameParameters 25 = .ok (.iload_n 2, 1) := by decide +kernel
theorem d_M_haveSameParameters_26 : decode b_M_haveSameParameters 26 = .ok (.laload, 1) := by decide +kernel
theorem d_M_haveSameParameters_27 : decode b_M_haveSameParameters 27 = .ok (.lcmp, 1) := by decide +kernel
theorem d_M_haveSameParameters_28 : decode b_M_haveSameParameters 28 = .ok (.ifCond .ne 7, 3) := by decide +kernel
theorem d_M_haveSameParameters_31 : decode b_M_haveSameParameters 31 = .ok (.iconst 1, 1) := by decide +kernel
theorem d_M_haveSameParameters_32 : decode b_M_haveSameParameters 32 = .ok (.goto 4, 3) := by decide +kernel
theorem d_M_haveSameParameters_35 : decode b_M_haveSameParameters 35 = .ok (.iconst 0, 1) := by decide +kernel
theorem d_M_haveSameParameters_36 : decode b_M_haveSameParameters 36 = .ok (.ireturn, 1) := by decide +kernel
abbrev rm_M_haveSameParameters : Room := { frames := 0, cells := 0, slots := 0, locals := 0 }
def fx_M_haveSameParameters (n : Nat) (S : ZC) (a1 : Int32) (a2 : Int32) : Option (Int32 × ZC) :=
  (if zoob a1 80 then none else
  (if zoob a2 80 then none else
  (if ((mSz S) a1.toNatClampNeg) = ((mSz S) a2.toNatClampNeg) then
  (if zoob a1 80 then none else
    (if zoob a2 80 then none else
    (if (lg_cmp ((mPa S) a1.toNatClampNeg) ((mPa S) a2.toNatClampNeg)) = 0 then
    some ((1 : Int32), S)
    else
    some ((0 : Int32), S))))
  else
  some ((0 : Int32), S))))

set_option maxRecDepth 100000 in
set_option maxHeartbeats 4000000 in
theorem k_M_haveSameParameters (l : Launch) (z : zE) (A : Nat → Nat) (Rr : va_W) (n : Nat) (S : ZC) (a1 : Int32) (a2 : Int32) (r0 : Int32) (S' : ZC) (h : fx_M_haveSameParameters n S a1 a2 = some (r0, S')) : zC z l y_M_haveSameParameters w_M_haveSameParameters rm_M_haveSameParameters [.ref (A 11), .int a1, .int a2] (cw z A S ++ Rr) (some (.int r0)) (cw z A S' ++ Rr) := by
  refine zz_of (by decide) (Nat.le_of_ble_eq_true rfl) ?_
  intro p e s m args below meth c A0 ls hM hr hlocks hA hP hD hl
  have hM : zM z p s m args c b_M_haveSameParameters 3 R_M := hM
  obtain ⟨hx, hb, hml, hown, hts, hK, hN⟩ := id hM
  have hS : va_S A0 s.heap s.heap [] := va_S.rf
  have hl : lv_has ls 3 [(0, .ref (A 11)), (1, .int a1), (2, .int a2)] := hl
  unfold fx_M_haveSameParameters at h
  refine lv_aload_n hx hb d_M_haveSameParameters_0 rfl (lv_at hl 0 rfl) ?_
  refine va_get (D := z.1) (ci := 2) (v := .ref (A 14)) (C := R_M) (T := F_M) (N := 6) hx hb hts i_M hown hK hP 11 rfl rfl 2 (by decide) (hts _ wq_68) (fun _ h9 => h9) rfl d_M_haveSameParameters_1 ?_
  refine lv_iload_n hx hb d_M_haveSameParameters_4 rfl (lv_at hl 1 rfl) ?_
  obtain ⟨c_1, h⟩ := zz_oob h
  refine va_iald hx hb hK hP 14 0 rfl rfl c_1 d_M_haveSameParameters_5 ?_
  refine lv_aload_n hx hb d_M_haveSameParameters_6 rfl (lv_at hl 0 rfl) ?_
  refine va_get (D := z.1) (ci := 2) (v := .ref (A 14)) (C := R_M) (T := F_M) (N := 6) hx hb hts i_M hown hK hP 11 rfl rfl 2 (by decide) (hts _ wq_68) (fun _ h9 => h9) rfl d_M_haveSameParameters_7 ?_
  refine lv_iload_n hx hb d_M_haveSameParameters_10 rfl (lv_at hl 2 rfl) ?_
  obtain ⟨c_2, h⟩ := zz_oob h
  refine va_iald hx hb hK hP 14 0 rfl rfl c_2 d_M_haveSameParameters_11 ?_
  refine lv_icmp_ne (tgt := 35) hx hb d_M_haveSameParameters_12 (by decide) (fun c_3 => ?_) (fun c_3 => ?_)
  · replace h := zz_f c_3 h
    refine lv_iconst (v := 0) hx hb d_M_haveSameParameters_35 (by decide) ?_
    exact zz_zret (fun S => cw z A S ++ Rr) hx hb hr hlocks hP hD hS rfl h d_M_haveSameParameters_36
  · replace h := zz_t c_3 h
    refine lv_aload_n hx hb d_M_haveSameParameters_15 rfl (lv_at hl 0 rfl) ?_
    refine va_get (D := z.1) (ci := 2) (v := .ref (A 15)) (C := R_M) (T := F_M) (N := 6) hx hb hts i_M hown hK hP 11 rfl rfl 3 (by decide) (hts _ wq_70) (fun _ h9 => h9) rfl d_M_haveSameParameters_16 ?_
    refine lv_iload_n hx hb d_M_haveSameParameters_19 rfl (lv_at hl 1 rfl) ?_
    obtain ⟨c_4, h⟩ := zz_oob h
    refine va_lald hx hb hK hP 15 2 rfl rfl c_4 d_M_haveSameParameters_20 ?_
    refine lv_aload_n hx hb d_M_haveSameParameters_21 rfl (lv_at hl 0 rfl) ?_
    refine va_get (D := z.1) (ci := 2) (v := .ref (A 15)) (C := R_M) (T := F_M) (N := 6) hx hb hts i_M hown hK hP 11 rfl rfl 3 (by decide) (hts _ wq_70) (fun _ h9 => h9) rfl d_M_haveSameParameters_22 ?_
    refine lv_iload_n hx hb d_M_haveSameParameters_25 rfl (lv_at hl 2 rfl) ?_
    obtain ⟨c_5, h⟩ := zz_oob h
    refine va_lald hx hb hK hP 15 2 rfl rfl c_5 d_M_haveSameParameters_26 ?_
    refine W.lcmp hx hb d_M_haveSameParameters_27 ?_
    refine lv_if_ne (tgt := 35) hx hb d_M_haveSameParameters_28 (by decide) (fun c_6 => ?_) (fun c_6 => ?_)
    · replace h := zz_f c_6 h
      refine lv_iconst (v := 0) hx hb d_M_haveSameParameters_35 (by decide) ?_
      exact zz_zret (fun S => cw z A S ++ Rr) hx hb hr hlocks hP hD hS rfl h d_M_haveSameParameters_36
    · replace h := zz_t c_6 h
      refine lv_iconst (v := 1) hx hb d_M_haveSameParameters_31 (by decide) ?_
      refine lv_goto (tgt := 36) hx hb d_M_haveSameParameters_32 (by decide) ?_
      exact zz_zret (fun S => cw z A S ++ Rr) hx hb hr hlocks hP hD hS rfl h d_M_haveSameParameters_36

abbrev b_M_parameterFor : ByteArray := prog_4_method_7_code
abbrev y_M_parameterFor : MethodName := ⟨"MemberChooser$Members", "parameterFor", "(II)I"⟩
abbrev w_M_parameterFor : List Cond := Cond.code y_M_parameterFor b_M_parameterFor 3 (some .int) :: zTb
theorem d_M_parameterFor_0 : decode b_M_parameterFor 0 = .ok (.aload_n 0, 1) := by decide +kernel
theorem d_M_parameterFor_1 : decode b_M_parameterFor 1 = .ok (.getfield 21, 3) := by decide +kernel
theorem d_M_parameterFor_4 : decode b_M_parameterFor 4 = .ok (.iload_n 1, 1) := by decide +kernel
theorem d_M_parameterFor_5 : decode b_M_parameterFor 5 = .ok (.laload, 1) := by decide +kernel
theorem d_M_parameterFor_6 : decode b_M_parameterFor 6 = .ok (.iload_n 2, 1) := by decide +kernel
theorem d_M_parameterFor_7 : decode b_M_parameterFor 7 = .ok (.aload_n 0, 1) := by decide +kernel
theorem d_M_parameterFor_8 : decode b_M_parameterFor 8 = .ok (.getfield 18, 3) := by decide +kernel
theorem d_M_parameterFor_11 : decode b_M_parameterFor 11 = .ok (.iload_n 1, 1) := by decide +kernel
theorem d_M_parameterFor_12 : decode b_M_parameterFor 12 = .ok (.iaload, 1) := by decide +kernel
theorem d_M_parameterFor_13 : decode b_M_parameterFor 13 = .ok (.iconst 1, 1) := by decide +kernel
theorem d_M_parameterFor_14 : decode b_M_parameterFor 14 = .ok (.isub, 1) := by decide +kernel
theorem d_M_parameterFor_15 : decode b_M_parameterFor 15 = .ok (.invokestatic 37, 3) := by decide +kernel
theorem d_M_parameterFor_18 : decode b_M_parameterFor 18 = .ok (.invokestatic 43, 3) := by decide +kernel
theorem d_M_parameterFor_21 : decode b_M_parameterFor 21 = .ok (.ireturn, 1) := by decide +kernel
abbrev rm_M_parameterFor : Room := { frames := 1, cells := 0, slots := 0, locals := 22 }
def fx_M_parameterFor (n : Nat) (S : ZC) (a1 : Int32) (a2 : Int32) : Option (Int32 × ZC) :=
  (if zoob a1 80 then none else
  (if zoob a1 80 then none else
  zbind1 (fx_X_byteAt n ((mPa S) a1.toNatClampNeg) (if (((mSz S) a1.toNatClampNeg) - (1 : Int32)) < a2 then (((mSz S) a1.toNatClampNeg) - (1 : Int32)) else a2)) (fun r_3 =>
  some (r_3, S))))

set_option maxRecDepth 100000 in
set_option maxHeartbeats 4000000 in
theorem k_M_parameterFor (l : Launch) (z : zE) (A : Nat → Nat) (Rr : va_W) (n : Nat) (S : ZC) (a1 : Int32) (a2 : Int32) (r0 : Int32) (S' : ZC) (h : fx_M_parameterFor n S a1 a2 = some (r0, S')) : zC z l y_M_parameterFor w_M_parameterFor rm_M_parameterFor [.ref (A 11), .int a1, .int a2] (cw z A S ++ Rr) (some (.int r0)) (cw z A S' ++ Rr) := by
  refine zz_of (by decide) (Nat.le_of_ble_eq_true rfl) ?_
  intro p e s m args below meth c A0 ls hM hr hlocks hA hP hD hl
  have hM : zM z p s m args c b_M_parameterFor 3 R_M := hM
  obtain ⟨hx, hb, hml, hown, hts, hK, hN⟩ := id hM
  have hS : va_S A0 s.heap s.heap [] := va_S.rf
  have hl : lv_has ls 3 [(0, .ref (A 11)), (1, .int a1), (2, .int a2)] := hl
  unfold fx_M_parameterFor at h
  refine lv_aload_n hx hb d_M_parameterFor_0 rfl (lv_at hl 0 rfl) ?_
  refine va_get (D := z.1) (ci := 2) (v := .ref (A 15)) (C := R_M) (T := F_M) (N := 6) hx hb hts i_M hown hK hP 11 rfl rfl 3 (by decide) (hts _ wq_70) (fun _ h9 => h9) rfl d_M_parameterFor_1 ?_
  refine lv_iload_n hx hb d_M_parameterFor_4 rfl (lv_at hl 1 rfl) ?_
  obtain ⟨c_1, h⟩ := zz_oob h
  refine va_lald hx hb hK hP 15 2 rfl rfl c_1 d_M_parameterFor_5 ?_
  refine lv_iload_n hx hb d_M_parameterFor_6 rfl (lv_at hl 2 rfl) ?_
  refine lv_aload_n hx hb d_M_parameterFor_7 rfl (lv_at hl 0 rfl) ?_
  refine va_get (D := z.1) (ci := 2) (v := .ref (A 14)) (C := R_M) (T := F_M) (N := 6) hx hb hts i_M hown hK hP 11 rfl rfl 2 (by decide) (hts _ wq_68) (fun _ h9 => h9) rfl d_M_parameterFor_8 ?_
  refine lv_iload_n hx hb d_M_parameterFor_11 rfl (lv_at hl 1 rfl) ?_
  obtain ⟨c_2, h⟩ := zz_oob h
  refine va_iald hx hb hK hP 14 0 rfl rfl c_2 d_M_parameterFor_12 ?_
  refine lv_iconst (v := 1) hx hb d_M_parameterFor_13 (by decide) ?_
  refine lv_isub hx hb d_M_parameterFor_14 ?_
  refine va_mmin hx hb (hml.trans hl.1.symm) hown (hts _ wq_478) (hts _ wq_479) (hts _ wq_12) (hts _ wq_480) (Nat.le_of_ble_eq_true rfl) (Nat.le_of_ble_eq_true rfl) (Nat.le_of_ble_eq_true rfl) (Nat.le_of_ble_eq_true rfl) d_M_parameterFor_15 ?_
  obtain ⟨r_3, e_3, h⟩ := zz_bind1 h
  refine zz_goI (zz_runSN (As := [.long ((mPa S) a1.toNatClampNeg), .int (if (((mSz S) a1.toNatClampNeg) - (1 : Int32)) < a2 then (((mSz S) a1.toNatClampNeg) - (1 : Int32)) else a2)]) (rest := []) (k_X_byteAt l z _ n _ _ _ e_3) ⟨hx, hb, hml, hown, hts⟩ ⟨va_cnB 2 hts (zz_gC wq_257) rfl rfl rfl (hN.2 0 _ rfl) (hts _ wq_1) (by decide +kernel) ⟨Nat.le_of_ble_eq_true rfl, Nat.le_of_ble_eq_true rfl⟩, hts _ wq_256, trivial⟩ hK hN hP hD rfl hl.1 rfl (Nat.le_of_ble_eq_true rfl) d_M_parameterFor_18 ⟨Nat.le_of_ble_eq_true rfl, Nat.le_of_ble_eq_true rfl⟩) hD hS hA (fun H locs hP hD hS => ?_)
  exact zz_iret (fun S => cw z A S ++ Rr) hx hb hr hlocks hP hD hS h d_M_parameterFor_21

abbrev b_M_tell : ByteArray := prog_4_method_8_code
abbrev y_M_tell : MethodName := ⟨"MemberChooser$Members", "tell", "(II)I"⟩
abbrev w_M_tell : List Cond := Cond.code y_M_tell b_M_tell 3 (some .int) :: zTb
theorem d_M_tell_0 : decode b_M_tell 0 = .ok (.iload_n 1, 1) := by decide +kernel
theorem d_M_tell_1 : decode b_M_tell 1 = .ok (.ifCond .lt 11, 3) := by decide +kernel
theorem d_M_tell_4 : decode b_M_tell 4 = .ok (.iload_n 1, 1) := by decide +kernel
theorem d_M_tell_5 : decode b_M_tell 5 = .ok (.aload_n 0, 1) := by decide +kernel
theorem d_M_tell_6 : decode b_M_tell 6 = .ok (.getfield 29, 3) := by decide +kernel
theorem d_M_tell_9 : decode b_M_tell 9 = .ok (.if_icmp .lt 5, 3) := by decide +kernel
theorem d_M_tell_12 : decode b_M_tell 12 = .ok (.iconst (-1), 1) := by decide +kernel
theorem d_M_tell_13 : decode b_M_tell 13 = .ok (.ireturn, 1) := by decide +kernel
theorem d_M_tell_14 : decode b_M_tell 14 = .ok (.iload_n 2, 1) := by decide +kernel
theorem d_M_tell_15 : decode b_M_tell 15 = .ok (.tableswitch 65 0 3 #[29, 36, 43, 50], 29) := by decide +kernel
theorem d_M_tell_44 : decode b_M_tell 44 = .ok (.aload_n 0, 1) := by decide +kernel
theorem d_M_tell_45 : decode b_M_tell 45 = .ok (.getfield 11, 3) := by decide +kernel
theorem d_M_tell_48 : decode b_M_tell 48 = .ok (.iload_n 1, 1) := by decide +kernel
theorem d_M_tell_49 : decode b_M_tell 49 = .ok (.iaload, 1) := by decide +kernel
theorem d_M_tell_50 : decode b_M_tell 50 = .ok (.ireturn, 1) := by decide +kernel
theorem d_M_tell_51 : decode b_M_tell 51 = .ok (.aload_n 0, 1) := by decide +kernel
theorem d_M_tell_52 : decode b_M_tell 52 = .ok (.getfield 15, 3) := by decide +kernel
theorem d_M_tell_55 : decode b_M_tell 55 = .ok (.iload_n 1, 1) := by decide +kernel
theorem d_M_tell_56 : decode b_M_tell 56 = .ok (.iaload, 1) := by decide +kernel
theorem d_M_tell_57 : decode b_M_tell 57 = .ok (.ireturn, 1) := by decide +kernel
theorem d_M_tell_58 : decode b_M_tell 58 = .ok (.aload_n 0, 1) := by decide +kernel
theorem d_M_tell_59 : decode b_M_tell 59 = .ok (.getfield 18, 3) := by decide +kernel
theorem d_M_tell_62 : decode b_M_tell 62 = .ok (.iload_n 1, 1) := by decide +kernel
theorem d_M_tell_63 : decode b_M_tell 63 = .ok (.iaload, 1) := by decide +kernel
theorem d_M_tell_64 : decode b_M_tell 64 = .ok (.ireturn, 1) := by decide +kernel
theorem d_M_tell_65 : decode b_M_tell 65 = .ok (.aload_n 0, 1) := by decide +kernel
theorem d_M_tell_66 : decode b_M_tell 66 = .ok (.getfield 25, 3) := by decide +kernel
theorem d_M_tell_69 : decode b_M_tell 69 = .ok (.iload_n 1, 1) := by decide +kernel
theorem d_M_tell_70 : decode b_M_tell 70 = .ok (.baload, 1) := by decide +kernel
theorem d_M_tell_71 : decode b_M_tell 71 = .ok (.ifCond .eq 7, 3) := by decide +kernel
theorem d_M_tell_74 : decode b_M_tell 74 = .ok (.iconst 1, 1) := by decide +kernel
theorem d_M_tell_75 : decode b_M_tell 75 = .ok (.goto 4, 3) := by decide +kernel
theorem d_M_tell_78 : decode b_M_tell 78 = .ok (.iconst 0, 1) := by decide +kernel
theorem d_M_tell_79 : decode b_M_tell 79 = .ok (.ireturn, 1) := by decide +kernel
theorem d_M_tell_80 : decode b_M_tell 80 = .ok (.iload_n 2, 1) := by decide +kernel
theorem d_M_tell_81 : decode b_M_tell 81 = .ok (.iconst 4, 1) := by decide +kernel
theorem d_M_tell_82 : decode b_M_tell 82 = .ok (.if_icmp .lt 30, 3) := by decide +kernel
theorem d_M_tell_85 : decode b_M_tell 85 = .ok (.iload_n 2, 1) := by decide +kernel
theorem d_M_tell_86 : decode b_M_tell 86 = .ok (.iconst 4, 1) := by decide +kernel
theorem d_M_tell_87 : decode b_M_tell 87 = .ok (.aload_n 0, 1) := by decide +kernel
theorem d_M_tell_88 : decode b_M_tell 88 = .ok (.getfield 18, 3) := by decide +kernel
theorem d_M_tell_91 : decode b_M_tell 91 = .ok (.iload_n 1, 1) := by decide +kernel
theorem d_M_tell_92 : decode b_M_tell 92 = .ok (.iaload, 1) := by decide +kernel
theorem d_M_tell_93 : decode b_M_tell 93 = .ok (.iadd, 1) := by decide +kernel
theorem d_M_tell_94 : decode b_M_tell 94 = .ok (.if_icmp .ge 18, 3) := by decide +kernel
theorem d_M_tell_97 : decode b_M_tell 97 = .ok (.aload_n 0, 1) := by decide +kernel
theorem d_M_tell_98 : decode b_M_tell 98 = .ok (.getfield 21, 3) := by decide +kernel
theorem d_M_tell_101 : decode b_M_tell 101 = .ok (.iload_n 1, 1) := by decide +kernel
theorem d_M_tell_102 : decode b_M_tell 102 = .ok (.laload, 1) := by decide +kernel
theorem d_M_tell_103 : decode b_M_tell 103 = .ok (.iload_n 2, 1) := by decide +kernel
theorem d_M_tell_104 : decode b_M_tell 104 = .ok (.iconst 4, 1) := by decide +kernel
theorem d_M_tell_105 : decode b_M_tell 105 = .ok (.isub, 1) := by decide +kernel
theorem d_M_tell_106 : decode b_M_tell 106 = .ok (.invokestatic 43, 3) := by decide +kernel
theorem d_M_tell_109 : decode b_M_tell 109 = .ok (.goto 4, 3) := by decide +kernel
theorem d_M_tell_112 : decode b_M_tell 112 = .ok (.iconst (-1), 1) := by decide +kernel
theorem d_M_tell_113 : decode b_M_tell 113 = .ok (.ireturn, 1) := by decide +kernel
abbrev rm_M_tell : Room := { frames := 1, cells := 0, slots := 0, locals := 22 }
def fx_M_tell (n : Nat) (S : ZC) (a1 : Int32) (a2 : Int32) : Option (Int32 × ZC) :=
  (if a1 < 0 then
  some ((-1 : Int32), S)
  else
  (if a1 < (mTo S) then
    (if a2 = (0 : Int32) then
      (if zoob a1 80 then none else
        some (((mOw S) a1.toNatClampNeg), S))
      else (if a2 = (1 : Int32) then
      (if zoob a1 80 then none else
        some (((mNa S) a1.toNatClampNeg), S))
      else (if a2 = (2 : Int32) then
      (if zoob a1 80 then none else
        some (((mSz S) a1.toNatClampNeg), S))
      else (if a2 = (3 : Int32) then
      (if zoob a1 80 then none else
        (if ((mVa S) a1.toNatClampNeg) = 0 then
        some ((0 : Int32), S)
        else
        some ((1 : Int32), S)))
      else (if a2 < (4 : Int32) then
      some ((-1 : Int32), S)
      else
      (if zoob a1 80 then none else
        (if ((4 : Int32) + ((mSz S) a1.toNatClampNeg)) ≤ a2 then
        some ((-1 : Int32), S)
        else
        (if zoob a1 80 then none else
          zbind1 (fx_X_byteAt n ((mPa S) a1.toNatClampNeg) (a2 - (4 : Int32))) (fun r_16 =>
          some (r_16, S))))))))))
    else
    some ((-1 : Int32), S)))

set_option maxRecDepth 100000 in
set_option maxHeartbeats 4000000 in
theorem k_M_tell (l : Launch) (z : zE) (A : Nat → Nat) (Rr : va_W) (n : Nat) (S : ZC) (a1 : Int32) (a2 : Int32) (r0 : Int32) (S' : ZC) (h : fx_M_tell n S a1 a2 = some (r0, S')) : zC z l y_M_tell w_M_tell rm_M_tell [.ref (A 11), .int a1, .int a2] (cw z A S ++ Rr) (some (.int r0)) (cw z A S' ++ Rr) := by
  refine zz_of (by decide) (Nat.le_of_ble_eq_true rfl) ?_
  intro p e s m args below meth c A0 ls hM hr hlocks hA hP hD hl
  have hM : zM z p s m args c b_M_tell 3 R_M := hM
  obtain ⟨hx, hb, hml, hown, hts, hK, hN⟩ := id hM
  have hS : va_S A0 s.heap s.heap [] := va_S.rf
  have hl : lv_has ls 3 [(0, .ref (A 11)), (1, .int a1), (2, .int a2)] := hl
  unfold fx_M_tell at h
  refine lv_iload_n hx hb d_M_tell_0 rfl (lv_at hl 1 rfl) ?_
  refine lv_if_lt (tgt := 12) hx hb d_M_tell_1 (by decide) (fun c_1 => ?_) (fun c_1 => ?_)
  · replace h := zz_t c_1 h
    refine lv_iconst (v := -1) hx hb d_M_tell_12 (by decide) ?_
    exact zz_iret (fun S => cw z A S ++ Rr) hx hb hr hlocks hP hD hS h d_M_tell_13
  · replace h := zz_f c_1 h
    refine lv_iload_n hx hb d_M_tell_4 rfl (lv_at hl 1 rfl) ?_
    refine lv_aload_n hx hb d_M_tell_5 rfl (lv_at hl 0 rfl) ?_
    refine va_get (D := z.1) (ci := 2) (v := .int (mTo S)) (C := R_M) (T := F_M) (N := 6) hx hb hts i_M hown hK hP 11 rfl rfl 5 (by decide) (hts _ wq_73) (fun _ h9 => h9) rfl d_M_tell_6 ?_
    refine lv_icmp_lt (tgt := 14) hx hb d_M_tell_9 (by decide) (fun c_2 => ?_) (fun c_2 => ?_)
    · replace h := zz_t c_2 h
      refine lv_iload_n hx hb d_M_tell_14 rfl (lv_at hl 2 rfl) ?_
      by_cases c_3 : a2 = (0 : Int32)
      · replace h := zz_t c_3 h
        refine lv_tableIn (tgt := 44) hx hb d_M_tell_15 (by rw [c_3]; decide) (by rw [c_3]; decide) (by rw [c_3]; rfl) (by decide) ?_
        refine lv_aload_n hx hb d_M_tell_44 rfl (lv_at hl 0 rfl) ?_
        refine va_get (D := z.1) (ci := 2) (v := .ref (A 12)) (C := R_M) (T := F_M) (N := 6) hx hb hts i_M hown hK hP 11 rfl rfl 0 (by decide) (hts _ wq_66) (fun _ h9 => h9) rfl d_M_tell_45 ?_
        refine lv_iload_n hx hb d_M_tell_48 rfl (lv_at hl 1 rfl) ?_
        obtain ⟨c_4, h⟩ := zz_oob h
        refine va_iald hx hb hK hP 12 0 rfl rfl c_4 d_M_tell_49 ?_
        exact zz_iret (fun S => cw z A S ++ Rr) hx hb hr hlocks hP hD hS h d_M_tell_50
      replace h := zz_f c_3 h
      by_cases c_5 : a2 = (1 : Int32)
      · replace h := zz_t c_5 h
        refine lv_tableIn (tgt := 51) hx hb d_M_tell_15 (by rw [c_5]; decide) (by rw [c_5]; decide) (by rw [c_5]; rfl) (by decide) ?_
        refine lv_aload_n hx hb d_M_tell_51 rfl (lv_at hl 0 rfl) ?_
        refine va_get (D := z.1) (ci := 2) (v := .ref (A 13)) (C := R_M) (T := F_M) (N := 6) hx hb hts i_M hown hK hP 11 rfl rfl 1 (by decide) (hts _ wq_67) (fun _ h9 => h9) rfl d_M_tell_52 ?_
        refine lv_iload_n hx hb d_M_tell_55 rfl (lv_at hl 1 rfl) ?_
        obtain ⟨c_6, h⟩ := zz_oob h
        refine va_iald hx hb hK hP 13 0 rfl rfl c_6 d_M_tell_56 ?_
        exact zz_iret (fun S => cw z A S ++ Rr) hx hb hr hlocks hP hD hS h d_M_tell_57
      replace h := zz_f c_5 h
      by_cases c_7 : a2 = (2 : Int32)
      · replace h := zz_t c_7 h
        refine lv_tableIn (tgt := 58) hx hb d_M_tell_15 (by rw [c_7]; decide) (by rw [c_7]; decide) (by rw [c_7]; rfl) (by decide) ?_
        refine lv_aload_n hx hb d_M_tell_58 rfl (lv_at hl 0 rfl) ?_
        refine va_get (D := z.1) (ci := 2) (v := .ref (A 14)) (C := R_M) (T := F_M) (N := 6) hx hb hts i_M hown hK hP 11 rfl rfl 2 (by decide) (hts _ wq_68) (fun _ h9 => h9) rfl d_M_tell_59 ?_
        refine lv_iload_n hx hb d_M_tell_62 rfl (lv_at hl 1 rfl) ?_
        obtain ⟨c_8, h⟩ := zz_oob h
        refine va_iald hx hb hK hP 14 0 rfl rfl c_8 d_M_tell_63 ?_
        exact zz_iret (fun S => cw z A S ++ Rr) hx hb hr hlocks hP hD hS h d_M_tell_64
      replace h := zz_f c_7 h
      by_cases c_9 : a2 = (3 : Int32)
      · replace h := zz_t c_9 h
        refine lv_tableIn (tgt := 65) hx hb d_M_tell_15 (by rw [c_9]; decide) (by rw [c_9]; decide) (by rw [c_9]; rfl) (by decide) ?_
        refine lv_aload_n hx hb d_M_tell_65 rfl (lv_at hl 0 rfl) ?_
        refine va_get (D := z.1) (ci := 2) (v := .ref (A 16)) (C := R_M) (T := F_M) (N := 6) hx hb hts i_M hown hK hP 11 rfl rfl 4 (by decide) (hts _ wq_71) (fun _ h9 => h9) rfl d_M_tell_66 ?_
        refine lv_iload_n hx hb d_M_tell_69 rfl (lv_at hl 1 rfl) ?_
        obtain ⟨c_10, h⟩ := zz_oob h
        refine va_zald hx hb hK hP 16 1 rfl rfl c_10 d_M_tell_70 ?_
        refine lv_if_eq (tgt := 78) hx hb d_M_tell_71 (by decide) (fun c_11 => ?_) (fun c_11 => ?_)
        · replace h := zz_t c_11 h
          refine lv_iconst (v := 0) hx hb d_M_tell_78 (by decide) ?_
          exact zz_iret (fun S => cw z A S ++ Rr) hx hb hr hlocks hP hD hS h d_M_tell_79
        · replace h := zz_f c_11 h
          refine lv_iconst (v := 1) hx hb d_M_tell_74 (by decide) ?_
          refine lv_goto (tgt := 79) hx hb d_M_tell_75 (by decide) ?_
          exact zz_iret (fun S => cw z A S ++ Rr) hx hb hr hlocks hP hD hS h d_M_tell_79
      replace h := zz_f c_9 h
      refine lv_tableOut (tgt := 80) hx hb d_M_tell_15 (by have qc_3 := zz_tne (a := 0) (by decide) c_3; have qc_5 := zz_tne (a := 1) (by decide) c_5; have qc_7 := zz_tne (a := 2) (by decide) c_7; have qc_9 := zz_tne (a := 3) (by decide) c_9; omega) (by decide) ?_
      refine lv_iload_n hx hb d_M_tell_80 rfl (lv_at hl 2 rfl) ?_
      refine lv_iconst (v := 4) hx hb d_M_tell_81 (by decide) ?_
      refine lv_icmp_lt (tgt := 112) hx hb d_M_tell_82 (by decide) (fun c_12 => ?_) (fun c_12 => ?_)
      · replace h := zz_t c_12 h
        refine lv_iconst (v := -1) hx hb d_M_tell_112 (by decide) ?_
        exact zz_iret (fun S => cw z A S ++ Rr) hx hb hr hlocks hP hD hS h d_M_tell_113
      · replace h := zz_f c_12 h
        refine lv_iload_n hx hb d_M_tell_85 rfl (lv_at hl 2 rfl) ?_
        refine lv_iconst (v := 4) hx hb d_M_tell_86 (by decide) ?_
        refine lv_aload_n hx hb d_M_tell_87 rfl (lv_at hl 0 rfl) ?_
        refine va_get (D := z.1) (ci := 2) (v := .ref (A 14)) (C := R_M) (T := F_M) (N := 6) hx hb hts i_M hown hK hP 11 rfl rfl 2 (by decide) (hts _ wq_68) (fun _ h9 => h9) rfl d_M_tell_88 ?_
        refine lv_iload_n hx hb d_M_tell_91 rfl (lv_at hl 1 rfl) ?_
        obtain ⟨c_13, h⟩ := zz_oob h
        refine va_iald hx hb hK hP 14 0 rfl rfl c_13 d_M_tell_92 ?_
        refine lv_iadd hx hb d_M_tell_93 ?_
        refine lv_icmp_ge (tgt := 112) hx hb d_M_tell_94 (by decide) (fun c_14 => ?_) (fun c_14 => ?_)
        · replace h := zz_t c_14 h
          refine lv_iconst (v := -1) hx hb d_M_tell_112 (by decide) ?_
          exact zz_iret (fun S => cw z A S ++ Rr) hx hb hr hlocks hP hD hS h d_M_tell_113
        · replace h := zz_f c_14 h
          refine lv_aload_n hx hb d_M_tell_97 rfl (lv_at hl 0 rfl) ?_
          refine va_get (D := z.1) (ci := 2) (v := .ref (A 15)) (C := R_M) (T := F_M) (N := 6) hx hb hts i_M hown hK hP 11 rfl rfl 3 (by decide) (hts _ wq_70) (fun _ h9 => h9) rfl d_M_tell_98 ?_
          refine lv_iload_n hx hb d_M_tell_101 rfl (lv_at hl 1 rfl) ?_
          obtain ⟨c_15, h⟩ := zz_oob h
          refine va_lald hx hb hK hP 15 2 rfl rfl c_15 d_M_tell_102 ?_
          refine lv_iload_n hx hb d_M_tell_103 rfl (lv_at hl 2 rfl) ?_
          refine lv_iconst (v := 4) hx hb d_M_tell_104 (by decide) ?_
          refine lv_isub hx hb d_M_tell_105 ?_
          obtain ⟨r_16, e_16, h⟩ := zz_bind1 h
          refine zz_goI (zz_runSN (As := [.long ((mPa S) a1.toNatClampNeg), .int (a2 - (4 : Int32))]) (rest := []) (k_X_byteAt l z _ n _ _ _ e_16) ⟨hx, hb, hml, hown, hts⟩ ⟨va_cnB 2 hts (zz_gC wq_257) rfl rfl rfl (hN.2 0 _ rfl) (hts _ wq_1) (by decide +kernel) ⟨Nat.le_of_ble_eq_true rfl, Nat.le_of_ble_eq_true rfl⟩, hts _ wq_256, trivial⟩ hK hN hP hD rfl hl.1 rfl (Nat.le_of_ble_eq_true rfl) d_M_tell_106 ⟨Nat.le_of_ble_eq_true rfl, Nat.le_of_ble_eq_true rfl⟩) hD hS hA (fun H locs hP hD hS => ?_)
          refine lv_goto (tgt := 113) hx hb d_M_tell_109 (by decide) ?_
          exact zz_iret (fun S => cw z A S ++ Rr) hx hb hr hlocks hP hD hS h d_M_tell_113
    · replace h := zz_f c_2 h
      refine lv_iconst (v := -1) hx hb d_M_tell_12 (by decide) ?_
      exact zz_iret (fun S => cw z A S ++ Rr) hx hb hr hlocks hP hD hS h d_M_tell_13

abbrev b_T_exists : ByteArray := prog_5_method_3_code
abbrev y_T_exists : MethodName := ⟨"MemberChooser$Types", "exists", "(I)Z"⟩
abbrev w_T_exists : List Cond := Cond.code y_T_exists b_T_exists 2 (some .boolean) :: zTb
theorem d_T_exists_0 : decode b_T_exists 0 = .ok (.iload_n 1, 1) := by decide +kernel
theorem d_T_exists_1 : decode b_T_exists 1 = .ok (.ifCond .lt 18, 3) := by decide +kernel
theorem d_T_exists_4 : decode b_T_exists 4 = .ok (.iload_n 1, 1) := by decide +kernel
theorem d_T_exists_5 : decode b_T_exists 5 = .ok (.bipush 8, 2) := by decide +kernel
theorem d_T_exists_7 : decode b_T_exists 7 = .ok (.aload_n 0, 1) := by decide +kernel
theorem d_T_exists_8 : decode b_T_exists 8 = .ok (.getfield 30, 3) := by decide +kernel
theorem d_T_exists_11 : decode b_T_exists 11 = .ok (.iadd, 1) := by decide +kernel
theorem d_T_exists_12 : decode b_T_exists 12 = .ok (.if_icmp .ge 7, 3) := by decide +kernel
theorem d_T_exists_15 : decode b_T_exists 15 = .ok (.iconst 1, 1) := by decide +kernel
theorem d_T_exists_16 : decode b_T_exists 16 = .ok (.goto 4, 3) := by decide +kernel
theorem d_T_exists_19 : decode b_T_exists 19 = .ok (.iconst 0, 1) := by decide +kernel
theorem d_T_exists_20 : decode b_T_exists 20 = .ok (.ireturn, 1) := by decide +kernel
abbrev rm_T_exists : Room := { frames := 0, cells := 0, slots := 0, locals := 0 }
def fx_T_exists (n : Nat) (S : ZC) (a1 : Int32) : Option (Int32 × ZC) :=
  (if a1 < 0 then
  some ((0 : Int32), S)
  else
  (if ((8 : Int32) + (tTo S)) ≤ a1 then
    some ((0 : Int32), S)
    else
    some ((1 : Int32), S)))

set_option maxRecDepth 100000 in
set_option maxHeartbeats 4000000 in
theorem k_T_exists (l : Launch) (z : zE) (A : Nat → Nat) (Rr : va_W) (n : Nat) (S : ZC) (a1 : Int32) (r0 : Int32) (S' : ZC) (h : fx_T_exists n S a1 = some (r0, S')) : zC z l y_T_exists w_T_exists rm_T_exists [.ref (A 17), .int a1] (cw z A S ++ Rr) (some (.int r0)) (cw z A S' ++ Rr) := by
  refine zz_of (by decide) (Nat.le_of_ble_eq_true rfl) ?_
  intro p e s m args below meth c A0 ls hM hr hlocks hA hP hD hl
  have hM : zM z p s m args c b_T_exists 2 R_T := hM
  obtain ⟨hx, hb, hml, hown, hts, hK, hN⟩ := id hM
  have hS : va_S A0 s.heap s.heap [] := va_S.rf
  have hl : lv_has ls 2 [(0, .ref (A 17)), (1, .int a1)] := hl
  unfold fx_T_exists at h
  refine lv_iload_n hx hb d_T_exists_0 rfl (lv_at hl 1 rfl) ?_
  refine lv_if_lt (tgt := 19) hx hb d_T_exists_1 (by decide) (fun c_1 => ?_) (fun c_1 => ?_)
  · replace h := zz_t c_1 h
    refine lv_iconst (v := 0) hx hb d_T_exists_19 (by decide) ?_
    exact zz_zret (fun S => cw z A S ++ Rr) hx hb hr hlocks hP hD hS rfl h d_T_exists_20
  · replace h := zz_f c_1 h
    refine lv_iload_n hx hb d_T_exists_4 rfl (lv_at hl 1 rfl) ?_
    refine lv_bipush (v := 8) hx hb d_T_exists_5 (by decide) ?_
    refine lv_aload_n hx hb d_T_exists_7 rfl (lv_at hl 0 rfl) ?_
    refine va_get (D := z.1) (ci := 1) (v := .int (tTo S)) (C := R_T) (T := F_T) (N := 6) hx hb hts i_T hown hK hP 17 rfl rfl 5 (by decide) (hts _ wq_43) (fun _ h9 => h9) rfl d_T_exists_8 ?_
    refine lv_iadd hx hb d_T_exists_11 ?_
    refine lv_icmp_ge (tgt := 19) hx hb d_T_exists_12 (by decide) (fun c_2 => ?_) (fun c_2 => ?_)
    · replace h := zz_t c_2 h
      refine lv_iconst (v := 0) hx hb d_T_exists_19 (by decide) ?_
      exact zz_zret (fun S => cw z A S ++ Rr) hx hb hr hlocks hP hD hS rfl h d_T_exists_20
    · replace h := zz_f c_2 h
      refine lv_iconst (v := 1) hx hb d_T_exists_15 (by decide) ?_
      refine lv_goto (tgt := 20) hx hb d_T_exists_16 (by decide) ?_
      exact zz_zret (fun S => cw z A S ++ Rr) hx hb hr hlocks hP hD hS rfl h d_T_exists_20

abbrev b_T_isTold : ByteArray := prog_5_method_4_code
abbrev y_T_isTold : MethodName := ⟨"MemberChooser$Types", "isTold", "(I)Z"⟩
abbrev w_T_isTold : List Cond := Cond.code y_T_isTold b_T_isTold 2 (some .boolean) :: zTb
theorem d_T_isTold_0 : decode b_T_isTold 0 = .ok (.iload_n 1, 1) := by decide +kernel
theorem d_T_isTold_1 : decode b_T_isTold 1 = .ok (.bipush 8, 2) := by decide +kernel
theorem d_T_isTold_3 : decode b_T_isTold 3 = .ok (.if_icmp .lt 15, 3) := by decide +kernel
theorem d_T_isTold_6 : decode b_T_isTold 6 = .ok (.aload_n 0, 1) := by decide +kernel
theorem d_T_isTold_7 : decode b_T_isTold 7 = .ok (.iload_n 1, 1) := by decide +kernel
theorem d_T_isTold_8 : decode b_T_isTold 8 = .ok (.invokevirtual 42, 3) := by decide +kernel
theorem d_T_isTold_11 : decode b_T_isTold 11 = .ok (.ifCond .eq 7, 3) := by decide +kernel
theorem d_T_isTold_14 : decode b_T_isTold 14 = .ok (.iconst 1, 1) := by decide +kernel
theorem d_T_isTold_15 : decode b_T_isTold 15 = .ok (.goto 4, 3) := by decide +kernel
theorem d_T_isTold_18 : decode b_T_isTold 18 = .ok (.iconst 0, 1) := by decide +kernel
theorem d_T_isTold_19 : decode b_T_isTold 19 = .ok (.ireturn, 1) := by decide +kernel
abbrev rm_T_isTold : Room := { frames := 1, cells := 0, slots := 0, locals := 21 }
def fx_T_isTold (n : Nat) (S : ZC) (a1 : Int32) : Option (Int32 × ZC) :=
  (if a1 < (8 : Int32) then
  some ((0 : Int32), S)
  else
  zbind (fx_T_exists n S a1) (fun r_2 S_2 =>
    (if r_2 = 0 then
    some ((0 : Int32), S_2)
    else
    some ((1 : Int32), S_2))))

set_option maxRecDepth 100000 in
set_option maxHeartbeats 4000000 in
theorem k_T_isTold (l : Launch) (z : zE) (A : Nat → Nat) (Rr : va_W) (n : Nat) (S : ZC) (a1 : Int32) (r0 : Int32) (S' : ZC) (h : fx_T_isTold n S a1 = some (r0, S')) : zC z l y_T_isTold w_T_isTold rm_T_isTold [.ref (A 17), .int a1] (cw z A S ++ Rr) (some (.int r0)) (cw z A S' ++ Rr) := by
  refine zz_of (by decide) (Nat.le_of_ble_eq_true rfl) ?_
  intro p e s m args below meth c A0 ls hM hr hlocks hA hP hD hl
  have hM : zM z p s m args c b_T_isTold 2 R_T := hM
  obtain ⟨hx, hb, hml, hown, hts, hK, hN⟩ := id hM
  have hS : va_S A0 s.heap s.heap [] := va_S.rf
  have hl : lv_has ls 2 [(0, .ref (A 17)), (1, .int a1)] := hl
  unfold fx_T_isTold at h
  refine lv_iload_n hx hb d_T_isTold_0 rfl (lv_at hl 1 rfl) ?_
  refine lv_bipush (v := 8) hx hb d_T_isTold_1 (by decide) ?_
  refine lv_icmp_lt (tgt := 18) hx hb d_T_isTold_3 (by decide) (fun c_1 => ?_) (fun c_1 => ?_)
  · replace h := zz_t c_1 h
    refine lv_iconst (v := 0) hx hb d_T_isTold_18 (by decide) ?_
    exact zz_zret (fun S => cw z A S ++ Rr) hx hb hr hlocks hP hD hS rfl h d_T_isTold_19
  · replace h := zz_f c_1 h
    refine lv_aload_n hx hb d_T_isTold_6 rfl (lv_at hl 0 rfl) ?_
    refine lv_iload_n hx hb d_T_isTold_7 rfl (lv_at hl 1 rfl) ?_
    obtain ⟨r_2, S_2, e_2, h⟩ := zz_bind h
    refine zz_goI (zz_runV (As := [.int a1]) (rest := []) (k_T_exists l z A Rr n _ _ _ _ e_2) ⟨hx, hb, hml, hown, hts⟩ (cwV 1 hts (zz_gV wq_180 wq_181 wq_182 wq_2 wq_183) rfl rfl rfl (by decide +kernel) ⟨Nat.le_of_ble_eq_true rfl, Nat.le_of_ble_eq_true rfl⟩) hK hN hP hD (va_recv hK hP (ci := 1) (q0 := 17) rfl rfl) rfl hl.1 rfl (Nat.le_of_ble_eq_true rfl) d_T_isTold_8 ⟨Nat.le_of_ble_eq_true rfl, Nat.le_of_ble_eq_true rfl⟩) hD hS hA (fun H locs hP hD hS => ?_)
    refine lv_if_eq (tgt := 18) hx hb d_T_isTold_11 (by decide) (fun c_3 => ?_) (fun c_3 => ?_)
    · replace h := zz_t c_3 h
      refine lv_iconst (v := 0) hx hb d_T_isTold_18 (by decide) ?_
      exact zz_zret (fun S => cw z A S ++ Rr) hx hb hr hlocks hP hD hS rfl h d_T_isTold_19
    · replace h := zz_f c_3 h
      refine lv_iconst (v := 1) hx hb d_T_isTold_14 (by decide) ?_
      refine lv_goto (tgt := 19) hx hb d_T_isTold_15 (by decide) ?_
      exact zz_zret (fun S => cw z A S ++ Rr) hx hb hr hlocks hP hD hS rfl h d_T_isTold_19

abbrev b_T_isToldClass : ByteArray := prog_5_method_5_code
abbrev y_T_isToldClass : MethodName := ⟨"MemberChooser$Types", "isToldClass", "(I)Z"⟩
abbrev w_T_isToldClass : List Cond := Cond.code y_T_isToldClass b_T_isToldClass 2 (some .boolean) :: zTb
theorem d_T_isToldClass_0 : decode b_T_isToldClass 0 = .ok (.aload_n 0, 1) := by decide +kernel
theorem d_T_isToldClass_1 : decode b_T_isToldClass 1 = .ok (.iload_n 1, 1) := by decide +kernel
theorem d_T_isToldClass_2 : decode b_T_isToldClass 2 = .ok (.invokevirtual 45, 3) := by decide +kernel
theorem d_T_isToldClass_5 : decode b_T_isToldClass 5 = .ok (.ifCond .eq 16, 3) := by decide +kernel
theorem d_T_isToldClass_8 : decode b_T_isToldClass 8 = .ok (.aload_n 0, 1) := by decide +kernel
theorem d_T_isToldClass_9 : decode b_T_isToldClass 9 = .ok (.getfield 11, 3) := by decide +kernel
theorem d_T_isToldClass_12 : decode b_T_isToldClass 12 = .ok (.iload_n 1, 1) := by decide +kernel
theorem d_T_isToldClass_13 : decode b_T_isToldClass 13 = .ok (.baload, 1) := by decide +kernel
theorem d_T_isToldClass_14 : decode b_T_isToldClass 14 = .ok (.ifCond .ne 7, 3) := by decide +kernel
theorem d_T_isToldClass_17 : decode b_T_isToldClass 17 = .ok (.iconst 1, 1) := by decide +kernel
theorem d_T_isToldClass_18 : decode b_T_isToldClass 18 = .ok (.goto 4, 3) := by decide +kernel
theorem d_T_isToldClass_21 : decode b_T_isToldClass 21 = .ok (.iconst 0, 1) := by decide +kernel
theorem d_T_isToldClass_22 : decode b_T_isToldClass 22 = .ok (.ireturn, 1) := by decide +kernel
abbrev rm_T_isToldClass : Room := { frames := 2, cells := 0, slots := 0, locals := 42 }
def fx_T_isToldClass (n : Nat) (S : ZC) (a1 : Int32) : Option (Int32 × ZC) :=
  zbind (fx_T_isTold n S a1) (fun r_1 S_1 =>
  (if r_1 = 0 then
  some ((0 : Int32), S_1)
  else
  (if zoob a1 32 then none else
    (if ((tFm S_1) a1.toNatClampNeg) = 0 then
    some ((1 : Int32), S_1)
    else
    some ((0 : Int32), S_1)))))

set_option maxRecDepth 100000 in
set_option maxHeartbeats 4000000 in
theorem k_T_isToldClass (l : Launch) (z : zE) (A : Nat → Nat) (Rr : va_W) (n : Nat) (S : ZC) (a1 : Int32) (r0 : Int32) (S' : ZC) (h : fx_T_isToldClass n S a1 = some (r0, S')) : zC z l y_T_isToldClass w_T_isToldClass rm_T_isToldClass [.ref (A 17), .int a1] (cw z A S ++ Rr) (some (.int r0)) (cw z A S' ++ Rr) := by
  refine zz_of (by decide) (Nat.le_of_ble_eq_true rfl) ?_
  intro p e s m args below meth c A0 ls hM hr hlocks hA hP hD hl
  have hM : zM z p s m args c b_T_isToldClass 2 R_T := hM
  obtain ⟨hx, hb, hml, hown, hts, hK, hN⟩ := id hM
  have hS : va_S A0 s.heap s.heap [] := va_S.rf
  have hl : lv_has ls 2 [(0, .ref (A 17)), (1, .int a1)] := hl
  unfold fx_T_isToldClass at h
  refine lv_aload_n hx hb d_T_isToldClass_0 rfl (lv_at hl 0 rfl) ?_
  refine lv_iload_n hx hb d_T_isToldClass_1 rfl (lv_at hl 1 rfl) ?_
  obtain ⟨r_1, S_1, e_1, h⟩ := zz_bind h
  refine zz_goI (zz_runV (As := [.int a1]) (rest := []) (k_T_isTold l z A Rr n _ _ _ _ e_1) ⟨hx, hb, hml, hown, hts⟩ (cwV 1 hts (zz_gV wq_176 wq_177 wq_178 wq_2 wq_179) rfl rfl rfl (by decide +kernel) ⟨Nat.le_of_ble_eq_true rfl, Nat.le_of_ble_eq_true rfl⟩) hK hN hP hD (va_recv hK hP (ci := 1) (q0 := 17) rfl rfl) rfl hl.1 rfl (Nat.le_of_ble_eq_true rfl) d_T_isToldClass_2 ⟨Nat.le_of_ble_eq_true rfl, Nat.le_of_ble_eq_true rfl⟩) hD hS hA (fun H locs hP hD hS => ?_)
  refine lv_if_eq (tgt := 21) hx hb d_T_isToldClass_5 (by decide) (fun c_2 => ?_) (fun c_2 => ?_)
  · replace h := zz_t c_2 h
    refine lv_iconst (v := 0) hx hb d_T_isToldClass_21 (by decide) ?_
    exact zz_zret (fun S => cw z A S ++ Rr) hx hb hr hlocks hP hD hS rfl h d_T_isToldClass_22
  · replace h := zz_f c_2 h
    refine lv_aload_n hx hb d_T_isToldClass_8 rfl (lv_at hl 0 rfl) ?_
    refine va_get (D := z.1) (ci := 1) (v := .ref (A 18)) (C := R_T) (T := F_T) (N := 6) hx hb hts i_T hown hK hP 17 rfl rfl 0 (by decide) (hts _ wq_38) (fun _ h9 => h9) rfl d_T_isToldClass_9 ?_
    refine lv_iload_n hx hb d_T_isToldClass_12 rfl (lv_at hl 1 rfl) ?_
    obtain ⟨c_3, h⟩ := zz_oob h
    refine va_zald hx hb hK hP 18 1 rfl rfl c_3 d_T_isToldClass_13 ?_
    refine lv_if_ne (tgt := 21) hx hb d_T_isToldClass_14 (by decide) (fun c_4 => ?_) (fun c_4 => ?_)
    · replace h := zz_f c_4 h
      refine lv_iconst (v := 0) hx hb d_T_isToldClass_21 (by decide) ?_
      exact zz_zret (fun S => cw z A S ++ Rr) hx hb hr hlocks hP hD hS rfl h d_T_isToldClass_22
    · replace h := zz_t c_4 h
      refine lv_iconst (v := 1) hx hb d_T_isToldClass_17 (by decide) ?_
      refine lv_goto (tgt := 22) hx hb d_T_isToldClass_18 (by decide) ?_
      exact zz_zret (fun S => cw z A S ++ Rr) hx hb hr hlocks hP hD hS rfl h d_T_isToldClass_22

abbrev b_T_isToldFace : ByteArray := prog_5_method_6_code
abbrev y_T_isToldFace : MethodName := ⟨"MemberChooser$Types", "isToldFace", "(I)Z"⟩
abbrev w_T_isToldFace : List Cond := Cond.code y_T_isToldFace b_T_isToldFace 2 (some .boolean) :: zTb
theorem d_T_isToldFace_0 : decode b_T_isToldFace 0 = .ok (.aload_n 0, 1) := by decide +kernel
theorem d_T_isToldFace_1 : decode b_T_isToldFace 1 = .ok (.iload_n 1, 1) := by decide +kernel
theorem d_T_isToldFace_2 : decode b_T_isToldFace 2 = .ok (.invokevirtual 45, 3) := by decide +kernel
theorem d_T_isToldFace_5 : decode b_T_isToldFace 5 = .ok (.ifCond .eq 16, 3) := by decide +kernel
theorem d_T_isToldFace_8 : decode b_T_isToldFace 8 = .ok (.aload_n 0, 1) := by decide +kernel
theorem d_T_isToldFace_9 : decode b_T_isToldFace 9 = .ok (.getfield 11, 3) := by decide +kernel
theorem d_T_isToldFace_12 : decode b_T_isToldFace 12 = .ok (.iload_n 1, 1) := by decide +kernel
theorem d_T_isToldFace_13 : decode b_T_isToldFace 13 = .ok (.baload, 1) := by decide +kernel
theorem d_T_isToldFace_14 : decode b_T_isToldFace 14 = .ok (.ifCond .eq 7, 3) := by decide +kernel
theorem d_T_isToldFace_17 : decode b_T_isToldFace 17 = .ok (.iconst 1, 1) := by decide +kernel
theorem d_T_isToldFace_18 : decode b_T_isToldFace 18 = .ok (.goto 4, 3) := by decide +kernel
theorem d_T_isToldFace_21 : decode b_T_isToldFace 21 = .ok (.iconst 0, 1) := by decide +kernel
theorem d_T_isToldFace_22 : decode b_T_isToldFace 22 = .ok (.ireturn, 1) := by decide +kernel
abbrev rm_T_isToldFace : Room := { frames := 2, cells := 0, slots := 0, locals := 42 }
def fx_T_isToldFace (n : Nat) (S : ZC) (a1 : Int32) : Option (Int32 × ZC) :=
  zbind (fx_T_isTold n S a1) (fun r_1 S_1 =>
  (if r_1 = 0 then
  some ((0 : Int32), S_1)
  else
  (if zoob a1 32 then none else
    (if ((tFm S_1) a1.toNatClampNeg) = 0 then
    some ((0 : Int32), S_1)
    else
    some ((1 : Int32), S_1)))))

set_option maxRecDepth 100000 in
set_option maxHeartbeats 4000000 in
theorem k_T_isToldFace (l : Launch) (z : zE) (A : Nat → Nat) (Rr : va_W) (n : Nat) (S : ZC) (a1 : Int32) (r0 : Int32) (S' : ZC) (h : fx_T_isToldFace n S a1 = some (r0, S')) : zC z l y_T_isToldFace w_T_isToldFace rm_T_isToldFace [.ref (A 17), .int a1] (cw z A S ++ Rr) (some (.int r0)) (cw z A S' ++ Rr) := by
  refine zz_of (by decide) (Nat.le_of_ble_eq_true rfl) ?_
  intro p e s m args below meth c A0 ls hM hr hlocks hA hP hD hl
  have hM : zM z p s m args c b_T_isToldFace 2 R_T := hM
  obtain ⟨hx, hb, hml, hown, hts, hK, hN⟩ := id hM
  have hS : va_S A0 s.heap s.heap [] := va_S.rf
  have hl : lv_has ls 2 [(0, .ref (A 17)), (1, .int a1)] := hl
  unfold fx_T_isToldFace at h
  refine lv_aload_n hx hb d_T_isToldFace_0 rfl (lv_at hl 0 rfl) ?_
  refine lv_iload_n hx hb d_T_isToldFace_1 rfl (lv_at hl 1 rfl) ?_
  obtain ⟨r_1, S_1, e_1, h⟩ := zz_bind h
  refine zz_goI (zz_runV (As := [.int a1]) (rest := []) (k_T_isTold l z A Rr n _ _ _ _ e_1) ⟨hx, hb, hml, hown, hts⟩ (cwV 1 hts (zz_gV wq_176 wq_177 wq_178 wq_2 wq_179) rfl rfl rfl (by decide +kernel) ⟨Nat.le_of_ble_eq_true rfl, Nat.le_of_ble_eq_true rfl⟩) hK hN hP hD (va_recv hK hP (ci := 1) (q0 := 17) rfl rfl) rfl hl.1 rfl (Nat.le_of_ble_eq_true rfl) d_T_isToldFace_2 ⟨Nat.le_of_ble_eq_true rfl, Nat.le_of_ble_eq_true rfl⟩) hD hS hA (fun H locs hP hD hS => ?_)
  refine lv_if_eq (tgt := 21) hx hb d_T_isToldFace_5 (by decide) (fun c_2 => ?_) (fun c_2 => ?_)
  · replace h := zz_t c_2 h
    refine lv_iconst (v := 0) hx hb d_T_isToldFace_21 (by decide) ?_
    exact zz_zret (fun S => cw z A S ++ Rr) hx hb hr hlocks hP hD hS rfl h d_T_isToldFace_22
  · replace h := zz_f c_2 h
    refine lv_aload_n hx hb d_T_isToldFace_8 rfl (lv_at hl 0 rfl) ?_
    refine va_get (D := z.1) (ci := 1) (v := .ref (A 18)) (C := R_T) (T := F_T) (N := 6) hx hb hts i_T hown hK hP 17 rfl rfl 0 (by decide) (hts _ wq_38) (fun _ h9 => h9) rfl d_T_isToldFace_9 ?_
    refine lv_iload_n hx hb d_T_isToldFace_12 rfl (lv_at hl 1 rfl) ?_
    obtain ⟨c_3, h⟩ := zz_oob h
    refine va_zald hx hb hK hP 18 1 rfl rfl c_3 d_T_isToldFace_13 ?_
    refine lv_if_eq (tgt := 21) hx hb d_T_isToldFace_14 (by decide) (fun c_4 => ?_) (fun c_4 => ?_)
    · replace h := zz_t c_4 h
      refine lv_iconst (v := 0) hx hb d_T_isToldFace_21 (by decide) ?_
      exact zz_zret (fun S => cw z A S ++ Rr) hx hb hr hlocks hP hD hS rfl h d_T_isToldFace_22
    · replace h := zz_f c_4 h
      refine lv_iconst (v := 1) hx hb d_T_isToldFace_17 (by decide) ?_
      refine lv_goto (tgt := 22) hx hb d_T_isToldFace_18 (by decide) ?_
      exact zz_zret (fun S => cw z A S ++ Rr) hx hb hr hlocks hP hD hS rfl h d_T_isToldFace_22

abbrev b_T_isFull : ByteArray := prog_5_method_7_code
abbrev y_T_isFull : MethodName := ⟨"MemberChooser$Types", "isFull", "()Z"⟩
abbrev w_T_isFull : List Cond := Cond.code y_T_isFull b_T_isFull 1 (some .boolean) :: zTb
theorem d_T_isFull_0 : decode b_T_isFull 0 = .ok (.aload_n 0, 1) := by decide +kernel
theorem d_T_isFull_1 : decode b_T_isFull 1 = .ok (.getfield 30, 3) := by decide +kernel
theorem d_T_isFull_4 : decode b_T_isFull 4 = .ok (.bipush 24, 2) := by decide +kernel
theorem d_T_isFull_6 : decode b_T_isFull 6 = .ok (.if_icmp .lt 7, 3) := by decide +kernel
theorem d_T_isFull_9 : decode b_T_isFull 9 = .ok (.iconst 1, 1) := by decide +kernel
theorem d_T_isFull_10 : decode b_T_isFull 10 = .ok (.goto 4, 3) := by decide +kernel
theorem d_T_isFull_13 : decode b_T_isFull 13 = .ok (.iconst 0, 1) := by decide +kernel
theorem d_T_isFull_14 : decode b_T_isFull 14 = .ok (.ireturn, 1) := by decide +kernel
abbrev rm_T_isFull : Room := { frames := 0, cells := 0, slots := 0, locals := 0 }
def fx_T_isFull (n : Nat) (S : ZC) : Option (Int32 × ZC) :=
  (if (tTo S) < (24 : Int32) then
  some ((0 : Int32), S)
  else
  some ((1 : Int32), S))

set_option maxRecDepth 100000 in
set_option maxHeartbeats 4000000 in
theorem k_T_isFull (l : Launch) (z : zE) (A : Nat → Nat) (Rr : va_W) (n : Nat) (S : ZC) (r0 : Int32) (S' : ZC) (h : fx_T_isFull n S  = some (r0, S')) : zC z l y_T_isFull w_T_isFull rm_T_isFull [.ref (A 17)] (cw z A S ++ Rr) (some (.int r0)) (cw z A S' ++ Rr) := by
  refine zz_of (by decide) (Nat.le_of_ble_eq_true rfl) ?_
  intro p e s m args below meth c A0 ls hM hr hlocks hA hP hD hl
  have hM : zM z p s m args c b_T_isFull 1 R_T := hM
  obtain ⟨hx, hb, hml, hown, hts, hK, hN⟩ := id hM
  have hS : va_S A0 s.heap s.heap [] := va_S.rf
  have hl : lv_has ls 1 [(0, .ref (A 17))] := hl
  unfold fx_T_isFull at h
  refine lv_aload_n hx hb d_T_isFull_0 rfl (lv_at hl 0 rfl) ?_
  refine va_get (D := z.1) (ci := 1) (v := .int (tTo S)) (C := R_T) (T := F_T) (N := 6) hx hb hts i_T hown hK hP 17 rfl rfl 5 (by decide) (hts _ wq_43) (fun _ h9 => h9) rfl d_T_isFull_1 ?_
  refine lv_bipush (v := 24) hx hb d_T_isFull_4 (by decide) ?_
  refine lv_icmp_lt (tgt := 13) hx hb d_T_isFull_6 (by decide) (fun c_1 => ?_) (fun c_1 => ?_)
  · replace h := zz_t c_1 h
    refine lv_iconst (v := 0) hx hb d_T_isFull_13 (by decide) ?_
    exact zz_zret (fun S => cw z A S ++ Rr) hx hb hr hlocks hP hD hS rfl h d_T_isFull_14
  · replace h := zz_f c_1 h
    refine lv_iconst (v := 1) hx hb d_T_isFull_9 (by decide) ?_
    refine lv_goto (tgt := 14) hx hb d_T_isFull_10 (by decide) ?_
    exact zz_zret (fun S => cw z A S ++ Rr) hx hb hr hlocks hP hD hS rfl h d_T_isFull_14

abbrev b_T_add : ByteArray := prog_5_method_8_code
abbrev y_T_add : MethodName := ⟨"MemberChooser$Types", "add", "(ZI)I"⟩
abbrev w_T_add : List Cond := Cond.code y_T_add b_T_add 4 (some .int) :: zTb
theorem d_T_add_0 : decode b_T_add 0 = .ok (.bipush 8, 2) := by decide +kernel
theorem d_T_add_2 : decode b_T_add 2 = .ok (.aload_n 0, 1) := by decide +kernel
theorem d_T_add_3 : decode b_T_add 3 = .ok (.getfield 30, 3) := by decide +kernel
theorem d_T_add_6 : decode b_T_add 6 = .ok (.iadd, 1) := by decide +kernel
theorem d_T_add_7 : decode b_T_add 7 = .ok (.istore_n 3, 1) := by decide +kernel
theorem d_T_add_8 : decode b_T_add 8 = .ok (.iload_n 3, 1) := by decide +kernel
theorem d_T_add_9 : decode b_T_add 9 = .ok (.bipush 32, 2) := by decide +kernel
theorem d_T_add_11 : decode b_T_add 11 = .ok (.if_icmp .lt 5, 3) := by decide +kernel
theorem d_T_add_14 : decode b_T_add 14 = .ok (.iconst (-1), 1) := by decide +kernel
theorem d_T_add_15 : decode b_T_add 15 = .ok (.ireturn, 1) := by decide +kernel
theorem d_T_add_16 : decode b_T_add 16 = .ok (.aload_n 0, 1) := by decide +kernel
theorem d_T_add_17 : decode b_T_add 17 = .ok (.getfield 11, 3) := by decide +kernel
theorem d_T_add_20 : decode b_T_add 20 = .ok (.iload_n 3, 1) := by decide +kernel
theorem d_T_add_21 : decode b_T_add 21 = .ok (.iload_n 1, 1) := by decide +kernel
theorem d_T_add_22 : decode b_T_add 22 = .ok (.bastore, 1) := by decide +kernel
theorem d_T_add_23 : decode b_T_add 23 = .ok (.aload_n 0, 1) := by decide +kernel
theorem d_T_add_24 : decode b_T_add 24 = .ok (.getfield 15, 3) := by decide +kernel
theorem d_T_add_27 : decode b_T_add 27 = .ok (.iload_n 3, 1) := by decide +kernel
theorem d_T_add_28 : decode b_T_add 28 = .ok (.iload_n 2, 1) := by decide +kernel
theorem d_T_add_29 : decode b_T_add 29 = .ok (.iastore, 1) := by decide +kernel
theorem d_T_add_30 : decode b_T_add 30 = .ok (.aload_n 0, 1) := by decide +kernel
theorem d_T_add_31 : decode b_T_add 31 = .ok (.getfield 27, 3) := by decide +kernel
theorem d_T_add_34 : decode b_T_add 34 = .ok (.iload_n 3, 1) := by decide +kernel
theorem d_T_add_35 : decode b_T_add 35 = .ok (.iload_n 3, 1) := by decide +kernel
theorem d_T_add_36 : decode b_T_add 36 = .ok (.invokestatic 38, 3) := by decide +kernel
theorem d_T_add_39 : decode b_T_add 39 = .ok (.bipush 7, 2) := by decide +kernel
theorem d_T_add_41 : decode b_T_add 41 = .ok (.invokestatic 38, 3) := by decide +kernel
theorem d_T_add_44 : decode b_T_add 44 = .ok (.ior, 1) := by decide +kernel
theorem d_T_add_45 : decode b_T_add 45 = .ok (.iastore, 1) := by decide +kernel
theorem d_T_add_46 : decode b_T_add 46 = .ok (.aload_n 0, 1) := by decide +kernel
theorem d_T_add_47 : decode b_T_add 47 = .ok (.iload_n 2, 1) := by decide +kernel
theorem d_T_add_48 : decode b_T_add 48 = .ok (.invokevirtual 45, 3) := by decide +kernel
theorem d_T_add_51 : decode b_T_add 51 = .ok (.ifCond .eq 18, 3) := by decide +kernel
theorem d_T_add_54 : decode b_T_add 54 = .ok (.aload_n 0, 1) := by decide +kernel
theorem d_T_add_55 : decode b_T_add 55 = .ok (.getfield 27, 3) := by decide +kernel
theorem d_T_add_58 : decode b_T_add 58 = .ok (.iload_n 3, 1) := by decide +kernel
theorem d_T_add_59 : decode b_T_add 59 = .ok (.dup2, 1) := by decide +kernel
theorem d_T_add_60 : decode b_T_add 60 = .ok (.iaload, 1) := by decide +kernel
theorem d_T_add_61 : decode b_T_add 61 = .ok (.aload_n 0, 1) := by decide +kernel
theorem d_T_add_62 : decode b_T_add 62 = .ok (.getfield 27, 3) := by decide +kernel
theorem d_T_add_65 : decode b_T_add 65 = .ok (.iload_n 2, 1) := by decide +kernel
theorem d_T_add_66 : decode b_T_add 66 = .ok (.iaload, 1) := by decide +kernel
theorem d_T_add_67 : decode b_T_add 67 = .ok (.ior, 1) := by decide +kernel
theorem d_T_add_68 : decode b_T_add 68 = .ok (.iastore, 1) := by decide +kernel
theorem d_T_add_69 : decode b_T_add 69 = .ok (.aload_n 0, 1) := by decide +kernel
theorem d_T_add_70 : decode b_T_add 70 = .ok (.dup, 1) := by decide +kernel
theorem d_T_add_71 : decode b_T_add 71 = .ok (.getfield 30, 3) := by decide +kernel
theorem d_T_add_74 : decode b_T_add 74 = .ok (.iconst 1, 1) := by decide +kernel
theorem d_T_add_75 : decode b_T_add 75 = .ok (.iadd, 1) := by decide +kernel
theorem d_T_add_76 : decode b_T_add 76 = .ok (.putfield 30, 3) := by decide +kernel
theorem d_T_add_79 : decode b_T_add 79 = .ok (.iload_n 3, 1) := by decide +kernel
theorem d_T_add_80 : decode b_T_add 80 = .ok (.ireturn, 1) := by decide +kernel
abbrev rm_T_add : Room := { frames := 2, cells := 0, slots := 0, locals := 42 }
def fx_T_add (n : Nat) (S : ZC) (a1 : Int32) (a2 : Int32) : Option (Int32 × ZC) :=
  (if ((8 : Int32) + (tTo S)) < (32 : Int32) then
  (if zoob ((8 : Int32) + (tTo S)) 32 then none else
    zlet (tFm' S (upd (tFm S) ((8 : Int32) + (tTo S)).toNatClampNeg (vp_nar .boolean a1))) (fun S_3 =>
    (if zoob ((8 : Int32) + (tTo S)) 32 then none else
    zlet (tCa' S_3 (upd (tCa S_3) ((8 : Int32) + (tTo S)).toNatClampNeg a2)) (fun S_5 =>
    zbind1 (fx_T_bit n ((8 : Int32) + (tTo S))) (fun r_6 =>
    zbind1 (fx_T_bit n (7 : Int32)) (fun r_7 =>
    (if zoob ((8 : Int32) + (tTo S)) 32 then none else
    zlet (tUp' S_5 (upd (tUp S_5) ((8 : Int32) + (tTo S)).toNatClampNeg (r_6 ||| r_7))) (fun S_9 =>
    zbind (fx_T_isTold n S_9 a2) (fun r_10 S_10 =>
    (if r_10 = 0 then
    zlet (tTo' S_10 ((tTo S_10) + (1 : Int32))) (fun S_12 =>
      some (((8 : Int32) + (tTo S)), S_12))
    else
    (if zoob ((8 : Int32) + (tTo S)) 32 then none else
      (if zoob a2 32 then none else
      (if zoob ((8 : Int32) + (tTo S)) 32 then none else
      zlet (tUp' S_10 (upd (tUp S_10) ((8 : Int32) + (tTo S)).toNatClampNeg (((tUp S_10) ((8 : Int32) + (tTo S)).toNatClampNeg) ||| ((tUp S_10) a2.toNatClampNeg)))) (fun S_16 =>
      zlet (tTo' S_16 ((tTo S_16) + (1 : Int32))) (fun S_17 =>
      some (((8 : Int32) + (tTo S)), S_17))))))))))))))))
  else
  some ((-1 : Int32), S))

set_option maxRecDepth 100000 in
set_option maxHeartbeats 4000000 in
theorem k_T_add (l : Launch) (z : zE) (A : Nat → Nat) (Rr : va_W) (n : Nat) (S : ZC) (a1 : Int32) (a2 : Int32) (r0 : Int32) (S' : ZC) (h : fx_T_add n S a1 a2 = some (r0, S')) : zC z l y_T_add w_T_add rm_T_add [.ref (A 17), .int a1, .int a2] (cw z A S ++ Rr) (some (.int r0)) (cw z A S' ++ Rr) := by
  refine zz_of (by decide) (Nat.le_of_ble_eq_true rfl) ?_
  intro p e s m args below meth c A0 ls hM hr hlocks hA hP hD hl
  have hM : zM z p s m args c b_T_add 4 R_T := hM
  obtain ⟨hx, hb, hml, hown, hts, hK, hN⟩ := id hM
  have hS : va_S A0 s.heap s.heap [] := va_S.rf
  have hl : lv_has ls 4 [(0, .ref (A 17)), (1, .int a1), (2, .int a2)] := hl
  unfold fx_T_add at h
  refine lv_bipush (v := 8) hx hb d_T_add_0 (by decide) ?_
  refine lv_aload_n hx hb d_T_add_2 rfl (lv_at hl 0 rfl) ?_
  refine va_get (D := z.1) (ci := 1) (v := .int (tTo S)) (C := R_T) (T := F_T) (N := 6) hx hb hts i_T hown hK hP 17 rfl rfl 5 (by decide) (hts _ wq_43) (fun _ h9 => h9) rfl d_T_add_3 ?_
  refine lv_iadd hx hb d_T_add_6 ?_
  refine lv_istore_n (lv' := [(3, .int ((8 : Int32) + (tTo S))), (0, .ref (A 17)), (1, .int a1), (2, .int a2)]) hx hb d_T_add_7 rfl hl (by decide) rfl (fun ls hl => ?_)
  refine lv_iload_n hx hb d_T_add_8 rfl (lv_at hl 0 rfl) ?_
  refine lv_bipush (v := 32) hx hb d_T_add_9 (by decide) ?_
  refine lv_icmp_lt (tgt := 16) hx hb d_T_add_11 (by decide) (fun c_1 => ?_) (fun c_1 => ?_)
  · replace h := zz_t c_1 h
    refine lv_aload_n hx hb d_T_add_16 rfl (lv_at hl 1 rfl) ?_
    refine va_get (D := z.1) (ci := 1) (v := .ref (A 18)) (C := R_T) (T := F_T) (N := 6) hx hb hts i_T hown hK hP 17 rfl rfl 0 (by decide) (hts _ wq_38) (fun _ h9 => h9) rfl d_T_add_17 ?_
    refine lv_iload_n hx hb d_T_add_20 rfl (lv_at hl 0 rfl) ?_
    refine lv_iload_n hx hb d_T_add_21 rfl (lv_at hl 2 rfl) ?_
    obtain ⟨c_2, h⟩ := zz_oob h
    obtain ⟨S_3, e_3, h⟩ := zz_let h
    refine va_zast hx hb hK hP hD hS 18 1 rfl rfl c_2 d_T_add_22 (fun H locs hP hD hS => ?_)
    have hP : va_P z.1 vwCl (cw z A S_3 ++ Rr) H := by rw [e_3]; exact hP
    have hD : va_D A0 (cw z A S_3 ++ Rr) := by rw [e_3]; exact hD
    refine lv_aload_n hx hb d_T_add_23 rfl (lv_at hl 1 rfl) ?_
    refine va_get (D := z.1) (ci := 1) (v := .ref (A 19)) (C := R_T) (T := F_T) (N := 6) hx hb hts i_T hown hK hP 17 rfl rfl 1 (by decide) (hts _ wq_39) (fun _ h9 => h9) rfl d_T_add_24 ?_
    refine lv_iload_n hx hb d_T_add_27 rfl (lv_at hl 0 rfl) ?_
    refine lv_iload_n hx hb d_T_add_28 rfl (lv_at hl 3 rfl) ?_
    obtain ⟨c_4, h⟩ := zz_oob h
    obtain ⟨S_5, e_5, h⟩ := zz_let h
    refine va_iast hx hb hK hP hD hS 19 0 rfl rfl c_4 d_T_add_29 (fun H locs hP hD hS => ?_)
    have hP : va_P z.1 vwCl (cw z A S_5 ++ Rr) H := by rw [e_5]; exact hP
    have hD : va_D A0 (cw z A S_5 ++ Rr) := by rw [e_5]; exact hD
    refine lv_aload_n hx hb d_T_add_30 rfl (lv_at hl 1 rfl) ?_
    refine va_get (D := z.1) (ci := 1) (v := .ref (A 22)) (C := R_T) (T := F_T) (N := 6) hx hb hts i_T hown hK hP 17 rfl rfl 4 (by decide) (hts _ wq_42) (fun _ h9 => h9) rfl d_T_add_31 ?_
    refine lv_iload_n hx hb d_T_add_34 rfl (lv_at hl 0 rfl) ?_
    refine lv_iload_n hx hb d_T_add_35 rfl (lv_at hl 0 rfl) ?_
    obtain ⟨r_6, e_6, h⟩ := zz_bind1 h
    refine zz_goI (zz_runS (As := [.int ((8 : Int32) + (tTo S))]) (rest := [.int ((8 : Int32) + (tTo S)), .ref (A 22)]) (k_T_bit l z _ n _ _ e_6) ⟨hx, hb, hml, hown, hts⟩ (va_cwS 1 hts (zz_gS wq_35 wq_36 wq_2 wq_37) rfl rfl rfl (by decide +kernel) ⟨Nat.le_of_ble_eq_true rfl, Nat.le_of_ble_eq_true rfl⟩) hK hN hP hD rfl hl.1 rfl (Nat.le_of_ble_eq_true rfl) d_T_add_36 ⟨Nat.le_of_ble_eq_true rfl, Nat.le_of_ble_eq_true rfl⟩) hD hS hA (fun H locs hP hD hS => ?_)
    refine lv_bipush (v := 7) hx hb d_T_add_39 (by decide) ?_
    obtain ⟨r_7, e_7, h⟩ := zz_bind1 h
    refine zz_goI (zz_runS (As := [.int (7 : Int32)]) (rest := [.int r_6, .int ((8 : Int32) + (tTo S)), .ref (A 22)]) (k_T_bit l z _ n _ _ e_7) ⟨hx, hb, hml, hown, hts⟩ (va_cwS 1 hts (zz_gS wq_35 wq_36 wq_2 wq_37) rfl rfl rfl (by decide +kernel) ⟨Nat.le_of_ble_eq_true rfl, Nat.le_of_ble_eq_true rfl⟩) hK hN hP hD rfl hl.1 rfl (Nat.le_of_ble_eq_true rfl) d_T_add_41 ⟨Nat.le_of_ble_eq_true rfl, Nat.le_of_ble_eq_true rfl⟩) hD hS hA (fun H locs hP hD hS => ?_)
    refine lv_ior hx hb d_T_add_44 ?_
    obtain ⟨c_8, h⟩ := zz_oob h
    obtain ⟨S_9, e_9, h⟩ := zz_let h
    refine va_iast hx hb hK hP hD hS 22 0 rfl rfl c_8 d_T_add_45 (fun H locs hP hD hS => ?_)
    have hP : va_P z.1 vwCl (cw z A S_9 ++ Rr) H := by rw [e_9]; exact hP
    have hD : va_D A0 (cw z A S_9 ++ Rr) := by rw [e_9]; exact hD
    refine lv_aload_n hx hb d_T_add_46 rfl (lv_at hl 1 rfl) ?_
    refine lv_iload_n hx hb d_T_add_47 rfl (lv_at hl 3 rfl) ?_
    obtain ⟨r_10, S_10, e_10, h⟩ := zz_bind h
    refine zz_goI (zz_runV (As := [.int a2]) (rest := []) (k_T_isTold l z A Rr n _ _ _ _ e_10) ⟨hx, hb, hml, hown, hts⟩ (cwV 1 hts (zz_gV wq_176 wq_177 wq_178 wq_2 wq_179) rfl rfl rfl (by decide +kernel) ⟨Nat.le_of_ble_eq_true rfl, Nat.le_of_ble_eq_true rfl⟩) hK hN hP hD (va_recv hK hP (ci := 1) (q0 := 17) rfl rfl) rfl hl.1 rfl (Nat.le_of_ble_eq_true rfl) d_T_add_48 ⟨Nat.le_of_ble_eq_true rfl, Nat.le_of_ble_eq_true rfl⟩) hD hS hA (fun H locs hP hD hS => ?_)
    refine lv_if_eq (tgt := 69) hx hb d_T_add_51 (by decide) (fun c_11 => ?_) (fun c_11 => ?_)
    · replace h := zz_t c_11 h
      refine lv_aload_n hx hb d_T_add_69 rfl (lv_at hl 1 rfl) ?_
      refine lv_dup hx hb d_T_add_70 rfl ?_
      refine va_get (D := z.1) (ci := 1) (v := .int (tTo S_10)) (C := R_T) (T := F_T) (N := 6) hx hb hts i_T hown hK hP 17 rfl rfl 5 (by decide) (hts _ wq_43) (fun _ h9 => h9) rfl d_T_add_71 ?_
      refine lv_iconst (v := 1) hx hb d_T_add_74 (by decide) ?_
      refine lv_iadd hx hb d_T_add_75 ?_
      obtain ⟨S_12, e_12, h⟩ := zz_let h
      refine va_put (D := z.1) (ci := 1) (v := .int ((tTo S_10) + (1 : Int32))) (ty := .int) (C := R_T) (T := F_T) (N := 6) hx hb hts i_T ty_T ty_T_ok n_T hown hK hP hD hS 17 rfl rfl 5 (by decide) (hts _ wq_43) (fun _ h9 => h9) rfl (by decide +kernel) rfl rfl (Nat.le_of_ble_eq_true rfl) d_T_add_76 (fun H locs hP hD hS => ?_)
      have hP : va_P z.1 vwCl (cw z A S_12 ++ Rr) H := by rw [e_12]; exact hP
      have hD : va_D A0 (cw z A S_12 ++ Rr) := by rw [e_12]; exact hD
      refine lv_iload_n hx hb d_T_add_79 rfl (lv_at hl 0 rfl) ?_
      exact zz_iret (fun S => cw z A S ++ Rr) hx hb hr hlocks hP hD hS h d_T_add_80
    · replace h := zz_f c_11 h
      refine lv_aload_n hx hb d_T_add_54 rfl (lv_at hl 1 rfl) ?_
      refine va_get (D := z.1) (ci := 1) (v := .ref (A 22)) (C := R_T) (T := F_T) (N := 6) hx hb hts i_T hown hK hP 17 rfl rfl 4 (by decide) (hts _ wq_42) (fun _ h9 => h9) rfl d_T_add_55 ?_
      refine lv_iload_n hx hb d_T_add_58 rfl (lv_at hl 0 rfl) ?_
      refine lv_dup2_11 hx hb d_T_add_59 rfl rfl ?_
      obtain ⟨c_13, h⟩ := zz_oob h
      refine va_iald hx hb hK hP 22 0 rfl rfl c_13 d_T_add_60 ?_
      refine lv_aload_n hx hb d_T_add_61 rfl (lv_at hl 1 rfl) ?_
      refine va_get (D := z.1) (ci := 1) (v := .ref (A 22)) (C := R_T) (T := F_T) (N := 6) hx hb hts i_T hown hK hP 17 rfl rfl 4 (by decide) (hts _ wq_42) (fun _ h9 => h9) rfl d_T_add_62 ?_
      refine lv_iload_n hx hb d_T_add_65 rfl (lv_at hl 3 rfl) ?_
      obtain ⟨c_14, h⟩ := zz_oob h
      refine va_iald hx hb hK hP 22 0 rfl rfl c_14 d_T_add_66 ?_
      refine lv_ior hx hb d_T_add_67 ?_
      obtain ⟨c_15, h⟩ := zz_oob h
      obtain ⟨S_16, e_16, h⟩ := zz_let h
      refine va_iast hx hb hK hP hD hS 22 0 rfl rfl c_15 d_T_add_68 (fun H locs hP hD hS => ?_)
      have hP : va_P z.1 vwCl (cw z A S_16 ++ Rr) H := by rw [e_16]; exact hP
      have hD : va_D A0 (cw z A S_16 ++ Rr) := by rw [e_16]; exact hD
      refine lv_aload_n hx hb d_T_add_69 rfl (lv_at hl 1 rfl) ?_
      refine lv_dup hx hb d_T_add_70 rfl ?_
      refine va_get (D := z.1) (ci := 1) (v := .int (tTo S_16)) (C := R_T) (T := F_T) (N := 6) hx hb hts i_T hown hK hP 17 rfl rfl 5 (by decide) (hts _ wq_43) (fun _ h9 => h9) rfl d_T_add_71 ?_
      refine lv_iconst (v := 1) hx hb d_T_add_74 (by decide) ?_
      refine lv_iadd hx hb d_T_add_75 ?_
      obtain ⟨S_17, e_17, h⟩ := zz_let h
      refine va_put (D := z.1) (ci := 1) (v := .int ((tTo S_16) + (1 : Int32))) (ty := .int) (C := R_T) (T := F_T) (N := 6) hx hb hts i_T ty_T ty_T_ok n_T hown hK hP hD hS 17 rfl rfl 5 (by decide) (hts _ wq_43) (fun _ h9 => h9) rfl (by decide +kernel) rfl rfl (Nat.le_of_ble_eq_true rfl) d_T_add_76 (fun H locs hP hD hS => ?_)
      have hP : va_P z.1 vwCl (cw z A S_17 ++ Rr) H := by rw [e_17]; exact hP
      have hD : va_D A0 (cw z A S_17 ++ Rr) := by rw [e_17]; exact hD
      refine lv_iload_n hx hb d_T_add_79 rfl (lv_at hl 0 rfl) ?_
      exact zz_iret (fun S => cw z A S ++ Rr) hx hb hr hlocks hP hD hS h d_T_add_80
  · replace h := zz_f c_1 h
    refine lv_iconst (v := -1) hx hb d_T_add_14 (by decide) ?_
    exact zz_iret (fun S => cw z A S ++ Rr) hx hb hr hlocks hP hD hS h d_T_add_15

abbrev b_T_isSubtype : ByteArray := prog_5_method_9_code
abbrev y_T_isSubtype : MethodName := ⟨"MemberChooser$Types", "isSubtype", "(II)Z"⟩
abbrev w_T_isSubtype : List Cond := Cond.code y_T_isSubtype b_T_isSubtype 3 (some .boolean) :: zTb
theorem d_T_isSubtype_0 : decode b_T_isSubtype 0 = .ok (.aload_n 0, 1) := by decide +kernel
theorem d_T_isSubtype_1 : decode b_T_isSubtype 1 = .ok (.iload_n 1, 1) := by decide +kernel
theorem d_T_isSubtype_2 : decode b_T_isSubtype 2 = .ok (.invokevirtual 42, 3) := by decide +kernel
theorem d_T_isSubtype_5 : decode b_T_isSubtype 5 = .ok (.ifCond .eq 29, 3) := by decide +kernel
theorem d_T_isSubtype_8 : decode b_T_isSubtype 8 = .ok (.aload_n 0, 1) := by decide +kernel
theorem d_T_isSubtype_9 : decode b_T_isSubtype 9 = .ok (.iload_n 2, 1) := by decide +kernel
theorem d_T_isSubtype_10 : decode b_T_isSubtype 10 = .ok (.invokevirtual 42, 3) := by decide +kernel
theorem d_T_isSubtype_13 : decode b_T_isSubtype 13 = .ok (.ifCond .eq 21, 3) := by decide +kernel
theorem d_T_isSubtype_16 : decode b_T_isSubtype 16 = .ok (.aload_n 0, 1) := by decide +kernel
theorem d_T_isSubtype_17 : decode b_T_isSubtype 17 = .ok (.getfield 27, 3) := by decide +kernel
theorem d_T_isSubtype_20 : decode b_T_isSubtype 20 = .ok (.iload_n 1, 1) := by decide +kernel
theorem d_T_isSubtype_21 : decode b_T_isSubtype 21 = .ok (.iaload, 1) := by decide +kernel
theorem d_T_isSubtype_22 : decode b_T_isSubtype 22 = .ok (.iload_n 2, 1) := by decide +kernel
theorem d_T_isSubtype_23 : decode b_T_isSubtype 23 = .ok (.invokestatic 38, 3) := by decide +kernel
theorem d_T_isSubtype_26 : decode b_T_isSubtype 26 = .ok (.iand, 1) := by decide +kernel
theorem d_T_isSubtype_27 : decode b_T_isSubtype 27 = .ok (.ifCond .eq 7, 3) := by decide +kernel
theorem d_T_isSubtype_30 : decode b_T_isSubtype 30 = .ok (.iconst 1, 1) := by decide +kernel
theorem d_T_isSubtype_31 : decode b_T_isSubtype 31 = .ok (.goto 4, 3) := by decide +kernel
theorem d_T_isSubtype_34 : decode b_T_isSubtype 34 = .ok (.iconst 0, 1) := by decide +kernel
theorem d_T_isSubtype_35 : decode b_T_isSubtype 35 = .ok (.ireturn, 1) := by decide +kernel
abbrev rm_T_isSubtype : Room := { frames := 1, cells := 0, slots := 0, locals := 21 }
def fx_T_isSubtype (n : Nat) (S : ZC) (a1 : Int32) (a2 : Int32) : Option (Int32 × ZC) :=
  zbind (fx_T_exists n S a1) (fun r_1 S_1 =>
  (if r_1 = 0 then
  some ((0 : Int32), S_1)
  else
  zbind (fx_T_exists n S_1 a2) (fun r_3 S_3 =>
    (if r_3 = 0 then
    some ((0 : Int32), S_3)
    else
    (if zoob a1 32 then none else
      zbind1 (fx_T_bit n a2) (fun r_6 =>
      (if (((tUp S_3) a1.toNatClampNeg) &&& r_6) = 0 then
      some ((0 : Int32), S_3)
      else
      some ((1 : Int32), S_3))))))))

set_option maxRecDepth 100000 in
set_option maxHeartbeats 4000000 in
theorem k_T_isSubtype (l : Launch) (z : zE) (A : Nat → Nat) (Rr : va_W) (n : Nat) (S : ZC) (a1 : Int32) (a2 : Int32) (r0 : Int32) (S' : ZC) (h : fx_T_isSubtype n S a1 a2 = some (r0, S')) : zC z l y_T_isSubtype w_T_isSubtype rm_T_isSubtype [.ref (A 17), .int a1, .int a2] (cw z A S ++ Rr) (some (.int r0)) (cw z A S' ++ Rr) := by
  refine zz_of (by decide) (Nat.le_of_ble_eq_true rfl) ?_
  intro p e s m args below meth c A0 ls hM hr hlocks hA hP hD hl
  have hM : zM z p s m args c b_T_isSubtype 3 R_T := hM
  obtain ⟨hx, hb, hml, hown, hts, hK, hN⟩ := id hM
  have hS : va_S A0 s.heap s.heap [] := va_S.rf
  have hl : lv_has ls 3 [(0, .ref (A 17)), (1, .int a1), (2, .int a2)] := hl
  unfold fx_T_isSubtype at h
  refine lv_aload_n hx hb d_T_isSubtype_0 rfl (lv_at hl 0 rfl) ?_
  refine lv_iload_n hx hb d_T_isSubtype_1 rfl (lv_at hl 1 rfl) ?_
  obtain ⟨r_1, S_1, e_1, h⟩ := zz_bind h
  refine zz_goI (zz_runV (As := [.int a1]) (rest := []) (k_T_exists l z A Rr n _ _ _ _ e_1) ⟨hx, hb, hml, hown, hts⟩ (cwV 1 hts (zz_gV wq_180 wq_181 wq_182 wq_2 wq_183) rfl rfl rfl (by decide +kernel) ⟨Nat.le_of_ble_eq_true rfl, Nat.le_of_ble_eq_true rfl⟩) hK hN hP hD (va_recv hK hP (ci := 1) (q0 := 17) rfl rfl) rfl hl.1 rfl (Nat.le_of_ble_eq_true rfl) d_T_isSubtype_2 ⟨Nat.le_of_ble_eq_true rfl, Nat.le_of_ble_eq_true rfl⟩) hD hS hA (fun H locs hP hD hS => ?_)
  refine lv_if_eq (tgt := 34) hx hb d_T_isSubtype_5 (by decide) (fun c_2 => ?_) (fun c_2 => ?_)
  · replace h := zz_t c_2 h
    refine lv_iconst (v := 0) hx hb d_T_isSubtype_34 (by decide) ?_
    exact zz_zret (fun S => cw z A S ++ Rr) hx hb hr hlocks hP hD hS rfl h d_T_isSubtype_35
  · replace h := zz_f c_2 h
    refine lv_aload_n hx hb d_T_isSubtype_8 rfl (lv_at hl 0 rfl) ?_
    refine lv_iload_n hx hb d_T_isSubtype_9 rfl (lv_at hl 2 rfl) ?_
    obtain ⟨r_3, S_3, e_3, h⟩ := zz_bind h
    refine zz_goI (zz_runV (As := [.int a2]) (rest := []) (k_T_exists l z A Rr n _ _ _ _ e_3) ⟨hx, hb, hml, hown, hts⟩ (cwV 1 hts (zz_gV wq_180 wq_181 wq_182 wq_2 wq_183) rfl rfl rfl (by decide +kernel) ⟨Nat.le_of_ble_eq_true rfl, Nat.le_of_ble_eq_true rfl⟩) hK hN hP hD (va_recv hK hP (ci := 1) (q0 := 17) rfl rfl) rfl hl.1 rfl (Nat.le_of_ble_eq_true rfl) d_T_isSubtype_10 ⟨Nat.le_of_ble_eq_true rfl, Nat.le_of_ble_eq_true rfl⟩) hD hS hA (fun H locs hP hD hS => ?_)
    refine lv_if_eq (tgt := 34) hx hb d_T_isSubtype_13 (by decide) (fun c_4 => ?_) (fun c_4 => ?_)
    · replace h := zz_t c_4 h
      refine lv_iconst (v := 0) hx hb d_T_isSubtype_34 (by decide) ?_
      exact zz_zret (fun S => cw z A S ++ Rr) hx hb hr hlocks hP hD hS rfl h d_T_isSubtype_35
    · replace h := zz_f c_4 h
      refine lv_aload_n hx hb d_T_isSubtype_16 rfl (lv_at hl 0 rfl) ?_
      refine va_get (D := z.1) (ci := 1) (v := .ref (A 22)) (C := R_T) (T := F_T) (N := 6) hx hb hts i_T hown hK hP 17 rfl rfl 4 (by decide) (hts _ wq_42) (fun _ h9 => h9) rfl d_T_isSubtype_17 ?_
      refine lv_iload_n hx hb d_T_isSubtype_20 rfl (lv_at hl 1 rfl) ?_
      obtain ⟨c_5, h⟩ := zz_oob h
      refine va_iald hx hb hK hP 22 0 rfl rfl c_5 d_T_isSubtype_21 ?_
      refine lv_iload_n hx hb d_T_isSubtype_22 rfl (lv_at hl 2 rfl) ?_
      obtain ⟨r_6, e_6, h⟩ := zz_bind1 h
      refine zz_goI (zz_runS (As := [.int a2]) (rest := [.int ((tUp S_3) a1.toNatClampNeg)]) (k_T_bit l z _ n _ _ e_6) ⟨hx, hb, hml, hown, hts⟩ (va_cwS 1 hts (zz_gS wq_35 wq_36 wq_2 wq_37) rfl rfl rfl (by decide +kernel) ⟨Nat.le_of_ble_eq_true rfl, Nat.le_of_ble_eq_true rfl⟩) hK hN hP hD rfl hl.1 rfl (Nat.le_of_ble_eq_true rfl) d_T_isSubtype_23 ⟨Nat.le_of_ble_eq_true rfl, Nat.le_of_ble_eq_true rfl⟩) hD hS hA (fun H locs hP hD hS => ?_)
      refine lv_iand hx hb d_T_isSubtype_26 ?_
      refine lv_if_eq (tgt := 34) hx hb d_T_isSubtype_27 (by decide) (fun c_7 => ?_) (fun c_7 => ?_)
      · replace h := zz_t c_7 h
        refine lv_iconst (v := 0) hx hb d_T_isSubtype_34 (by decide) ?_
        exact zz_zret (fun S => cw z A S ++ Rr) hx hb hr hlocks hP hD hS rfl h d_T_isSubtype_35
      · replace h := zz_f c_7 h
        refine lv_iconst (v := 1) hx hb d_T_isSubtype_30 (by decide) ?_
        refine lv_goto (tgt := 35) hx hb d_T_isSubtype_31 (by decide) ?_
        exact zz_zret (fun S => cw z A S ++ Rr) hx hb hr hlocks hP hD hS rfl h d_T_isSubtype_35

