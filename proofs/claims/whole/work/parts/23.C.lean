abbrev b_X_isValue : ByteArray := prog_1_method_14_code
abbrev y_X_isValue : MethodName := ⟨"MemberChooser", "isValue", "(I)Z"⟩
abbrev w_X_isValue : List Cond := Cond.code y_X_isValue b_X_isValue 2 (some .boolean) :: zTb
theorem d_X_isValue_0 : decode b_X_isValue 0 = .ok (.iload_n 1, 1) := by decide +kernel
theorem d_X_isValue_1 : decode b_X_isValue 1 = .ok (.sipush 255, 3) := by decide +kernel
theorem d_X_isValue_4 : decode b_X_isValue 4 = .ok (.if_icmp .eq 21, 3) := by decide +kernel
theorem d_X_isValue_7 : decode b_X_isValue 7 = .ok (.aload_n 0, 1) := by decide +kernel
theorem d_X_isValue_8 : decode b_X_isValue 8 = .ok (.getfield 10, 3) := by decide +kernel
theorem d_X_isValue_11 : decode b_X_isValue 11 = .ok (.iload_n 1, 1) := by decide +kernel
theorem d_X_isValue_12 : decode b_X_isValue 12 = .ok (.invokevirtual 164, 3) := by decide +kernel
theorem d_X_isValue_15 : decode b_X_isValue 15 = .ok (.ifCond .eq 14, 3) := by decide +kernel
theorem d_X_isValue_18 : decode b_X_isValue 18 = .ok (.iload_n 1, 1) := by decide +kernel
theorem d_X_isValue_19 : decode b_X_isValue 19 = .ok (.invokestatic 170, 3) := by decide +kernel
theorem d_X_isValue_22 : decode b_X_isValue 22 = .ok (.ifCond .ne 7, 3) := by decide +kernel
theorem d_X_isValue_25 : decode b_X_isValue 25 = .ok (.iconst 1, 1) := by decide +kernel
theorem d_X_isValue_26 : decode b_X_isValue 26 = .ok (.goto 4, 3) := by decide +kernel
theorem d_X_isValue_29 : decode b_X_isValue 29 = .ok (.iconst 0, 1) := by decide +kernel
theorem d_X_isValue_30 : decode b_X_isValue 30 = .ok (.ireturn, 1) := by decide +kernel
abbrev rm_X_isValue : Room := { frames := 1, cells := 0, slots := 0, locals := 21 }
def fx_X_isValue (n : Nat) (S : ZC) (a1 : Int32) : Option (Int32 × ZC) :=
  (if a1 = (255 : Int32) then
  some ((1 : Int32), S)
  else
  zbind (fx_T_exists n S a1) (fun r_2 S_2 =>
    (if r_2 = 0 then
    some ((0 : Int32), S_2)
    else
    zbind1 (fx_T_isPrimitive n a1) (fun r_4 =>
      (if r_4 = 0 then
      some ((1 : Int32), S_2)
      else
      some ((0 : Int32), S_2))))))

set_option maxRecDepth 100000 in
set_option maxHeartbeats 4000000 in
theorem k_X_isValue (l : Launch) (z : zE) (A : Nat → Nat) (Rr : va_W) (n : Nat) (S : ZC) (a1 : Int32) (r0 : Int32) (S' : ZC) (h : fx_X_isValue n S a1 = some (r0, S')) : zC z l y_X_isValue w_X_isValue rm_X_isValue [.ref (A 0), .int a1] (cw z A S ++ Rr) (some (.int r0)) (cw z A S' ++ Rr) := by
  refine zz_of (by decide) (Nat.le_of_ble_eq_true rfl) ?_
  intro p e s m args below meth c A0 ls hM hr hlocks hA hP hD hl
  have hM : zM z p s m args c b_X_isValue 2 R_X := hM
  obtain ⟨hx, hb, hml, hown, hts, hK, hN⟩ := id hM
  have hS : va_S A0 s.heap s.heap [] := va_S.rf
  have hl : lv_has ls 2 [(0, .ref (A 0)), (1, .int a1)] := hl
  unfold fx_X_isValue at h
  refine lv_iload_n hx hb d_X_isValue_0 rfl (lv_at hl 1 rfl) ?_
  refine lv_sipush (v := 255) hx hb d_X_isValue_1 (by decide) ?_
  refine lv_icmp_eq (tgt := 25) hx hb d_X_isValue_4 (by decide) (fun c_1 => ?_) (fun c_1 => ?_)
  · replace h := zz_t c_1 h
    refine lv_iconst (v := 1) hx hb d_X_isValue_25 (by decide) ?_
    refine lv_goto (tgt := 30) hx hb d_X_isValue_26 (by decide) ?_
    exact zz_zret (fun S => cw z A S ++ Rr) hx hb hr hlocks hP hD hS rfl h d_X_isValue_30
  · replace h := zz_f c_1 h
    refine lv_aload_n hx hb d_X_isValue_7 rfl (lv_at hl 0 rfl) ?_
    refine va_get (D := z.1) (ci := 0) (v := .ref (A 17)) (C := R_X) (T := F_X) (N := 6) hx hb hts i_X hown hK hP 0 rfl rfl 0 (by decide) (hts _ wq_149) (fun _ h9 => h9) rfl d_X_isValue_8 ?_
    refine lv_iload_n hx hb d_X_isValue_11 rfl (lv_at hl 1 rfl) ?_
    obtain ⟨r_2, S_2, e_2, h⟩ := zz_bind h
    refine zz_goI (zz_runV (As := [.int a1]) (rest := []) (k_T_exists l z A Rr n _ _ _ _ e_2) ⟨hx, hb, hml, hown, hts⟩ (cwV 1 hts (zz_gV wq_407 wq_181 wq_182 wq_2 wq_183) rfl rfl rfl (by decide +kernel) ⟨Nat.le_of_ble_eq_true rfl, Nat.le_of_ble_eq_true rfl⟩) hK hN hP hD (va_recv hK hP (ci := 1) (q0 := 17) rfl rfl) rfl hl.1 rfl (Nat.le_of_ble_eq_true rfl) d_X_isValue_12 ⟨Nat.le_of_ble_eq_true rfl, Nat.le_of_ble_eq_true rfl⟩) hD hS hA (fun H locs hP hD hS => ?_)
    refine lv_if_eq (tgt := 29) hx hb d_X_isValue_15 (by decide) (fun c_3 => ?_) (fun c_3 => ?_)
    · replace h := zz_t c_3 h
      refine lv_iconst (v := 0) hx hb d_X_isValue_29 (by decide) ?_
      exact zz_zret (fun S => cw z A S ++ Rr) hx hb hr hlocks hP hD hS rfl h d_X_isValue_30
    · replace h := zz_f c_3 h
      refine lv_iload_n hx hb d_X_isValue_18 rfl (lv_at hl 1 rfl) ?_
      obtain ⟨r_4, e_4, h⟩ := zz_bind1 h
      refine zz_goI (zz_runS (As := [.int a1]) (rest := []) (k_T_isPrimitive l z _ n _ _ e_4) ⟨hx, hb, hml, hown, hts⟩ (va_cwS 1 hts (zz_gS wq_451 wq_33 wq_2 wq_34) rfl rfl rfl (by decide +kernel) ⟨Nat.le_of_ble_eq_true rfl, Nat.le_of_ble_eq_true rfl⟩) hK hN hP hD rfl hl.1 rfl (Nat.le_of_ble_eq_true rfl) d_X_isValue_19 ⟨Nat.le_of_ble_eq_true rfl, Nat.le_of_ble_eq_true rfl⟩) hD hS hA (fun H locs hP hD hS => ?_)
      refine lv_if_ne (tgt := 29) hx hb d_X_isValue_22 (by decide) (fun c_5 => ?_) (fun c_5 => ?_)
      · replace h := zz_f c_5 h
        refine lv_iconst (v := 0) hx hb d_X_isValue_29 (by decide) ?_
        exact zz_zret (fun S => cw z A S ++ Rr) hx hb hr hlocks hP hD hS rfl h d_X_isValue_30
      · replace h := zz_t c_5 h
        refine lv_iconst (v := 1) hx hb d_X_isValue_25 (by decide) ?_
        refine lv_goto (tgt := 30) hx hb d_X_isValue_26 (by decide) ?_
        exact zz_zret (fun S => cw z A S ++ Rr) hx hb hr hlocks hP hD hS rfl h d_X_isValue_30

abbrev b_X_areValues : ByteArray := prog_1_method_13_code
abbrev y_X_areValues : MethodName := ⟨"MemberChooser", "areValues", "(IJ)Z"⟩
abbrev w_X_areValues : List Cond := Cond.code y_X_areValues b_X_areValues 5 (some .boolean) :: zTb
theorem d_X_areValues_0 : decode b_X_areValues 0 = .ok (.iload_n 1, 1) := by decide +kernel
theorem d_X_areValues_1 : decode b_X_areValues 1 = .ok (.ifCond .lt 9, 3) := by decide +kernel
theorem d_X_areValues_4 : decode b_X_areValues 4 = .ok (.iload_n 1, 1) := by decide +kernel
theorem d_X_areValues_5 : decode b_X_areValues 5 = .ok (.bipush 6, 2) := by decide +kernel
theorem d_X_areValues_7 : decode b_X_areValues 7 = .ok (.if_icmp .le 5, 3) := by decide +kernel
theorem d_X_areValues_10 : decode b_X_areValues 10 = .ok (.iconst 0, 1) := by decide +kernel
theorem d_X_areValues_11 : decode b_X_areValues 11 = .ok (.ireturn, 1) := by decide +kernel
theorem d_X_areValues_12 : decode b_X_areValues 12 = .ok (.iconst 0, 1) := by decide +kernel
theorem d_X_areValues_13 : decode b_X_areValues 13 = .ok (.istore 4, 2) := by decide +kernel
theorem d_X_areValues_15 : decode b_X_areValues 15 = .ok (.iload 4, 2) := by decide +kernel
theorem d_X_areValues_17 : decode b_X_areValues 17 = .ok (.iload_n 1, 1) := by decide +kernel
theorem d_X_areValues_18 : decode b_X_areValues 18 = .ok (.if_icmp .ge 24, 3) := by decide +kernel
theorem d_X_areValues_21 : decode b_X_areValues 21 = .ok (.aload_n 0, 1) := by decide +kernel
theorem d_X_areValues_22 : decode b_X_areValues 22 = .ok (.lload_n 2, 1) := by decide +kernel
theorem d_X_areValues_23 : decode b_X_areValues 23 = .ok (.iload 4, 2) := by decide +kernel
theorem d_X_areValues_25 : decode b_X_areValues 25 = .ok (.invokestatic 160, 3) := by decide +kernel
theorem d_X_areValues_28 : decode b_X_areValues 28 = .ok (.invokevirtual 167, 3) := by decide +kernel
theorem d_X_areValues_31 : decode b_X_areValues 31 = .ok (.ifCond .ne 5, 3) := by decide +kernel
theorem d_X_areValues_34 : decode b_X_areValues 34 = .ok (.iconst 0, 1) := by decide +kernel
theorem d_X_areValues_35 : decode b_X_areValues 35 = .ok (.ireturn, 1) := by decide +kernel
theorem d_X_areValues_36 : decode b_X_areValues 36 = .ok (.iinc 4 1, 3) := by decide +kernel
theorem d_X_areValues_39 : decode b_X_areValues 39 = .ok (.goto (-24), 3) := by decide +kernel
theorem d_X_areValues_42 : decode b_X_areValues 42 = .ok (.iconst 1, 1) := by decide +kernel
theorem d_X_areValues_43 : decode b_X_areValues 43 = .ok (.ireturn, 1) := by decide +kernel
abbrev rm_X_areValues : Room := { frames := 2, cells := 0, slots := 0, locals := 42 }
def st_X_areValues_L15 (n : Nat) (v1 : Int32) (v2 : Int64) (v4 : Int32) (S : ZC) : Option ((Int32 × ZC) ⊕ (Nat × Int32 × ZC)) :=
  (if v1 ≤ v4 then
  some (.inr (42, v4, S))
  else
  zbind1 (fx_X_byteAt n v2 v4) (fun r_4 =>
    zbind (fx_X_isValue n S r_4) (fun r_5 S_5 =>
    (if r_5 = 0 then
    some (.inr (34, v4, S_5))
    else
    some (.inl ((v4 + (1 : Int32)), S_5))))))

def fx_X_areValues_L15 (n : Nat) (v1 : Int32) (v2 : Int64) (v4 : Int32) (S : ZC) : Option (Nat × Int32 × ZC) := zloop (fun (st : Int32 × ZC) => st_X_areValues_L15 n v1 v2 st.1 st.2) n (v4, S)

def fx_X_areValues (n : Nat) (S : ZC) (a1 : Int32) (a2 : Int64) : Option (Int32 × ZC) :=
  (if a1 < 0 then
  some ((0 : Int32), S)
  else
  (if a1 ≤ (6 : Int32) then
    zbL2 (fx_X_areValues_L15 n a1 a2 (0 : Int32) S) (fun x_7 v4_7 S_7 =>
      if x_7 = 34 then
      some ((0 : Int32), S_7)
      else if x_7 = 42 then
      some ((1 : Int32), S_7)
      else none)
    else
    some ((0 : Int32), S)))

set_option maxRecDepth 100000 in
set_option maxHeartbeats 4000000 in
theorem lp_X_areValues_L15 {z : zE} {A : Nat → Nat} {Rr : va_W} {p : Program} {l : Launch} {e : Env} {s : State} {m : MethodId} {args : Array Value} {below : List Frame} {meth : Method} {c : Code} {Q : State → Prop} {H0 : Heap} {A0 : Nat → Prop} (hM : zM z p s m args c b_X_areValues 5 R_X) (hA : ∀ q : Nat, H0.size ≤ q → A0 q) (n : Nat) (v1 : Int32) (v2 : Int64) :
    ∀ (v4 : Int32) (S : ZC) (r : Nat × Int32 × ZC), fx_X_areValues_L15 n v1 v2 v4 S = some r → (∀ (H : Heap) (locs : List Loc) (ls : Array Slot), va_P z.1 vwCl (cw z A r.2.2 ++ Rr) H → va_D A0 (cw z A r.2.2 ++ Rr) → va_S A0 H0 H locs → lv_has ls 5 [(0, .ref (A 0)), (1, .int v1), (2, .long v2), (4, .int r.2.1)] → W p l e rm_X_areValues s m args below meth c H locs 0 0 Q (F0 m r.1 ls [])) →
    ∀ (H : Heap) (locs : List Loc) (ls : Array Slot), va_P z.1 vwCl (cw z A S ++ Rr) H → va_D A0 (cw z A S ++ Rr) → va_S A0 H0 H locs → lv_has ls 5 [(0, .ref (A 0)), (1, .int v1), (2, .long v2), (4, .int v4)] → W p l e rm_X_areValues s m args below meth c H locs 0 0 Q (F0 m 15 ls []) := by
  obtain ⟨hx, hb, hml, hown, hts, hK, hN⟩ := id hM
  intro v4 S r h hE
  refine zz_loop (G := fun (st : Int32 × ZC) => ∀ (H : Heap) (locs : List Loc) (ls : Array Slot), va_P z.1 vwCl (cw z A st.2 ++ Rr) H → va_D A0 (cw z A st.2 ++ Rr) → va_S A0 H0 H locs → lv_has ls 5 [(0, .ref (A 0)), (1, .int v1), (2, .long v2), (4, .int st.1)] → W p l e rm_X_areValues s m args below meth c H locs 0 0 Q (F0 m 15 ls [])) (E := fun (r : Nat × Int32 × ZC) => ∀ (H : Heap) (locs : List Loc) (ls : Array Slot), va_P z.1 vwCl (cw z A r.2.2 ++ Rr) H → va_D A0 (cw z A r.2.2 ++ Rr) → va_S A0 H0 H locs → lv_has ls 5 [(0, .ref (A 0)), (1, .int v1), (2, .long v2), (4, .int r.2.1)] → W p l e rm_X_areValues s m args below meth c H locs 0 0 Q (F0 m r.1 ls [])) ?_ n (v4, S) r h hE
  clear h hE r v4 S
  rintro ⟨v4, S⟩ o h hG hE H locs ls hP hD hS hl
  have h : st_X_areValues_L15 n v1 v2 v4 S = some o := h
  have hl : lv_has ls 5 [(0, .ref (A 0)), (1, .int v1), (2, .long v2), (4, .int v4)] := hl
  have hP : va_P z.1 vwCl (cw z A S ++ Rr) H := hP
  have hD : va_D A0 (cw z A S ++ Rr) := hD
  unfold st_X_areValues_L15 at h
  refine lv_iload hx hb d_X_areValues_15 (lv_at hl 3 rfl) ?_
  refine lv_iload_n hx hb d_X_areValues_17 rfl (lv_at hl 1 rfl) ?_
  refine lv_icmp_ge (tgt := 42) hx hb d_X_areValues_18 (by decide) (fun c_3 => ?_) (fun c_3 => ?_)
  · replace h := zz_t c_3 h
    exact hE _ (Option.some.inj h).symm _ _ _ hP hD hS hl
  · replace h := zz_f c_3 h
    refine lv_aload_n hx hb d_X_areValues_21 rfl (lv_at hl 0 rfl) ?_
    refine lv_lload_n hx hb d_X_areValues_22 rfl (lv_at hl 2 rfl) ?_
    refine lv_iload hx hb d_X_areValues_23 (lv_at hl 3 rfl) ?_
    obtain ⟨r_4, e_4, h⟩ := zz_bind1 h
    refine zz_goI (zz_runS (As := [.long v2, .int v4]) (rest := [.ref (A 0)]) (k_X_byteAt l z _ n _ _ _ e_4) ⟨hx, hb, hml, hown, hts⟩ (va_cwS 2 hts (zz_gS wq_406 wq_256 wq_1 wq_257) rfl rfl rfl (by decide +kernel) ⟨Nat.le_of_ble_eq_true rfl, Nat.le_of_ble_eq_true rfl⟩) hK hN hP hD rfl hl.1 rfl (Nat.le_of_ble_eq_true rfl) d_X_areValues_25 ⟨Nat.le_of_ble_eq_true rfl, Nat.le_of_ble_eq_true rfl⟩) hD hS hA (fun H locs hP hD hS => ?_)
    obtain ⟨r_5, S_5, e_5, h⟩ := zz_bind h
    refine zz_goI (zz_runV (As := [.int r_4]) (rest := []) (k_X_isValue l z A Rr n _ _ _ _ e_5) ⟨hx, hb, hml, hown, hts⟩ (cwV 1 hts (zz_gV wq_447 wq_449 wp_9 wq_1 wq_450) rfl rfl rfl (by decide +kernel) ⟨Nat.le_of_ble_eq_true rfl, Nat.le_of_ble_eq_true rfl⟩) hK hN hP hD (va_recv hK hP (ci := 0) (q0 := 0) rfl rfl) rfl hl.1 rfl (Nat.le_of_ble_eq_true rfl) d_X_areValues_28 ⟨Nat.le_of_ble_eq_true rfl, Nat.le_of_ble_eq_true rfl⟩) hD hS hA (fun H locs hP hD hS => ?_)
    refine lv_if_ne (tgt := 36) hx hb d_X_areValues_31 (by decide) (fun c_6 => ?_) (fun c_6 => ?_)
    · replace h := zz_f c_6 h
      refine lv_iinc (v := (v4 + (1 : Int32))) (lv' := [(4, .int (v4 + (1 : Int32))), (0, .ref (A 0)), (1, .int v1), (2, .long v2)]) hx hb d_X_areValues_36 hl (k := 3) rfl rfl (by decide) rfl (fun ls hl => ?_)
      refine lv_goto (tgt := 15) hx hb d_X_areValues_39 (by decide) ?_
      exact hG _ (Option.some.inj h).symm _ _ _ hP hD hS (lv_sub hl [1, 2, 3, 0] rfl)
    · replace h := zz_t c_6 h
      exact hE _ (Option.some.inj h).symm _ _ _ hP hD hS hl

set_option maxRecDepth 100000 in
set_option maxHeartbeats 4000000 in
theorem k_X_areValues (l : Launch) (z : zE) (A : Nat → Nat) (Rr : va_W) (n : Nat) (S : ZC) (a1 : Int32) (a2 : Int64) (r0 : Int32) (S' : ZC) (h : fx_X_areValues n S a1 a2 = some (r0, S')) : zC z l y_X_areValues w_X_areValues rm_X_areValues [.ref (A 0), .int a1, .long a2] (cw z A S ++ Rr) (some (.int r0)) (cw z A S' ++ Rr) := by
  refine zz_of (by decide) (Nat.le_of_ble_eq_true rfl) ?_
  intro p e s m args below meth c A0 ls hM hr hlocks hA hP hD hl
  have hM : zM z p s m args c b_X_areValues 5 R_X := hM
  obtain ⟨hx, hb, hml, hown, hts, hK, hN⟩ := id hM
  have hS : va_S A0 s.heap s.heap [] := va_S.rf
  have hl : lv_has ls 5 [(0, .ref (A 0)), (1, .int a1), (2, .long a2)] := hl
  unfold fx_X_areValues at h
  refine lv_iload_n hx hb d_X_areValues_0 rfl (lv_at hl 1 rfl) ?_
  refine lv_if_lt (tgt := 10) hx hb d_X_areValues_1 (by decide) (fun c_1 => ?_) (fun c_1 => ?_)
  · replace h := zz_t c_1 h
    refine lv_iconst (v := 0) hx hb d_X_areValues_10 (by decide) ?_
    exact zz_zret (fun S => cw z A S ++ Rr) hx hb hr hlocks hP hD hS rfl h d_X_areValues_11
  · replace h := zz_f c_1 h
    refine lv_iload_n hx hb d_X_areValues_4 rfl (lv_at hl 1 rfl) ?_
    refine lv_bipush (v := 6) hx hb d_X_areValues_5 (by decide) ?_
    refine lv_icmp_le (tgt := 12) hx hb d_X_areValues_7 (by decide) (fun c_2 => ?_) (fun c_2 => ?_)
    · replace h := zz_t c_2 h
      refine lv_iconst (v := 0) hx hb d_X_areValues_12 (by decide) ?_
      refine lv_istore (lv' := [(4, .int (0 : Int32)), (0, .ref (A 0)), (1, .int a1), (2, .long a2)]) hx hb d_X_areValues_13 hl (by decide) rfl (fun ls hl => ?_)
      replace h := zz_bL2 h
      obtain ⟨x_7, v4_7, S_7, e_7, h⟩ := h
      refine lp_X_areValues_L15 hM hA n a1 a2 _ _ _ e_7 ?_ _ _ _ hP hD hS (lv_sub hl [1, 2, 3, 0] rfl)
      intro H locs ls hP hD hS hl
      have hl : lv_has ls 5 [(0, .ref (A 0)), (1, .int a1), (2, .long a2), (4, .int v4_7)] := hl
      have hP : va_P z.1 vwCl (cw z A S_7 ++ Rr) H := hP
      have hD : va_D A0 (cw z A S_7 ++ Rr) := hD
      by_cases c_7 : x_7 = 34
      · replace h := zz_t c_7 h
        subst c_7
        refine W.eq (g2 := F0 m 34 ls []) rfl ?_
        refine lv_iconst (v := 0) hx hb d_X_areValues_34 (by decide) ?_
        exact zz_zret (fun S => cw z A S ++ Rr) hx hb hr hlocks hP hD hS rfl h d_X_areValues_35
      replace h := zz_f c_7 h
      replace h := zz_grd h
      obtain ⟨c_7, h⟩ := h
      subst c_7
      refine W.eq (g2 := F0 m 42 ls []) rfl ?_
      refine lv_iconst (v := 1) hx hb d_X_areValues_42 (by decide) ?_
      exact zz_zret (fun S => cw z A S ++ Rr) hx hb hr hlocks hP hD hS rfl h d_X_areValues_43
    · replace h := zz_f c_2 h
      refine lv_iconst (v := 0) hx hb d_X_areValues_10 (by decide) ?_
      exact zz_zret (fun S => cw z A S ++ Rr) hx hb hr hlocks hP hD hS rfl h d_X_areValues_11

abbrev b_H_goesTo : ByteArray := prog_2_method_10_code
abbrev y_H_goesTo : MethodName := ⟨"MemberChooser$Chooser", "goesTo", "(II)Z"⟩
abbrev w_H_goesTo : List Cond := Cond.code y_H_goesTo b_H_goesTo 3 (some .boolean) :: zTb
theorem d_H_goesTo_0 : decode b_H_goesTo 0 = .ok (.iload_n 2, 1) := by decide +kernel
theorem d_H_goesTo_1 : decode b_H_goesTo 1 = .ok (.invokestatic 102, 3) := by decide +kernel
theorem d_H_goesTo_4 : decode b_H_goesTo 4 = .ok (.ifCond .eq 25, 3) := by decide +kernel
theorem d_H_goesTo_7 : decode b_H_goesTo 7 = .ok (.aload_n 0, 1) := by decide +kernel
theorem d_H_goesTo_8 : decode b_H_goesTo 8 = .ok (.getfield 40, 3) := by decide +kernel
theorem d_H_goesTo_11 : decode b_H_goesTo 11 = .ok (.iconst 1, 1) := by decide +kernel
theorem d_H_goesTo_12 : decode b_H_goesTo 12 = .ok (.if_icmp .le 15, 3) := by decide +kernel
theorem d_H_goesTo_15 : decode b_H_goesTo 15 = .ok (.iload_n 1, 1) := by decide +kernel
theorem d_H_goesTo_16 : decode b_H_goesTo 16 = .ok (.iload_n 2, 1) := by decide +kernel
theorem d_H_goesTo_17 : decode b_H_goesTo 17 = .ok (.invokestatic 105, 3) := by decide +kernel
theorem d_H_goesTo_20 : decode b_H_goesTo 20 = .ok (.ifCond .eq 7, 3) := by decide +kernel
theorem d_H_goesTo_23 : decode b_H_goesTo 23 = .ok (.iconst 1, 1) := by decide +kernel
theorem d_H_goesTo_24 : decode b_H_goesTo 24 = .ok (.goto 4, 3) := by decide +kernel
theorem d_H_goesTo_27 : decode b_H_goesTo 27 = .ok (.iconst 0, 1) := by decide +kernel
theorem d_H_goesTo_28 : decode b_H_goesTo 28 = .ok (.ireturn, 1) := by decide +kernel
theorem d_H_goesTo_29 : decode b_H_goesTo 29 = .ok (.iload_n 1, 1) := by decide +kernel
theorem d_H_goesTo_30 : decode b_H_goesTo 30 = .ok (.sipush 255, 3) := by decide +kernel
theorem d_H_goesTo_33 : decode b_H_goesTo 33 = .ok (.if_icmp .eq 15, 3) := by decide +kernel
theorem d_H_goesTo_36 : decode b_H_goesTo 36 = .ok (.aload_n 0, 1) := by decide +kernel
theorem d_H_goesTo_37 : decode b_H_goesTo 37 = .ok (.getfield 9, 3) := by decide +kernel
theorem d_H_goesTo_40 : decode b_H_goesTo 40 = .ok (.iload_n 1, 1) := by decide +kernel
theorem d_H_goesTo_41 : decode b_H_goesTo 41 = .ok (.iload_n 2, 1) := by decide +kernel
theorem d_H_goesTo_42 : decode b_H_goesTo 42 = .ok (.invokevirtual 108, 3) := by decide +kernel
theorem d_H_goesTo_45 : decode b_H_goesTo 45 = .ok (.ifCond .eq 7, 3) := by decide +kernel
theorem d_H_goesTo_48 : decode b_H_goesTo 48 = .ok (.iconst 1, 1) := by decide +kernel
theorem d_H_goesTo_49 : decode b_H_goesTo 49 = .ok (.goto 4, 3) := by decide +kernel
theorem d_H_goesTo_52 : decode b_H_goesTo 52 = .ok (.iconst 0, 1) := by decide +kernel
theorem d_H_goesTo_53 : decode b_H_goesTo 53 = .ok (.ireturn, 1) := by decide +kernel
abbrev rm_H_goesTo : Room := { frames := 2, cells := 0, slots := 0, locals := 43 }
def fx_H_goesTo (n : Nat) (S : ZC) (a1 : Int32) (a2 : Int32) : Option (Int32 × ZC) :=
  zbind1 (fx_T_isPrimitive n a2) (fun r_1 =>
  (if r_1 = 0 then
  (if a1 = (255 : Int32) then
    some ((1 : Int32), S)
    else
    zbind (fx_T_isSubtype n S a1 a2) (fun r_4 S_4 =>
      (if r_4 = 0 then
      some ((0 : Int32), S_4)
      else
      some ((1 : Int32), S_4))))
  else
  (if (hPh S) ≤ (1 : Int32) then
    some ((0 : Int32), S)
    else
    zbind1 (fx_H_unboxesTo n a1 a2) (fun r_7 =>
      (if r_7 = 0 then
      some ((0 : Int32), S)
      else
      some ((1 : Int32), S))))))

set_option maxRecDepth 100000 in
set_option maxHeartbeats 4000000 in
theorem k_H_goesTo (l : Launch) (z : zE) (A : Nat → Nat) (Rr : va_W) (n : Nat) (S : ZC) (a1 : Int32) (a2 : Int32) (r0 : Int32) (S' : ZC) (h : fx_H_goesTo n S a1 a2 = some (r0, S')) : zC z l y_H_goesTo w_H_goesTo rm_H_goesTo [.ref (A 7), .int a1, .int a2] (cw z A S ++ Rr) (some (.int r0)) (cw z A S' ++ Rr) := by
  refine zz_of (by decide) (Nat.le_of_ble_eq_true rfl) ?_
  intro p e s m args below meth c A0 ls hM hr hlocks hA hP hD hl
  have hM : zM z p s m args c b_H_goesTo 3 R_H := hM
  obtain ⟨hx, hb, hml, hown, hts, hK, hN⟩ := id hM
  have hS : va_S A0 s.heap s.heap [] := va_S.rf
  have hl : lv_has ls 3 [(0, .ref (A 7)), (1, .int a1), (2, .int a2)] := hl
  unfold fx_H_goesTo at h
  refine lv_iload_n hx hb d_H_goesTo_0 rfl (lv_at hl 2 rfl) ?_
  obtain ⟨r_1, e_1, h⟩ := zz_bind1 h
  refine zz_goI (zz_runS (As := [.int a2]) (rest := []) (k_T_isPrimitive l z _ n _ _ e_1) ⟨hx, hb, hml, hown, hts⟩ (va_cwS 1 hts (zz_gS wq_485 wq_33 wq_2 wq_34) rfl rfl rfl (by decide +kernel) ⟨Nat.le_of_ble_eq_true rfl, Nat.le_of_ble_eq_true rfl⟩) hK hN hP hD rfl hl.1 rfl (Nat.le_of_ble_eq_true rfl) d_H_goesTo_1 ⟨Nat.le_of_ble_eq_true rfl, Nat.le_of_ble_eq_true rfl⟩) hD hS hA (fun H locs hP hD hS => ?_)
  refine lv_if_eq (tgt := 29) hx hb d_H_goesTo_4 (by decide) (fun c_2 => ?_) (fun c_2 => ?_)
  · replace h := zz_t c_2 h
    refine lv_iload_n hx hb d_H_goesTo_29 rfl (lv_at hl 1 rfl) ?_
    refine lv_sipush (v := 255) hx hb d_H_goesTo_30 (by decide) ?_
    refine lv_icmp_eq (tgt := 48) hx hb d_H_goesTo_33 (by decide) (fun c_3 => ?_) (fun c_3 => ?_)
    · replace h := zz_t c_3 h
      refine lv_iconst (v := 1) hx hb d_H_goesTo_48 (by decide) ?_
      refine lv_goto (tgt := 53) hx hb d_H_goesTo_49 (by decide) ?_
      exact zz_zret (fun S => cw z A S ++ Rr) hx hb hr hlocks hP hD hS rfl h d_H_goesTo_53
    · replace h := zz_f c_3 h
      refine lv_aload_n hx hb d_H_goesTo_36 rfl (lv_at hl 0 rfl) ?_
      refine va_get (D := z.1) (ci := 3) (v := .ref (A 17)) (C := R_H) (T := F_H) (N := 8) hx hb hts i_H hown hK hP 7 rfl rfl 0 (by decide) (hts _ wq_96) (fun _ h9 => h9) rfl d_H_goesTo_37 ?_
      refine lv_iload_n hx hb d_H_goesTo_40 rfl (lv_at hl 1 rfl) ?_
      refine lv_iload_n hx hb d_H_goesTo_41 rfl (lv_at hl 2 rfl) ?_
      obtain ⟨r_4, S_4, e_4, h⟩ := zz_bind h
      refine zz_goI (zz_runV (As := [.int a1, .int a2]) (rest := []) (k_T_isSubtype l z A Rr n _ _ _ _ _ e_4) ⟨hx, hb, hml, hown, hts⟩ (cwV 2 hts (zz_gV wq_489 wq_189 wq_190 wq_2 wq_191) rfl rfl rfl (by decide +kernel) ⟨Nat.le_of_ble_eq_true rfl, Nat.le_of_ble_eq_true rfl⟩) hK hN hP hD (va_recv hK hP (ci := 1) (q0 := 17) rfl rfl) rfl hl.1 rfl (Nat.le_of_ble_eq_true rfl) d_H_goesTo_42 ⟨Nat.le_of_ble_eq_true rfl, Nat.le_of_ble_eq_true rfl⟩) hD hS hA (fun H locs hP hD hS => ?_)
      refine lv_if_eq (tgt := 52) hx hb d_H_goesTo_45 (by decide) (fun c_5 => ?_) (fun c_5 => ?_)
      · replace h := zz_t c_5 h
        refine lv_iconst (v := 0) hx hb d_H_goesTo_52 (by decide) ?_
        exact zz_zret (fun S => cw z A S ++ Rr) hx hb hr hlocks hP hD hS rfl h d_H_goesTo_53
      · replace h := zz_f c_5 h
        refine lv_iconst (v := 1) hx hb d_H_goesTo_48 (by decide) ?_
        refine lv_goto (tgt := 53) hx hb d_H_goesTo_49 (by decide) ?_
        exact zz_zret (fun S => cw z A S ++ Rr) hx hb hr hlocks hP hD hS rfl h d_H_goesTo_53
  · replace h := zz_f c_2 h
    refine lv_aload_n hx hb d_H_goesTo_7 rfl (lv_at hl 0 rfl) ?_
    refine va_get (D := z.1) (ci := 3) (v := .int (hPh S)) (C := R_H) (T := F_H) (N := 8) hx hb hts i_H hown hK hP 7 rfl rfl 7 (by decide) (hts _ wq_103) (fun _ h9 => h9) rfl d_H_goesTo_8 ?_
    refine lv_iconst (v := 1) hx hb d_H_goesTo_11 (by decide) ?_
    refine lv_icmp_le (tgt := 27) hx hb d_H_goesTo_12 (by decide) (fun c_6 => ?_) (fun c_6 => ?_)
    · replace h := zz_t c_6 h
      refine lv_iconst (v := 0) hx hb d_H_goesTo_27 (by decide) ?_
      exact zz_zret (fun S => cw z A S ++ Rr) hx hb hr hlocks hP hD hS rfl h d_H_goesTo_28
    · replace h := zz_f c_6 h
      refine lv_iload_n hx hb d_H_goesTo_15 rfl (lv_at hl 1 rfl) ?_
      refine lv_iload_n hx hb d_H_goesTo_16 rfl (lv_at hl 2 rfl) ?_
      obtain ⟨r_7, e_7, h⟩ := zz_bind1 h
      refine zz_goI (zz_runS (As := [.int a1, .int a2]) (rest := []) (k_H_unboxesTo l z _ n _ _ _ e_7) ⟨hx, hb, hml, hown, hts⟩ (va_cwS 2 hts (zz_gS wq_486 wq_487 wq_4 wq_488) rfl rfl rfl (by decide +kernel) ⟨Nat.le_of_ble_eq_true rfl, Nat.le_of_ble_eq_true rfl⟩) hK hN hP hD rfl hl.1 rfl (Nat.le_of_ble_eq_true rfl) d_H_goesTo_17 ⟨Nat.le_of_ble_eq_true rfl, Nat.le_of_ble_eq_true rfl⟩) hD hS hA (fun H locs hP hD hS => ?_)
      refine lv_if_eq (tgt := 27) hx hb d_H_goesTo_20 (by decide) (fun c_8 => ?_) (fun c_8 => ?_)
      · replace h := zz_t c_8 h
        refine lv_iconst (v := 0) hx hb d_H_goesTo_27 (by decide) ?_
        exact zz_zret (fun S => cw z A S ++ Rr) hx hb hr hlocks hP hD hS rfl h d_H_goesTo_28
      · replace h := zz_f c_8 h
        refine lv_iconst (v := 1) hx hb d_H_goesTo_23 (by decide) ?_
        refine lv_goto (tgt := 28) hx hb d_H_goesTo_24 (by decide) ?_
        exact zz_zret (fun S => cw z A S ++ Rr) hx hb hr hlocks hP hD hS rfl h d_H_goesTo_28

abbrev b_H_takesSoMany : ByteArray := prog_2_method_9_code
abbrev y_H_takesSoMany : MethodName := ⟨"MemberChooser$Chooser", "takesSoMany", "(II)Z"⟩
abbrev w_H_takesSoMany : List Cond := Cond.code y_H_takesSoMany b_H_takesSoMany 3 (some .boolean) :: zTb
theorem d_H_takesSoMany_0 : decode b_H_takesSoMany 0 = .ok (.aload_n 0, 1) := by decide +kernel
theorem d_H_takesSoMany_1 : decode b_H_takesSoMany 1 = .ok (.getfield 40, 3) := by decide +kernel
theorem d_H_takesSoMany_4 : decode b_H_takesSoMany 4 = .ok (.iconst 3, 1) := by decide +kernel
theorem d_H_takesSoMany_5 : decode b_H_takesSoMany 5 = .ok (.if_icmp .ne 36, 3) := by decide +kernel
theorem d_H_takesSoMany_8 : decode b_H_takesSoMany 8 = .ok (.aload_n 0, 1) := by decide +kernel
theorem d_H_takesSoMany_9 : decode b_H_takesSoMany 9 = .ok (.getfield 15, 3) := by decide +kernel
theorem d_H_takesSoMany_12 : decode b_H_takesSoMany 12 = .ok (.getfield 95, 3) := by decide +kernel
theorem d_H_takesSoMany_15 : decode b_H_takesSoMany 15 = .ok (.iload_n 1, 1) := by decide +kernel
theorem d_H_takesSoMany_16 : decode b_H_takesSoMany 16 = .ok (.baload, 1) := by decide +kernel
theorem d_H_takesSoMany_17 : decode b_H_takesSoMany 17 = .ok (.ifCond .eq 22, 3) := by decide +kernel
theorem d_H_takesSoMany_20 : decode b_H_takesSoMany 20 = .ok (.iload_n 2, 1) := by decide +kernel
theorem d_H_takesSoMany_21 : decode b_H_takesSoMany 21 = .ok (.aload_n 0, 1) := by decide +kernel
theorem d_H_takesSoMany_22 : decode b_H_takesSoMany 22 = .ok (.getfield 15, 3) := by decide +kernel
theorem d_H_takesSoMany_25 : decode b_H_takesSoMany 25 = .ok (.getfield 99, 3) := by decide +kernel
theorem d_H_takesSoMany_28 : decode b_H_takesSoMany 28 = .ok (.iload_n 1, 1) := by decide +kernel
theorem d_H_takesSoMany_29 : decode b_H_takesSoMany 29 = .ok (.iaload, 1) := by decide +kernel
theorem d_H_takesSoMany_30 : decode b_H_takesSoMany 30 = .ok (.iconst 1, 1) := by decide +kernel
theorem d_H_takesSoMany_31 : decode b_H_takesSoMany 31 = .ok (.isub, 1) := by decide +kernel
theorem d_H_takesSoMany_32 : decode b_H_takesSoMany 32 = .ok (.if_icmp .lt 7, 3) := by decide +kernel
theorem d_H_takesSoMany_35 : decode b_H_takesSoMany 35 = .ok (.iconst 1, 1) := by decide +kernel
theorem d_H_takesSoMany_36 : decode b_H_takesSoMany 36 = .ok (.goto 4, 3) := by decide +kernel
theorem d_H_takesSoMany_39 : decode b_H_takesSoMany 39 = .ok (.iconst 0, 1) := by decide +kernel
theorem d_H_takesSoMany_40 : decode b_H_takesSoMany 40 = .ok (.ireturn, 1) := by decide +kernel
theorem d_H_takesSoMany_41 : decode b_H_takesSoMany 41 = .ok (.aload_n 0, 1) := by decide +kernel
theorem d_H_takesSoMany_42 : decode b_H_takesSoMany 42 = .ok (.getfield 15, 3) := by decide +kernel
theorem d_H_takesSoMany_45 : decode b_H_takesSoMany 45 = .ok (.getfield 95, 3) := by decide +kernel
theorem d_H_takesSoMany_48 : decode b_H_takesSoMany 48 = .ok (.iload_n 1, 1) := by decide +kernel
theorem d_H_takesSoMany_49 : decode b_H_takesSoMany 49 = .ok (.baload, 1) := by decide +kernel
theorem d_H_takesSoMany_50 : decode b_H_takesSoMany 50 = .ok (.ifCond .ne 20, 3) := by decide +kernel
theorem d_H_takesSoMany_53 : decode b_H_takesSoMany 53 = .ok (.iload_n 2, 1) := by decide +kernel
theorem d_H_takesSoMany_54 : decode b_H_takesSoMany 54 = .ok (.aload_n 0, 1) := by decide +kernel
theorem d_H_takesSoMany_55 : decode b_H_takesSoMany 55 = .ok (.getfield 15, 3) := by decide +kernel
theorem d_H_takesSoMany_58 : decode b_H_takesSoMany 58 = .ok (.getfield 99, 3) := by decide +kernel
theorem d_H_takesSoMany_61 : decode b_H_takesSoMany 61 = .ok (.iload_n 1, 1) := by decide +kernel
theorem d_H_takesSoMany_62 : decode b_H_takesSoMany 62 = .ok (.iaload, 1) := by decide +kernel
theorem d_H_takesSoMany_63 : decode b_H_takesSoMany 63 = .ok (.if_icmp .ne 7, 3) := by decide +kernel
theorem d_H_takesSoMany_66 : decode b_H_takesSoMany 66 = .ok (.iconst 1, 1) := by decide +kernel
theorem d_H_takesSoMany_67 : decode b_H_takesSoMany 67 = .ok (.goto 4, 3) := by decide +kernel
theorem d_H_takesSoMany_70 : decode b_H_takesSoMany 70 = .ok (.iconst 0, 1) := by decide +kernel
theorem d_H_takesSoMany_71 : decode b_H_takesSoMany 71 = .ok (.ireturn, 1) := by decide +kernel
abbrev rm_H_takesSoMany : Room := { frames := 0, cells := 0, slots := 0, locals := 0 }
def fx_H_takesSoMany (n : Nat) (S : ZC) (a1 : Int32) (a2 : Int32) : Option (Int32 × ZC) :=
  (if (hPh S) = (3 : Int32) then
  (if zoob a1 80 then none else
    (if ((mVa S) a1.toNatClampNeg) = 0 then
    some ((0 : Int32), S)
    else
    (if zoob a1 80 then none else
      (if a2 < (((mSz S) a1.toNatClampNeg) - (1 : Int32)) then
      some ((0 : Int32), S)
      else
      some ((1 : Int32), S)))))
  else
  (if zoob a1 80 then none else
    (if ((mVa S) a1.toNatClampNeg) = 0 then
    (if zoob a1 80 then none else
      (if a2 = ((mSz S) a1.toNatClampNeg) then
      some ((1 : Int32), S)
      else
      some ((0 : Int32), S)))
    else
    some ((0 : Int32), S))))

set_option maxRecDepth 100000 in
set_option maxHeartbeats 4000000 in
theorem k_H_takesSoMany (l : Launch) (z : zE) (A : Nat → Nat) (Rr : va_W) (n : Nat) (S : ZC) (a1 : Int32) (a2 : Int32) (r0 : Int32) (S' : ZC) (h : fx_H_takesSoMany n S a1 a2 = some (r0, S')) : zC z l y_H_takesSoMany w_H_takesSoMany rm_H_takesSoMany [.ref (A 7), .int a1, .int a2] (cw z A S ++ Rr) (some (.int r0)) (cw z A S' ++ Rr) := by
  refine zz_of (by decide) (Nat.le_of_ble_eq_true rfl) ?_
  intro p e s m args below meth c A0 ls hM hr hlocks hA hP hD hl
  have hM : zM z p s m args c b_H_takesSoMany 3 R_H := hM
  obtain ⟨hx, hb, hml, hown, hts, hK, hN⟩ := id hM
  have hS : va_S A0 s.heap s.heap [] := va_S.rf
  have hl : lv_has ls 3 [(0, .ref (A 7)), (1, .int a1), (2, .int a2)] := hl
  unfold fx_H_takesSoMany at h
  refine lv_aload_n hx hb d_H_takesSoMany_0 rfl (lv_at hl 0 rfl) ?_
  refine va_get (D := z.1) (ci := 3) (v := .int (hPh S)) (C := R_H) (T := F_H) (N := 8) hx hb hts i_H hown hK hP 7 rfl rfl 7 (by decide) (hts _ wq_103) (fun _ h9 => h9) rfl d_H_takesSoMany_1 ?_
  refine lv_iconst (v := 3) hx hb d_H_takesSoMany_4 (by decide) ?_
  refine lv_icmp_ne (tgt := 41) hx hb d_H_takesSoMany_5 (by decide) (fun c_1 => ?_) (fun c_1 => ?_)
  · replace h := zz_f c_1 h
    refine lv_aload_n hx hb d_H_takesSoMany_41 rfl (lv_at hl 0 rfl) ?_
    refine va_get (D := z.1) (ci := 3) (v := .ref (A 11)) (C := R_H) (T := F_H) (N := 8) hx hb hts i_H hown hK hP 7 rfl rfl 1 (by decide) (hts _ wq_97) (fun _ h9 => h9) rfl d_H_takesSoMany_42 ?_
    refine va_getN (D := z.1) (ci := 2) (v := .ref (A 16)) (C := R_M) (T := F_M) (N := 6) hx hb hts i_M hown hK hP 11 rfl rfl 4 (by decide) (zz_nf hN 6 rfl) (fun _ h9 => h9) rfl d_H_takesSoMany_45 ?_
    refine lv_iload_n hx hb d_H_takesSoMany_48 rfl (lv_at hl 1 rfl) ?_
    obtain ⟨c_2, h⟩ := zz_oob h
    refine va_zald hx hb hK hP 16 1 rfl rfl c_2 d_H_takesSoMany_49 ?_
    refine lv_if_ne (tgt := 70) hx hb d_H_takesSoMany_50 (by decide) (fun c_3 => ?_) (fun c_3 => ?_)
    · replace h := zz_f c_3 h
      refine lv_iconst (v := 0) hx hb d_H_takesSoMany_70 (by decide) ?_
      exact zz_zret (fun S => cw z A S ++ Rr) hx hb hr hlocks hP hD hS rfl h d_H_takesSoMany_71
    · replace h := zz_t c_3 h
      refine lv_iload_n hx hb d_H_takesSoMany_53 rfl (lv_at hl 2 rfl) ?_
      refine lv_aload_n hx hb d_H_takesSoMany_54 rfl (lv_at hl 0 rfl) ?_
      refine va_get (D := z.1) (ci := 3) (v := .ref (A 11)) (C := R_H) (T := F_H) (N := 8) hx hb hts i_H hown hK hP 7 rfl rfl 1 (by decide) (hts _ wq_97) (fun _ h9 => h9) rfl d_H_takesSoMany_55 ?_
      refine va_getN (D := z.1) (ci := 2) (v := .ref (A 14)) (C := R_M) (T := F_M) (N := 6) hx hb hts i_M hown hK hP 11 rfl rfl 2 (by decide) (zz_nf hN 7 rfl) (fun _ h9 => h9) rfl d_H_takesSoMany_58 ?_
      refine lv_iload_n hx hb d_H_takesSoMany_61 rfl (lv_at hl 1 rfl) ?_
      obtain ⟨c_4, h⟩ := zz_oob h
      refine va_iald hx hb hK hP 14 0 rfl rfl c_4 d_H_takesSoMany_62 ?_
      refine lv_icmp_ne (tgt := 70) hx hb d_H_takesSoMany_63 (by decide) (fun c_5 => ?_) (fun c_5 => ?_)
      · replace h := zz_f c_5 h
        refine lv_iconst (v := 0) hx hb d_H_takesSoMany_70 (by decide) ?_
        exact zz_zret (fun S => cw z A S ++ Rr) hx hb hr hlocks hP hD hS rfl h d_H_takesSoMany_71
      · replace h := zz_t c_5 h
        refine lv_iconst (v := 1) hx hb d_H_takesSoMany_66 (by decide) ?_
        refine lv_goto (tgt := 71) hx hb d_H_takesSoMany_67 (by decide) ?_
        exact zz_zret (fun S => cw z A S ++ Rr) hx hb hr hlocks hP hD hS rfl h d_H_takesSoMany_71
  · replace h := zz_t c_1 h
    refine lv_aload_n hx hb d_H_takesSoMany_8 rfl (lv_at hl 0 rfl) ?_
    refine va_get (D := z.1) (ci := 3) (v := .ref (A 11)) (C := R_H) (T := F_H) (N := 8) hx hb hts i_H hown hK hP 7 rfl rfl 1 (by decide) (hts _ wq_97) (fun _ h9 => h9) rfl d_H_takesSoMany_9 ?_
    refine va_getN (D := z.1) (ci := 2) (v := .ref (A 16)) (C := R_M) (T := F_M) (N := 6) hx hb hts i_M hown hK hP 11 rfl rfl 4 (by decide) (zz_nf hN 6 rfl) (fun _ h9 => h9) rfl d_H_takesSoMany_12 ?_
    refine lv_iload_n hx hb d_H_takesSoMany_15 rfl (lv_at hl 1 rfl) ?_
    obtain ⟨c_6, h⟩ := zz_oob h
    refine va_zald hx hb hK hP 16 1 rfl rfl c_6 d_H_takesSoMany_16 ?_
    refine lv_if_eq (tgt := 39) hx hb d_H_takesSoMany_17 (by decide) (fun c_7 => ?_) (fun c_7 => ?_)
    · replace h := zz_t c_7 h
      refine lv_iconst (v := 0) hx hb d_H_takesSoMany_39 (by decide) ?_
      exact zz_zret (fun S => cw z A S ++ Rr) hx hb hr hlocks hP hD hS rfl h d_H_takesSoMany_40
    · replace h := zz_f c_7 h
      refine lv_iload_n hx hb d_H_takesSoMany_20 rfl (lv_at hl 2 rfl) ?_
      refine lv_aload_n hx hb d_H_takesSoMany_21 rfl (lv_at hl 0 rfl) ?_
      refine va_get (D := z.1) (ci := 3) (v := .ref (A 11)) (C := R_H) (T := F_H) (N := 8) hx hb hts i_H hown hK hP 7 rfl rfl 1 (by decide) (hts _ wq_97) (fun _ h9 => h9) rfl d_H_takesSoMany_22 ?_
      refine va_getN (D := z.1) (ci := 2) (v := .ref (A 14)) (C := R_M) (T := F_M) (N := 6) hx hb hts i_M hown hK hP 11 rfl rfl 2 (by decide) (zz_nf hN 7 rfl) (fun _ h9 => h9) rfl d_H_takesSoMany_25 ?_
      refine lv_iload_n hx hb d_H_takesSoMany_28 rfl (lv_at hl 1 rfl) ?_
      obtain ⟨c_8, h⟩ := zz_oob h
      refine va_iald hx hb hK hP 14 0 rfl rfl c_8 d_H_takesSoMany_29 ?_
      refine lv_iconst (v := 1) hx hb d_H_takesSoMany_30 (by decide) ?_
      refine lv_isub hx hb d_H_takesSoMany_31 ?_
      refine lv_icmp_lt (tgt := 39) hx hb d_H_takesSoMany_32 (by decide) (fun c_9 => ?_) (fun c_9 => ?_)
      · replace h := zz_t c_9 h
        refine lv_iconst (v := 0) hx hb d_H_takesSoMany_39 (by decide) ?_
        exact zz_zret (fun S => cw z A S ++ Rr) hx hb hr hlocks hP hD hS rfl h d_H_takesSoMany_40
      · replace h := zz_f c_9 h
        refine lv_iconst (v := 1) hx hb d_H_takesSoMany_35 (by decide) ?_
        refine lv_goto (tgt := 40) hx hb d_H_takesSoMany_36 (by decide) ?_
        exact zz_zret (fun S => cw z A S ++ Rr) hx hb hr hlocks hP hD hS rfl h d_H_takesSoMany_40

abbrev b_H_fits : ByteArray := prog_2_method_8_code
abbrev y_H_fits : MethodName := ⟨"MemberChooser$Chooser", "fits", "(IIJ)Z"⟩
abbrev w_H_fits : List Cond := Cond.code y_H_fits b_H_fits 6 (some .boolean) :: zTb
theorem d_H_fits_0 : decode b_H_fits 0 = .ok (.aload_n 0, 1) := by decide +kernel
theorem d_H_fits_1 : decode b_H_fits 1 = .ok (.iload_n 1, 1) := by decide +kernel
theorem d_H_fits_2 : decode b_H_fits 2 = .ok (.iload_n 2, 1) := by decide +kernel
theorem d_H_fits_3 : decode b_H_fits 3 = .ok (.invokevirtual 81, 3) := by decide +kernel
theorem d_H_fits_6 : decode b_H_fits 6 = .ok (.ifCond .ne 5, 3) := by decide +kernel
theorem d_H_fits_9 : decode b_H_fits 9 = .ok (.iconst 0, 1) := by decide +kernel
theorem d_H_fits_10 : decode b_H_fits 10 = .ok (.ireturn, 1) := by decide +kernel
theorem d_H_fits_11 : decode b_H_fits 11 = .ok (.iconst 0, 1) := by decide +kernel
theorem d_H_fits_12 : decode b_H_fits 12 = .ok (.istore 5, 2) := by decide +kernel
theorem d_H_fits_14 : decode b_H_fits 14 = .ok (.iload 5, 2) := by decide +kernel
theorem d_H_fits_16 : decode b_H_fits 16 = .ok (.iload_n 2, 1) := by decide +kernel
theorem d_H_fits_17 : decode b_H_fits 17 = .ok (.if_icmp .ge 34, 3) := by decide +kernel
theorem d_H_fits_20 : decode b_H_fits 20 = .ok (.aload_n 0, 1) := by decide +kernel
theorem d_H_fits_21 : decode b_H_fits 21 = .ok (.lload_n 3, 1) := by decide +kernel
theorem d_H_fits_22 : decode b_H_fits 22 = .ok (.iload 5, 2) := by decide +kernel
theorem d_H_fits_24 : decode b_H_fits 24 = .ok (.invokestatic 84, 3) := by decide +kernel
theorem d_H_fits_27 : decode b_H_fits 27 = .ok (.aload_n 0, 1) := by decide +kernel
theorem d_H_fits_28 : decode b_H_fits 28 = .ok (.getfield 15, 3) := by decide +kernel
theorem d_H_fits_31 : decode b_H_fits 31 = .ok (.iload_n 1, 1) := by decide +kernel
theorem d_H_fits_32 : decode b_H_fits 32 = .ok (.iload 5, 2) := by decide +kernel
theorem d_H_fits_34 : decode b_H_fits 34 = .ok (.invokevirtual 88, 3) := by decide +kernel
theorem d_H_fits_37 : decode b_H_fits 37 = .ok (.invokevirtual 92, 3) := by decide +kernel
theorem d_H_fits_40 : decode b_H_fits 40 = .ok (.ifCond .ne 5, 3) := by decide +kernel
theorem d_H_fits_43 : decode b_H_fits 43 = .ok (.iconst 0, 1) := by decide +kernel
theorem d_H_fits_44 : decode b_H_fits 44 = .ok (.ireturn, 1) := by decide +kernel
theorem d_H_fits_45 : decode b_H_fits 45 = .ok (.iinc 5 1, 3) := by decide +kernel
theorem d_H_fits_48 : decode b_H_fits 48 = .ok (.goto (-34), 3) := by decide +kernel
theorem d_H_fits_51 : decode b_H_fits 51 = .ok (.iconst 1, 1) := by decide +kernel
theorem d_H_fits_52 : decode b_H_fits 52 = .ok (.ireturn, 1) := by decide +kernel
abbrev rm_H_fits : Room := { frames := 3, cells := 0, slots := 0, locals := 65 }
def st_H_fits_L14 (n : Nat) (v1 : Int32) (v2 : Int32) (v3 : Int64) (v5 : Int32) (S : ZC) : Option ((Int32 × ZC) ⊕ (Nat × Int32 × ZC)) :=
  (if v2 ≤ v5 then
  some (.inr (51, v5, S))
  else
  zbind1 (fx_X_byteAt n v3 v5) (fun r_4 =>
    zbind (fx_M_parameterFor n S v1 v5) (fun r_5 S_5 =>
    zbind (fx_H_goesTo n S_5 r_4 r_5) (fun r_6 S_6 =>
    (if r_6 = 0 then
    some (.inr (43, v5, S_6))
    else
    some (.inl ((v5 + (1 : Int32)), S_6)))))))

def fx_H_fits_L14 (n : Nat) (v1 : Int32) (v2 : Int32) (v3 : Int64) (v5 : Int32) (S : ZC) : Option (Nat × Int32 × ZC) := zloop (fun (st : Int32 × ZC) => st_H_fits_L14 n v1 v2 v3 st.1 st.2) n (v5, S)

def fx_H_fits (n : Nat) (S : ZC) (a1 : Int32) (a2 : Int32) (a3 : Int64) : Option (Int32 × ZC) :=
  zbind (fx_H_takesSoMany n S a1 a2) (fun r_1 S_1 =>
  (if r_1 = 0 then
  some ((0 : Int32), S_1)
  else
  zbL2 (fx_H_fits_L14 n a1 a2 a3 (0 : Int32) S_1) (fun x_8 v5_8 S_8 =>
    if x_8 = 43 then
    some ((0 : Int32), S_8)
    else if x_8 = 51 then
    some ((1 : Int32), S_8)
    else none)))

set_option maxRecDepth 100000 in
set_option maxHeartbeats 4000000 in
theorem lp_H_fits_L14 {z : zE} {A : Nat → Nat} {Rr : va_W} {p : Program} {l : Launch} {e : Env} {s : State} {m : MethodId} {args : Array Value} {below : List Frame} {meth : Method} {c : Code} {Q : State → Prop} {H0 : Heap} {A0 : Nat → Prop} (hM : zM z p s m args c b_H_fits 6 R_H) (hA : ∀ q : Nat, H0.size ≤ q → A0 q) (n : Nat) (v1 : Int32) (v2 : Int32) (v3 : Int64) :
    ∀ (v5 : Int32) (S : ZC) (r : Nat × Int32 × ZC), fx_H_fits_L14 n v1 v2 v3 v5 S = some r → (∀ (H : Heap) (locs : List Loc) (ls : Array Slot), va_P z.1 vwCl (cw z A r.2.2 ++ Rr) H → va_D A0 (cw z A r.2.2 ++ Rr) → va_S A0 H0 H locs → lv_has ls 6 [(0, .ref (A 7)), (1, .int v1), (2, .int v2), (3, .long v3), (5, .int r.2.1)] → W p l e rm_H_fits s m args below meth c H locs 0 0 Q (F0 m r.1 ls [])) →
    ∀ (H : Heap) (locs : List Loc) (ls : Array Slot), va_P z.1 vwCl (cw z A S ++ Rr) H → va_D A0 (cw z A S ++ Rr) → va_S A0 H0 H locs → lv_has ls 6 [(0, .ref (A 7)), (1, .int v1), (2, .int v2), (3, .long v3), (5, .int v5)] → W p l e rm_H_fits s m args below meth c H locs 0 0 Q (F0 m 14 ls []) := by
  obtain ⟨hx, hb, hml, hown, hts, hK, hN⟩ := id hM
  intro v5 S r h hE
  refine zz_loop (G := fun (st : Int32 × ZC) => ∀ (H : Heap) (locs : List Loc) (ls : Array Slot), va_P z.1 vwCl (cw z A st.2 ++ Rr) H → va_D A0 (cw z A st.2 ++ Rr) → va_S A0 H0 H locs → lv_has ls 6 [(0, .ref (A 7)), (1, .int v1), (2, .int v2), (3, .long v3), (5, .int st.1)] → W p l e rm_H_fits s m args below meth c H locs 0 0 Q (F0 m 14 ls [])) (E := fun (r : Nat × Int32 × ZC) => ∀ (H : Heap) (locs : List Loc) (ls : Array Slot), va_P z.1 vwCl (cw z A r.2.2 ++ Rr) H → va_D A0 (cw z A r.2.2 ++ Rr) → va_S A0 H0 H locs → lv_has ls 6 [(0, .ref (A 7)), (1, .int v1), (2, .int v2), (3, .long v3), (5, .int r.2.1)] → W p l e rm_H_fits s m args below meth c H locs 0 0 Q (F0 m r.1 ls [])) ?_ n (v5, S) r h hE
  clear h hE r v5 S
  rintro ⟨v5, S⟩ o h hG hE H locs ls hP hD hS hl
  have h : st_H_fits_L14 n v1 v2 v3 v5 S = some o := h
  have hl : lv_has ls 6 [(0, .ref (A 7)), (1, .int v1), (2, .int v2), (3, .long v3), (5, .int v5)] := hl
  have hP : va_P z.1 vwCl (cw z A S ++ Rr) H := hP
  have hD : va_D A0 (cw z A S ++ Rr) := hD
  unfold st_H_fits_L14 at h
  refine lv_iload hx hb d_H_fits_14 (lv_at hl 4 rfl) ?_
  refine lv_iload_n hx hb d_H_fits_16 rfl (lv_at hl 2 rfl) ?_
  refine lv_icmp_ge (tgt := 51) hx hb d_H_fits_17 (by decide) (fun c_3 => ?_) (fun c_3 => ?_)
  · replace h := zz_t c_3 h
    exact hE _ (Option.some.inj h).symm _ _ _ hP hD hS hl
  · replace h := zz_f c_3 h
    refine lv_aload_n hx hb d_H_fits_20 rfl (lv_at hl 0 rfl) ?_
    refine lv_lload_n hx hb d_H_fits_21 rfl (lv_at hl 3 rfl) ?_
    refine lv_iload hx hb d_H_fits_22 (lv_at hl 4 rfl) ?_
    obtain ⟨r_4, e_4, h⟩ := zz_bind1 h
    refine zz_goI (zz_runSN (As := [.long v3, .int v5]) (rest := [.ref (A 7)]) (k_X_byteAt l z _ n _ _ _ e_4) ⟨hx, hb, hml, hown, hts⟩ ⟨va_cnB 2 hts (zz_gC wq_257) rfl rfl rfl (hN.2 1 _ rfl) (hts _ wq_1) (by decide +kernel) ⟨Nat.le_of_ble_eq_true rfl, Nat.le_of_ble_eq_true rfl⟩, hts _ wq_256, trivial⟩ hK hN hP hD rfl hl.1 rfl (Nat.le_of_ble_eq_true rfl) d_H_fits_24 ⟨Nat.le_of_ble_eq_true rfl, Nat.le_of_ble_eq_true rfl⟩) hD hS hA (fun H locs hP hD hS => ?_)
    refine lv_aload_n hx hb d_H_fits_27 rfl (lv_at hl 0 rfl) ?_
    refine va_get (D := z.1) (ci := 3) (v := .ref (A 11)) (C := R_H) (T := F_H) (N := 8) hx hb hts i_H hown hK hP 7 rfl rfl 1 (by decide) (hts _ wq_97) (fun _ h9 => h9) rfl d_H_fits_28 ?_
    refine lv_iload_n hx hb d_H_fits_31 rfl (lv_at hl 1 rfl) ?_
    refine lv_iload hx hb d_H_fits_32 (lv_at hl 4 rfl) ?_
    obtain ⟨r_5, S_5, e_5, h⟩ := zz_bind h
    refine zz_goI (zz_runV (As := [.int v1, .int v5]) (rest := [.int r_4, .ref (A 7)]) (k_M_parameterFor l z A Rr n _ _ _ _ _ e_5) ⟨hx, hb, hml, hown, hts⟩ (cwV 2 hts (zz_gV wq_474 wq_475 wq_476 wq_3 wq_477) rfl rfl rfl (by decide +kernel) ⟨Nat.le_of_ble_eq_true rfl, Nat.le_of_ble_eq_true rfl⟩) hK hN hP hD (va_recv hK hP (ci := 2) (q0 := 11) rfl rfl) rfl hl.1 rfl (Nat.le_of_ble_eq_true rfl) d_H_fits_34 ⟨Nat.le_of_ble_eq_true rfl, Nat.le_of_ble_eq_true rfl⟩) hD hS hA (fun H locs hP hD hS => ?_)
    obtain ⟨r_6, S_6, e_6, h⟩ := zz_bind h
    refine zz_goI (zz_runV (As := [.int r_4, .int r_5]) (rest := []) (k_H_goesTo l z A Rr n _ _ _ _ _ e_6) ⟨hx, hb, hml, hown, hts⟩ (cwV 2 hts (zz_gV wq_481 wq_483 wp_13 wq_4 wq_484) rfl rfl rfl (by decide +kernel) ⟨Nat.le_of_ble_eq_true rfl, Nat.le_of_ble_eq_true rfl⟩) hK hN hP hD (va_recv hK hP (ci := 3) (q0 := 7) rfl rfl) rfl hl.1 rfl (Nat.le_of_ble_eq_true rfl) d_H_fits_37 ⟨Nat.le_of_ble_eq_true rfl, Nat.le_of_ble_eq_true rfl⟩) hD hS hA (fun H locs hP hD hS => ?_)
    refine lv_if_ne (tgt := 45) hx hb d_H_fits_40 (by decide) (fun c_7 => ?_) (fun c_7 => ?_)
    · replace h := zz_f c_7 h
      refine lv_iinc (v := (v5 + (1 : Int32))) (lv' := [(5, .int (v5 + (1 : Int32))), (0, .ref (A 7)), (1, .int v1), (2, .int v2), (3, .long v3)]) hx hb d_H_fits_45 hl (k := 4) rfl rfl (by decide) rfl (fun ls hl => ?_)
      refine lv_goto (tgt := 14) hx hb d_H_fits_48 (by decide) ?_
      exact hG _ (Option.some.inj h).symm _ _ _ hP hD hS (lv_sub hl [1, 2, 3, 4, 0] rfl)
    · replace h := zz_t c_7 h
      exact hE _ (Option.some.inj h).symm _ _ _ hP hD hS hl

set_option maxRecDepth 100000 in
set_option maxHeartbeats 4000000 in
theorem k_H_fits (l : Launch) (z : zE) (A : Nat → Nat) (Rr : va_W) (n : Nat) (S : ZC) (a1 : Int32) (a2 : Int32) (a3 : Int64) (r0 : Int32) (S' : ZC) (h : fx_H_fits n S a1 a2 a3 = some (r0, S')) : zC z l y_H_fits w_H_fits rm_H_fits [.ref (A 7), .int a1, .int a2, .long a3] (cw z A S ++ Rr) (some (.int r0)) (cw z A S' ++ Rr) := by
  refine zz_of (by decide) (Nat.le_of_ble_eq_true rfl) ?_
  intro p e s m args below meth c A0 ls hM hr hlocks hA hP hD hl
  have hM : zM z p s m args c b_H_fits 6 R_H := hM
  obtain ⟨hx, hb, hml, hown, hts, hK, hN⟩ := id hM
  have hS : va_S A0 s.heap s.heap [] := va_S.rf
  have hl : lv_has ls 6 [(0, .ref (A 7)), (1, .int a1), (2, .int a2), (3, .long a3)] := hl
  unfold fx_H_fits at h
  refine lv_aload_n hx hb d_H_fits_0 rfl (lv_at hl 0 rfl) ?_
  refine lv_iload_n hx hb d_H_fits_1 rfl (lv_at hl 1 rfl) ?_
  refine lv_iload_n hx hb d_H_fits_2 rfl (lv_at hl 2 rfl) ?_
  obtain ⟨r_1, S_1, e_1, h⟩ := zz_bind h
  refine zz_goI (zz_runV (As := [.int a1, .int a2]) (rest := []) (k_H_takesSoMany l z A Rr n _ _ _ _ _ e_1) ⟨hx, hb, hml, hown, hts⟩ (cwV 2 hts (zz_gV wq_469 wq_471 wp_12 wq_4 wq_472) rfl rfl rfl (by decide +kernel) ⟨Nat.le_of_ble_eq_true rfl, Nat.le_of_ble_eq_true rfl⟩) hK hN hP hD (va_recv hK hP (ci := 3) (q0 := 7) rfl rfl) rfl hl.1 rfl (Nat.le_of_ble_eq_true rfl) d_H_fits_3 ⟨Nat.le_of_ble_eq_true rfl, Nat.le_of_ble_eq_true rfl⟩) hD hS hA (fun H locs hP hD hS => ?_)
  refine lv_if_ne (tgt := 11) hx hb d_H_fits_6 (by decide) (fun c_2 => ?_) (fun c_2 => ?_)
  · replace h := zz_f c_2 h
    refine lv_iconst (v := 0) hx hb d_H_fits_11 (by decide) ?_
    refine lv_istore (lv' := [(5, .int (0 : Int32)), (0, .ref (A 7)), (1, .int a1), (2, .int a2), (3, .long a3)]) hx hb d_H_fits_12 hl (by decide) rfl (fun ls hl => ?_)
    replace h := zz_bL2 h
    obtain ⟨x_8, v5_8, S_8, e_8, h⟩ := h
    refine lp_H_fits_L14 hM hA n a1 a2 a3 _ _ _ e_8 ?_ _ _ _ hP hD hS (lv_sub hl [1, 2, 3, 4, 0] rfl)
    intro H locs ls hP hD hS hl
    have hl : lv_has ls 6 [(0, .ref (A 7)), (1, .int a1), (2, .int a2), (3, .long a3), (5, .int v5_8)] := hl
    have hP : va_P z.1 vwCl (cw z A S_8 ++ Rr) H := hP
    have hD : va_D A0 (cw z A S_8 ++ Rr) := hD
    by_cases c_8 : x_8 = 43
    · replace h := zz_t c_8 h
      subst c_8
      refine W.eq (g2 := F0 m 43 ls []) rfl ?_
      refine lv_iconst (v := 0) hx hb d_H_fits_43 (by decide) ?_
      exact zz_zret (fun S => cw z A S ++ Rr) hx hb hr hlocks hP hD hS rfl h d_H_fits_44
    replace h := zz_f c_8 h
    replace h := zz_grd h
    obtain ⟨c_8, h⟩ := h
    subst c_8
    refine W.eq (g2 := F0 m 51 ls []) rfl ?_
    refine lv_iconst (v := 1) hx hb d_H_fits_51 (by decide) ?_
    exact zz_zret (fun S => cw z A S ++ Rr) hx hb hr hlocks hP hD hS rfl h d_H_fits_52
  · replace h := zz_t c_2 h
    refine lv_iconst (v := 0) hx hb d_H_fits_9 (by decide) ?_
    exact zz_zret (fun S => cw z A S ++ Rr) hx hb hr hlocks hP hD hS rfl h d_H_fits_10

abbrev b_H_gatherFitting : ByteArray := prog_2_method_7_code
abbrev y_H_gatherFitting : MethodName := ⟨"MemberChooser$Chooser", "gatherFitting", "(IJ)V"⟩
abbrev w_H_gatherFitting : List Cond := Cond.code y_H_gatherFitting b_H_gatherFitting 5 none :: zTb
theorem d_H_gatherFitting_0 : decode b_H_gatherFitting 0 = .ok (.aload_n 0, 1) := by decide +kernel
theorem d_H_gatherFitting_1 : decode b_H_gatherFitting 1 = .ok (.iconst 0, 1) := by decide +kernel
theorem d_H_gatherFitting_2 : decode b_H_gatherFitting 2 = .ok (.putfield 37, 3) := by decide +kernel
theorem d_H_gatherFitting_5 : decode b_H_gatherFitting 5 = .ok (.iconst 0, 1) := by decide +kernel
theorem d_H_gatherFitting_6 : decode b_H_gatherFitting 6 = .ok (.istore 4, 2) := by decide +kernel
theorem d_H_gatherFitting_8 : decode b_H_gatherFitting 8 = .ok (.iload 4, 2) := by decide +kernel
theorem d_H_gatherFitting_10 : decode b_H_gatherFitting 10 = .ok (.aload_n 0, 1) := by decide +kernel
theorem d_H_gatherFitting_11 : decode b_H_gatherFitting 11 = .ok (.getfield 33, 3) := by decide +kernel
theorem d_H_gatherFitting_14 : decode b_H_gatherFitting 14 = .ok (.if_icmp .ge 51, 3) := by decide +kernel
theorem d_H_gatherFitting_17 : decode b_H_gatherFitting 17 = .ok (.aload_n 0, 1) := by decide +kernel
theorem d_H_gatherFitting_18 : decode b_H_gatherFitting 18 = .ok (.aload_n 0, 1) := by decide +kernel
theorem d_H_gatherFitting_19 : decode b_H_gatherFitting 19 = .ok (.getfield 27, 3) := by decide +kernel
theorem d_H_gatherFitting_22 : decode b_H_gatherFitting 22 = .ok (.iload 4, 2) := by decide +kernel
theorem d_H_gatherFitting_24 : decode b_H_gatherFitting 24 = .ok (.iaload, 1) := by decide +kernel
theorem d_H_gatherFitting_25 : decode b_H_gatherFitting 25 = .ok (.iload_n 1, 1) := by decide +kernel
theorem d_H_gatherFitting_26 : decode b_H_gatherFitting 26 = .ok (.lload_n 2, 1) := by decide +kernel
theorem d_H_gatherFitting_27 : decode b_H_gatherFitting 27 = .ok (.invokevirtual 77, 3) := by decide +kernel
theorem d_H_gatherFitting_30 : decode b_H_gatherFitting 30 = .ok (.ifCond .eq 29, 3) := by decide +kernel
theorem d_H_gatherFitting_33 : decode b_H_gatherFitting 33 = .ok (.aload_n 0, 1) := by decide +kernel
theorem d_H_gatherFitting_34 : decode b_H_gatherFitting 34 = .ok (.getfield 30, 3) := by decide +kernel
theorem d_H_gatherFitting_37 : decode b_H_gatherFitting 37 = .ok (.aload_n 0, 1) := by decide +kernel
theorem d_H_gatherFitting_38 : decode b_H_gatherFitting 38 = .ok (.getfield 37, 3) := by decide +kernel
theorem d_H_gatherFitting_41 : decode b_H_gatherFitting 41 = .ok (.aload_n 0, 1) := by decide +kernel
theorem d_H_gatherFitting_42 : decode b_H_gatherFitting 42 = .ok (.getfield 27, 3) := by decide +kernel
theorem d_H_gatherFitting_45 : decode b_H_gatherFitting 45 = .ok (.iload 4, 2) := by decide +kernel
theorem d_H_gatherFitting_47 : decode b_H_gatherFitting 47 = .ok (.iaload, 1) := by decide +kernel
theorem d_H_gatherFitting_48 : decode b_H_gatherFitting 48 = .ok (.iastore, 1) := by decide +kernel
theorem d_H_gatherFitting_49 : decode b_H_gatherFitting 49 = .ok (.aload_n 0, 1) := by decide +kernel
theorem d_H_gatherFitting_50 : decode b_H_gatherFitting 50 = .ok (.dup, 1) := by decide +kernel
theorem d_H_gatherFitting_51 : decode b_H_gatherFitting 51 = .ok (.getfield 37, 3) := by decide +kernel
theorem d_H_gatherFitting_54 : decode b_H_gatherFitting 54 = .ok (.iconst 1, 1) := by decide +kernel
theorem d_H_gatherFitting_55 : decode b_H_gatherFitting 55 = .ok (.iadd, 1) := by decide +kernel
theorem d_H_gatherFitting_56 : decode b_H_gatherFitting 56 = .ok (.putfield 37, 3) := by decide +kernel
theorem d_H_gatherFitting_59 : decode b_H_gatherFitting 59 = .ok (.iinc 4 1, 3) := by decide +kernel
theorem d_H_gatherFitting_62 : decode b_H_gatherFitting 62 = .ok (.goto (-54), 3) := by decide +kernel
theorem d_H_gatherFitting_65 : decode b_H_gatherFitting 65 = .ok (.return_, 1) := by decide +kernel
abbrev rm_H_gatherFitting : Room := { frames := 4, cells := 0, slots := 0, locals := 90 }
def st_H_gatherFitting_L8 (n : Nat) (v1 : Int32) (v2 : Int64) (v4 : Int32) (S : ZC) : Option ((Int32 × ZC) ⊕ (Nat × Int32 × ZC)) :=
  (if (hMc S) ≤ v4 then
  some (.inr (65, v4, S))
  else
  (if zoob v4 80 then none else
    zbind (fx_H_fits n S ((hMe S) v4.toNatClampNeg) v1 v2) (fun r_4 S_4 =>
    (if r_4 = 0 then
    some (.inl ((v4 + (1 : Int32)), S_4))
    else
    (if zoob v4 80 then none else
      (if zoob (hFc S_4) 80 then none else
      zlet (hFi' S_4 (upd (hFi S_4) (hFc S_4).toNatClampNeg ((hMe S_4) v4.toNatClampNeg))) (fun S_8 =>
      zlet (hFc' S_8 ((hFc S_8) + (1 : Int32))) (fun S_9 =>
      some (.inl ((v4 + (1 : Int32)), S_9))))))))))

def fx_H_gatherFitting_L8 (n : Nat) (v1 : Int32) (v2 : Int64) (v4 : Int32) (S : ZC) : Option (Nat × Int32 × ZC) := zloop (fun (st : Int32 × ZC) => st_H_gatherFitting_L8 n v1 v2 st.1 st.2) n (v4, S)

def fx_H_gatherFitting (n : Nat) (S : ZC) (a1 : Int32) (a2 : Int64) : Option (ZC) :=
  zlet (hFc' S (0 : Int32)) (fun S_1 =>
  zbL2 (fx_H_gatherFitting_L8 n a1 a2 (0 : Int32) S_1) (fun x_10 v4_10 S_10 =>
  if x_10 = 65 then
  some S_10
  else none))

set_option maxRecDepth 100000 in
set_option maxHeartbeats 4000000 in
theorem lp_H_gatherFitting_L8 {z : zE} {A : Nat → Nat} {Rr : va_W} {p : Program} {l : Launch} {e : Env} {s : State} {m : MethodId} {args : Array Value} {below : List Frame} {meth : Method} {c : Code} {Q : State → Prop} {H0 : Heap} {A0 : Nat → Prop} (hM : zM z p s m args c b_H_gatherFitting 5 R_H) (hA : ∀ q : Nat, H0.size ≤ q → A0 q) (n : Nat) (v1 : Int32) (v2 : Int64) :
    ∀ (v4 : Int32) (S : ZC) (r : Nat × Int32 × ZC), fx_H_gatherFitting_L8 n v1 v2 v4 S = some r → (∀ (H : Heap) (locs : List Loc) (ls : Array Slot), va_P z.1 vwCl (cw z A r.2.2 ++ Rr) H → va_D A0 (cw z A r.2.2 ++ Rr) → va_S A0 H0 H locs → lv_has ls 5 [(0, .ref (A 7)), (1, .int v1), (2, .long v2), (4, .int r.2.1)] → W p l e rm_H_gatherFitting s m args below meth c H locs 0 0 Q (F0 m r.1 ls [])) →
    ∀ (H : Heap) (locs : List Loc) (ls : Array Slot), va_P z.1 vwCl (cw z A S ++ Rr) H → va_D A0 (cw z A S ++ Rr) → va_S A0 H0 H locs → lv_has ls 5 [(0, .ref (A 7)), (1, .int v1), (2, .long v2), (4, .int v4)] → W p l e rm_H_gatherFitting s m args below meth c H locs 0 0 Q (F0 m 8 ls []) := by
  obtain ⟨hx, hb, hml, hown, hts, hK, hN⟩ := id hM
  intro v4 S r h hE
  refine zz_loop (G := fun (st : Int32 × ZC) => ∀ (H : Heap) (locs : List Loc) (ls : Array Slot), va_P z.1 vwCl (cw z A st.2 ++ Rr) H → va_D A0 (cw z A st.2 ++ Rr) → va_S A0 H0 H locs → lv_has ls 5 [(0, .ref (A 7)), (1, .int v1), (2, .long v2), (4, .int st.1)] → W p l e rm_H_gatherFitting s m args below meth c H locs 0 0 Q (F0 m 8 ls [])) (E := fun (r : Nat × Int32 × ZC) => ∀ (H : Heap) (locs : List Loc) (ls : Array Slot), va_P z.1 vwCl (cw z A r.2.2 ++ Rr) H → va_D A0 (cw z A r.2.2 ++ Rr) → va_S A0 H0 H locs → lv_has ls 5 [(0, .ref (A 7)), (1, .int v1), (2, .long v2), (4, .int r.2.1)] → W p l e rm_H_gatherFitting s m args below meth c H locs 0 0 Q (F0 m r.1 ls [])) ?_ n (v4, S) r h hE
  clear h hE r v4 S
  rintro ⟨v4, S⟩ o h hG hE H locs ls hP hD hS hl
  have h : st_H_gatherFitting_L8 n v1 v2 v4 S = some o := h
  have hl : lv_has ls 5 [(0, .ref (A 7)), (1, .int v1), (2, .long v2), (4, .int v4)] := hl
  have hP : va_P z.1 vwCl (cw z A S ++ Rr) H := hP
  have hD : va_D A0 (cw z A S ++ Rr) := hD
  unfold st_H_gatherFitting_L8 at h
  refine lv_iload hx hb d_H_gatherFitting_8 (lv_at hl 3 rfl) ?_
  refine lv_aload_n hx hb d_H_gatherFitting_10 rfl (lv_at hl 0 rfl) ?_
  refine va_get (D := z.1) (ci := 3) (v := .int (hMc S)) (C := R_H) (T := F_H) (N := 8) hx hb hts i_H hown hK hP 7 rfl rfl 5 (by decide) (hts _ wq_101) (fun _ h9 => h9) rfl d_H_gatherFitting_11 ?_
  refine lv_icmp_ge (tgt := 65) hx hb d_H_gatherFitting_14 (by decide) (fun c_2 => ?_) (fun c_2 => ?_)
  · replace h := zz_t c_2 h
    exact hE _ (Option.some.inj h).symm _ _ _ hP hD hS hl
  · replace h := zz_f c_2 h
    refine lv_aload_n hx hb d_H_gatherFitting_17 rfl (lv_at hl 0 rfl) ?_
    refine lv_aload_n hx hb d_H_gatherFitting_18 rfl (lv_at hl 0 rfl) ?_
    refine va_get (D := z.1) (ci := 3) (v := .ref (A 9)) (C := R_H) (T := F_H) (N := 8) hx hb hts i_H hown hK hP 7 rfl rfl 3 (by decide) (hts _ wq_99) (fun _ h9 => h9) rfl d_H_gatherFitting_19 ?_
    refine lv_iload hx hb d_H_gatherFitting_22 (lv_at hl 3 rfl) ?_
    obtain ⟨c_3, h⟩ := zz_oob h
    refine va_iald hx hb hK hP 9 0 rfl rfl c_3 d_H_gatherFitting_24 ?_
    refine lv_iload_n hx hb d_H_gatherFitting_25 rfl (lv_at hl 1 rfl) ?_
    refine lv_lload_n hx hb d_H_gatherFitting_26 rfl (lv_at hl 2 rfl) ?_
    obtain ⟨r_4, S_4, e_4, h⟩ := zz_bind h
    refine zz_goI (zz_runV (As := [.int ((hMe S) v4.toNatClampNeg), .int v1, .long v2]) (rest := []) (k_H_fits l z A Rr n _ _ _ _ _ _ e_4) ⟨hx, hb, hml, hown, hts⟩ (cwV 3 hts (zz_gV wq_465 wq_467 wp_11 wq_4 wq_468) rfl rfl rfl (by decide +kernel) ⟨Nat.le_of_ble_eq_true rfl, Nat.le_of_ble_eq_true rfl⟩) hK hN hP hD (va_recv hK hP (ci := 3) (q0 := 7) rfl rfl) rfl hl.1 rfl (Nat.le_of_ble_eq_true rfl) d_H_gatherFitting_27 ⟨Nat.le_of_ble_eq_true rfl, Nat.le_of_ble_eq_true rfl⟩) hD hS hA (fun H locs hP hD hS => ?_)
    refine lv_if_eq (tgt := 59) hx hb d_H_gatherFitting_30 (by decide) (fun c_5 => ?_) (fun c_5 => ?_)
    · replace h := zz_t c_5 h
      refine lv_iinc (v := (v4 + (1 : Int32))) (lv' := [(4, .int (v4 + (1 : Int32))), (0, .ref (A 7)), (1, .int v1), (2, .long v2)]) hx hb d_H_gatherFitting_59 hl (k := 3) rfl rfl (by decide) rfl (fun ls hl => ?_)
      refine lv_goto (tgt := 8) hx hb d_H_gatherFitting_62 (by decide) ?_
      exact hG _ (Option.some.inj h).symm _ _ _ hP hD hS (lv_sub hl [1, 2, 3, 0] rfl)
    · replace h := zz_f c_5 h
      refine lv_aload_n hx hb d_H_gatherFitting_33 rfl (lv_at hl 0 rfl) ?_
      refine va_get (D := z.1) (ci := 3) (v := .ref (A 10)) (C := R_H) (T := F_H) (N := 8) hx hb hts i_H hown hK hP 7 rfl rfl 4 (by decide) (hts _ wq_100) (fun _ h9 => h9) rfl d_H_gatherFitting_34 ?_
      refine lv_aload_n hx hb d_H_gatherFitting_37 rfl (lv_at hl 0 rfl) ?_
      refine va_get (D := z.1) (ci := 3) (v := .int (hFc S_4)) (C := R_H) (T := F_H) (N := 8) hx hb hts i_H hown hK hP 7 rfl rfl 6 (by decide) (hts _ wq_102) (fun _ h9 => h9) rfl d_H_gatherFitting_38 ?_
      refine lv_aload_n hx hb d_H_gatherFitting_41 rfl (lv_at hl 0 rfl) ?_
      refine va_get (D := z.1) (ci := 3) (v := .ref (A 9)) (C := R_H) (T := F_H) (N := 8) hx hb hts i_H hown hK hP 7 rfl rfl 3 (by decide) (hts _ wq_99) (fun _ h9 => h9) rfl d_H_gatherFitting_42 ?_
      refine lv_iload hx hb d_H_gatherFitting_45 (lv_at hl 3 rfl) ?_
      obtain ⟨c_6, h⟩ := zz_oob h
      refine va_iald hx hb hK hP 9 0 rfl rfl c_6 d_H_gatherFitting_47 ?_
      obtain ⟨c_7, h⟩ := zz_oob h
      obtain ⟨S_8, e_8, h⟩ := zz_let h
      refine va_iast hx hb hK hP hD hS 10 0 rfl rfl c_7 d_H_gatherFitting_48 (fun H locs hP hD hS => ?_)
      have hP : va_P z.1 vwCl (cw z A S_8 ++ Rr) H := by rw [e_8]; exact hP
      have hD : va_D A0 (cw z A S_8 ++ Rr) := by rw [e_8]; exact hD
      refine lv_aload_n hx hb d_H_gatherFitting_49 rfl (lv_at hl 0 rfl) ?_
      refine lv_dup hx hb d_H_gatherFitting_50 rfl ?_
      refine va_get (D := z.1) (ci := 3) (v := .int (hFc S_8)) (C := R_H) (T := F_H) (N := 8) hx hb hts i_H hown hK hP 7 rfl rfl 6 (by decide) (hts _ wq_102) (fun _ h9 => h9) rfl d_H_gatherFitting_51 ?_
      refine lv_iconst (v := 1) hx hb d_H_gatherFitting_54 (by decide) ?_
      refine lv_iadd hx hb d_H_gatherFitting_55 ?_
      obtain ⟨S_9, e_9, h⟩ := zz_let h
      refine va_put (D := z.1) (ci := 3) (v := .int ((hFc S_8) + (1 : Int32))) (ty := .int) (C := R_H) (T := F_H) (N := 8) hx hb hts i_H ty_H ty_H_ok n_H hown hK hP hD hS 7 rfl rfl 6 (by decide) (hts _ wq_102) (fun _ h9 => h9) rfl (by decide +kernel) rfl rfl (Nat.le_of_ble_eq_true rfl) d_H_gatherFitting_56 (fun H locs hP hD hS => ?_)
      have hP : va_P z.1 vwCl (cw z A S_9 ++ Rr) H := by rw [e_9]; exact hP
      have hD : va_D A0 (cw z A S_9 ++ Rr) := by rw [e_9]; exact hD
      refine lv_iinc (v := (v4 + (1 : Int32))) (lv' := [(4, .int (v4 + (1 : Int32))), (0, .ref (A 7)), (1, .int v1), (2, .long v2)]) hx hb d_H_gatherFitting_59 hl (k := 3) rfl rfl (by decide) rfl (fun ls hl => ?_)
      refine lv_goto (tgt := 8) hx hb d_H_gatherFitting_62 (by decide) ?_
      exact hG _ (Option.some.inj h).symm _ _ _ hP hD hS (lv_sub hl [1, 2, 3, 0] rfl)

set_option maxRecDepth 100000 in
set_option maxHeartbeats 4000000 in
theorem k_H_gatherFitting (l : Launch) (z : zE) (A : Nat → Nat) (Rr : va_W) (n : Nat) (S : ZC) (a1 : Int32) (a2 : Int64) (S' : ZC) (h : fx_H_gatherFitting n S a1 a2 = some S') : zC z l y_H_gatherFitting w_H_gatherFitting rm_H_gatherFitting [.ref (A 7), .int a1, .long a2] (cw z A S ++ Rr) none (cw z A S' ++ Rr) := by
  refine zz_of (by decide) (Nat.le_of_ble_eq_true rfl) ?_
  intro p e s m args below meth c A0 ls hM hr hlocks hA hP hD hl
  have hM : zM z p s m args c b_H_gatherFitting 5 R_H := hM
  obtain ⟨hx, hb, hml, hown, hts, hK, hN⟩ := id hM
  have hS : va_S A0 s.heap s.heap [] := va_S.rf
  have hl : lv_has ls 5 [(0, .ref (A 7)), (1, .int a1), (2, .long a2)] := hl
  unfold fx_H_gatherFitting at h
  refine lv_aload_n hx hb d_H_gatherFitting_0 rfl (lv_at hl 0 rfl) ?_
  refine lv_iconst (v := 0) hx hb d_H_gatherFitting_1 (by decide) ?_
  obtain ⟨S_1, e_1, h⟩ := zz_let h
  refine va_put (D := z.1) (ci := 3) (v := .int (0 : Int32)) (ty := .int) (C := R_H) (T := F_H) (N := 8) hx hb hts i_H ty_H ty_H_ok n_H hown hK hP hD hS 7 rfl rfl 6 (by decide) (hts _ wq_102) (fun _ h9 => h9) rfl (by decide +kernel) rfl rfl (Nat.le_of_ble_eq_true rfl) d_H_gatherFitting_2 (fun H locs hP hD hS => ?_)
  have hP : va_P z.1 vwCl (cw z A S_1 ++ Rr) H := by rw [e_1]; exact hP
  have hD : va_D A0 (cw z A S_1 ++ Rr) := by rw [e_1]; exact hD
  refine lv_iconst (v := 0) hx hb d_H_gatherFitting_5 (by decide) ?_
  refine lv_istore (lv' := [(4, .int (0 : Int32)), (0, .ref (A 7)), (1, .int a1), (2, .long a2)]) hx hb d_H_gatherFitting_6 hl (by decide) rfl (fun ls hl => ?_)
  replace h := zz_bL2 h
  obtain ⟨x_10, v4_10, S_10, e_10, h⟩ := h
  refine lp_H_gatherFitting_L8 hM hA n a1 a2 _ _ _ e_10 ?_ _ _ _ hP hD hS (lv_sub hl [1, 2, 3, 0] rfl)
  intro H locs ls hP hD hS hl
  have hl : lv_has ls 5 [(0, .ref (A 7)), (1, .int a1), (2, .long a2), (4, .int v4_10)] := hl
  have hP : va_P z.1 vwCl (cw z A S_10 ++ Rr) H := hP
  have hD : va_D A0 (cw z A S_10 ++ Rr) := hD
  replace h := zz_grd h
  obtain ⟨c_10, h⟩ := h
  subst c_10
  refine W.eq (g2 := F0 m 65 ls []) rfl ?_
  exact zz_vret (fun S => cw z A S ++ Rr) hx hb hr hlocks hP hD hS h d_H_gatherFitting_65

abbrev b_H_isMoreSpecific : ByteArray := prog_2_method_14_code
abbrev y_H_isMoreSpecific : MethodName := ⟨"MemberChooser$Chooser", "isMoreSpecific", "(II)Z"⟩
abbrev w_H_isMoreSpecific : List Cond := Cond.code y_H_isMoreSpecific b_H_isMoreSpecific 5 (some .boolean) :: zTb
theorem d_H_isMoreSpecific_0 : decode b_H_isMoreSpecific 0 = .ok (.aload_n 0, 1) := by decide +kernel
theorem d_H_isMoreSpecific_1 : decode b_H_isMoreSpecific 1 = .ok (.getfield 15, 3) := by decide +kernel
theorem d_H_isMoreSpecific_4 : decode b_H_isMoreSpecific 4 = .ok (.getfield 99, 3) := by decide +kernel
theorem d_H_isMoreSpecific_7 : decode b_H_isMoreSpecific 7 = .ok (.iload_n 1, 1) := by decide +kernel
theorem d_H_isMoreSpecific_8 : decode b_H_isMoreSpecific 8 = .ok (.iaload, 1) := by decide +kernel
theorem d_H_isMoreSpecific_9 : decode b_H_isMoreSpecific 9 = .ok (.aload_n 0, 1) := by decide +kernel
theorem d_H_isMoreSpecific_10 : decode b_H_isMoreSpecific 10 = .ok (.getfield 15, 3) := by decide +kernel
theorem d_H_isMoreSpecific_13 : decode b_H_isMoreSpecific 13 = .ok (.getfield 99, 3) := by decide +kernel
theorem d_H_isMoreSpecific_16 : decode b_H_isMoreSpecific 16 = .ok (.iload_n 2, 1) := by decide +kernel
theorem d_H_isMoreSpecific_17 : decode b_H_isMoreSpecific 17 = .ok (.iaload, 1) := by decide +kernel
theorem d_H_isMoreSpecific_18 : decode b_H_isMoreSpecific 18 = .ok (.invokestatic 117, 3) := by decide +kernel
theorem d_H_isMoreSpecific_21 : decode b_H_isMoreSpecific 21 = .ok (.istore_n 3, 1) := by decide +kernel
theorem d_H_isMoreSpecific_22 : decode b_H_isMoreSpecific 22 = .ok (.iconst 0, 1) := by decide +kernel
theorem d_H_isMoreSpecific_23 : decode b_H_isMoreSpecific 23 = .ok (.istore 4, 2) := by decide +kernel
theorem d_H_isMoreSpecific_25 : decode b_H_isMoreSpecific 25 = .ok (.iload 4, 2) := by decide +kernel
theorem d_H_isMoreSpecific_27 : decode b_H_isMoreSpecific 27 = .ok (.iload_n 3, 1) := by decide +kernel
theorem d_H_isMoreSpecific_28 : decode b_H_isMoreSpecific 28 = .ok (.if_icmp .ge 41, 3) := by decide +kernel
theorem d_H_isMoreSpecific_31 : decode b_H_isMoreSpecific 31 = .ok (.aload_n 0, 1) := by decide +kernel
theorem d_H_isMoreSpecific_32 : decode b_H_isMoreSpecific 32 = .ok (.getfield 9, 3) := by decide +kernel
theorem d_H_isMoreSpecific_35 : decode b_H_isMoreSpecific 35 = .ok (.aload_n 0, 1) := by decide +kernel
theorem d_H_isMoreSpecific_36 : decode b_H_isMoreSpecific 36 = .ok (.getfield 15, 3) := by decide +kernel
theorem d_H_isMoreSpecific_39 : decode b_H_isMoreSpecific 39 = .ok (.iload_n 1, 1) := by decide +kernel
theorem d_H_isMoreSpecific_40 : decode b_H_isMoreSpecific 40 = .ok (.iload 4, 2) := by decide +kernel
theorem d_H_isMoreSpecific_42 : decode b_H_isMoreSpecific 42 = .ok (.invokevirtual 88, 3) := by decide +kernel
theorem d_H_isMoreSpecific_45 : decode b_H_isMoreSpecific 45 = .ok (.aload_n 0, 1) := by decide +kernel
theorem d_H_isMoreSpecific_46 : decode b_H_isMoreSpecific 46 = .ok (.getfield 15, 3) := by decide +kernel
theorem d_H_isMoreSpecific_49 : decode b_H_isMoreSpecific 49 = .ok (.iload_n 2, 1) := by decide +kernel
theorem d_H_isMoreSpecific_50 : decode b_H_isMoreSpecific 50 = .ok (.iload 4, 2) := by decide +kernel
theorem d_H_isMoreSpecific_52 : decode b_H_isMoreSpecific 52 = .ok (.invokevirtual 88, 3) := by decide +kernel
theorem d_H_isMoreSpecific_55 : decode b_H_isMoreSpecific 55 = .ok (.invokevirtual 108, 3) := by decide +kernel
theorem d_H_isMoreSpecific_58 : decode b_H_isMoreSpecific 58 = .ok (.ifCond .ne 5, 3) := by decide +kernel
theorem d_H_isMoreSpecific_61 : decode b_H_isMoreSpecific 61 = .ok (.iconst 0, 1) := by decide +kernel
theorem d_H_isMoreSpecific_62 : decode b_H_isMoreSpecific 62 = .ok (.ireturn, 1) := by decide +kernel
theorem d_H_isMoreSpecific_63 : decode b_H_isMoreSpecific 63 = .ok (.iinc 4 1, 3) := by decide +kernel
theorem d_H_isMoreSpecific_66 : decode b_H_isMoreSpecific 66 = .ok (.goto (-41), 3) := by decide +kernel
theorem d_H_isMoreSpecific_69 : decode b_H_isMoreSpecific 69 = .ok (.iconst 1, 1) := by decide +kernel
theorem d_H_isMoreSpecific_70 : decode b_H_isMoreSpecific 70 = .ok (.ireturn, 1) := by decide +kernel
abbrev rm_H_isMoreSpecific : Room := { frames := 2, cells := 0, slots := 0, locals := 44 }
def st_H_isMoreSpecific_L25 (n : Nat) (v1 : Int32) (v2 : Int32) (v3 : Int32) (v4 : Int32) (S : ZC) : Option ((Int32 × ZC) ⊕ (Nat × Int32 × ZC)) :=
  (if v3 ≤ v4 then
  some (.inr (69, v4, S))
  else
  zbind (fx_M_parameterFor n S v1 v4) (fun r_4 S_4 =>
    zbind (fx_M_parameterFor n S_4 v2 v4) (fun r_5 S_5 =>
    zbind (fx_T_isSubtype n S_5 r_4 r_5) (fun r_6 S_6 =>
    (if r_6 = 0 then
    some (.inr (61, v4, S_6))
    else
    some (.inl ((v4 + (1 : Int32)), S_6)))))))

def fx_H_isMoreSpecific_L25 (n : Nat) (v1 : Int32) (v2 : Int32) (v3 : Int32) (v4 : Int32) (S : ZC) : Option (Nat × Int32 × ZC) := zloop (fun (st : Int32 × ZC) => st_H_isMoreSpecific_L25 n v1 v2 v3 st.1 st.2) n (v4, S)

def fx_H_isMoreSpecific (n : Nat) (S : ZC) (a1 : Int32) (a2 : Int32) : Option (Int32 × ZC) :=
  (if zoob a1 80 then none else
  (if zoob a2 80 then none else
  zbL2 (fx_H_isMoreSpecific_L25 n a1 a2 (if ((mSz S) a1.toNatClampNeg) < ((mSz S) a2.toNatClampNeg) then ((mSz S) a2.toNatClampNeg) else ((mSz S) a1.toNatClampNeg)) (0 : Int32) S) (fun x_8 v4_8 S_8 =>
  if x_8 = 61 then
  some ((0 : Int32), S_8)
  else if x_8 = 69 then
  some ((1 : Int32), S_8)
  else none)))

set_option maxRecDepth 100000 in
set_option maxHeartbeats 4000000 in
theorem lp_H_isMoreSpecific_L25 {z : zE} {A : Nat → Nat} {Rr : va_W} {p : Program} {l : Launch} {e : Env} {s : State} {m : MethodId} {args : Array Value} {below : List Frame} {meth : Method} {c : Code} {Q : State → Prop} {H0 : Heap} {A0 : Nat → Prop} (hM : zM z p s m args c b_H_isMoreSpecific 5 R_H) (hA : ∀ q : Nat, H0.size ≤ q → A0 q) (n : Nat) (v1 : Int32) (v2 : Int32) (v3 : Int32) :
    ∀ (v4 : Int32) (S : ZC) (r : Nat × Int32 × ZC), fx_H_isMoreSpecific_L25 n v1 v2 v3 v4 S = some r → (∀ (H : Heap) (locs : List Loc) (ls : Array Slot), va_P z.1 vwCl (cw z A r.2.2 ++ Rr) H → va_D A0 (cw z A r.2.2 ++ Rr) → va_S A0 H0 H locs → lv_has ls 5 [(0, .ref (A 7)), (1, .int v1), (2, .int v2), (3, .int v3), (4, .int r.2.1)] → W p l e rm_H_isMoreSpecific s m args below meth c H locs 0 0 Q (F0 m r.1 ls [])) →
    ∀ (H : Heap) (locs : List Loc) (ls : Array Slot), va_P z.1 vwCl (cw z A S ++ Rr) H → va_D A0 (cw z A S ++ Rr) → va_S A0 H0 H locs → lv_has ls 5 [(0, .ref (A 7)), (1, .int v1), (2, .int v2), (3, .int v3), (4, .int v4)] → W p l e rm_H_isMoreSpecific s m args below meth c H locs 0 0 Q (F0 m 25 ls []) := by
  obtain ⟨hx, hb, hml, hown, hts, hK, hN⟩ := id hM
  intro v4 S r h hE
  refine zz_loop (G := fun (st : Int32 × ZC) => ∀ (H : Heap) (locs : List Loc) (ls : Array Slot), va_P z.1 vwCl (cw z A st.2 ++ Rr) H → va_D A0 (cw z A st.2 ++ Rr) → va_S A0 H0 H locs → lv_has ls 5 [(0, .ref (A 7)), (1, .int v1), (2, .int v2), (3, .int v3), (4, .int st.1)] → W p l e rm_H_isMoreSpecific s m args below meth c H locs 0 0 Q (F0 m 25 ls [])) (E := fun (r : Nat × Int32 × ZC) => ∀ (H : Heap) (locs : List Loc) (ls : Array Slot), va_P z.1 vwCl (cw z A r.2.2 ++ Rr) H → va_D A0 (cw z A r.2.2 ++ Rr) → va_S A0 H0 H locs → lv_has ls 5 [(0, .ref (A 7)), (1, .int v1), (2, .int v2), (3, .int v3), (4, .int r.2.1)] → W p l e rm_H_isMoreSpecific s m args below meth c H locs 0 0 Q (F0 m r.1 ls [])) ?_ n (v4, S) r h hE
  clear h hE r v4 S
  rintro ⟨v4, S⟩ o h hG hE H locs ls hP hD hS hl
  have h : st_H_isMoreSpecific_L25 n v1 v2 v3 v4 S = some o := h
  have hl : lv_has ls 5 [(0, .ref (A 7)), (1, .int v1), (2, .int v2), (3, .int v3), (4, .int v4)] := hl
  have hP : va_P z.1 vwCl (cw z A S ++ Rr) H := hP
  have hD : va_D A0 (cw z A S ++ Rr) := hD
  unfold st_H_isMoreSpecific_L25 at h
  refine lv_iload hx hb d_H_isMoreSpecific_25 (lv_at hl 4 rfl) ?_
  refine lv_iload_n hx hb d_H_isMoreSpecific_27 rfl (lv_at hl 3 rfl) ?_
  refine lv_icmp_ge (tgt := 69) hx hb d_H_isMoreSpecific_28 (by decide) (fun c_3 => ?_) (fun c_3 => ?_)
  · replace h := zz_t c_3 h
    exact hE _ (Option.some.inj h).symm _ _ _ hP hD hS hl
  · replace h := zz_f c_3 h
    refine lv_aload_n hx hb d_H_isMoreSpecific_31 rfl (lv_at hl 0 rfl) ?_
    refine va_get (D := z.1) (ci := 3) (v := .ref (A 17)) (C := R_H) (T := F_H) (N := 8) hx hb hts i_H hown hK hP 7 rfl rfl 0 (by decide) (hts _ wq_96) (fun _ h9 => h9) rfl d_H_isMoreSpecific_32 ?_
    refine lv_aload_n hx hb d_H_isMoreSpecific_35 rfl (lv_at hl 0 rfl) ?_
    refine va_get (D := z.1) (ci := 3) (v := .ref (A 11)) (C := R_H) (T := F_H) (N := 8) hx hb hts i_H hown hK hP 7 rfl rfl 1 (by decide) (hts _ wq_97) (fun _ h9 => h9) rfl d_H_isMoreSpecific_36 ?_
    refine lv_iload_n hx hb d_H_isMoreSpecific_39 rfl (lv_at hl 1 rfl) ?_
    refine lv_iload hx hb d_H_isMoreSpecific_40 (lv_at hl 4 rfl) ?_
    obtain ⟨r_4, S_4, e_4, h⟩ := zz_bind h
    refine zz_goI (zz_runV (As := [.int v1, .int v4]) (rest := [.ref (A 17)]) (k_M_parameterFor l z A Rr n _ _ _ _ _ e_4) ⟨hx, hb, hml, hown, hts⟩ (cwV 2 hts (zz_gV wq_474 wq_475 wq_476 wq_3 wq_477) rfl rfl rfl (by decide +kernel) ⟨Nat.le_of_ble_eq_true rfl, Nat.le_of_ble_eq_true rfl⟩) hK hN hP hD (va_recv hK hP (ci := 2) (q0 := 11) rfl rfl) rfl hl.1 rfl (Nat.le_of_ble_eq_true rfl) d_H_isMoreSpecific_42 ⟨Nat.le_of_ble_eq_true rfl, Nat.le_of_ble_eq_true rfl⟩) hD hS hA (fun H locs hP hD hS => ?_)
    refine lv_aload_n hx hb d_H_isMoreSpecific_45 rfl (lv_at hl 0 rfl) ?_
    refine va_get (D := z.1) (ci := 3) (v := .ref (A 11)) (C := R_H) (T := F_H) (N := 8) hx hb hts i_H hown hK hP 7 rfl rfl 1 (by decide) (hts _ wq_97) (fun _ h9 => h9) rfl d_H_isMoreSpecific_46 ?_
    refine lv_iload_n hx hb d_H_isMoreSpecific_49 rfl (lv_at hl 2 rfl) ?_
    refine lv_iload hx hb d_H_isMoreSpecific_50 (lv_at hl 4 rfl) ?_
    obtain ⟨r_5, S_5, e_5, h⟩ := zz_bind h
    refine zz_goI (zz_runV (As := [.int v2, .int v4]) (rest := [.int r_4, .ref (A 17)]) (k_M_parameterFor l z A Rr n _ _ _ _ _ e_5) ⟨hx, hb, hml, hown, hts⟩ (cwV 2 hts (zz_gV wq_474 wq_475 wq_476 wq_3 wq_477) rfl rfl rfl (by decide +kernel) ⟨Nat.le_of_ble_eq_true rfl, Nat.le_of_ble_eq_true rfl⟩) hK hN hP hD (va_recv hK hP (ci := 2) (q0 := 11) rfl rfl) rfl hl.1 rfl (Nat.le_of_ble_eq_true rfl) d_H_isMoreSpecific_52 ⟨Nat.le_of_ble_eq_true rfl, Nat.le_of_ble_eq_true rfl⟩) hD hS hA (fun H locs hP hD hS => ?_)
    obtain ⟨r_6, S_6, e_6, h⟩ := zz_bind h
    refine zz_goI (zz_runV (As := [.int r_4, .int r_5]) (rest := []) (k_T_isSubtype l z A Rr n _ _ _ _ _ e_6) ⟨hx, hb, hml, hown, hts⟩ (cwV 2 hts (zz_gV wq_489 wq_189 wq_190 wq_2 wq_191) rfl rfl rfl (by decide +kernel) ⟨Nat.le_of_ble_eq_true rfl, Nat.le_of_ble_eq_true rfl⟩) hK hN hP hD (va_recv hK hP (ci := 1) (q0 := 17) rfl rfl) rfl hl.1 rfl (Nat.le_of_ble_eq_true rfl) d_H_isMoreSpecific_55 ⟨Nat.le_of_ble_eq_true rfl, Nat.le_of_ble_eq_true rfl⟩) hD hS hA (fun H locs hP hD hS => ?_)
    refine lv_if_ne (tgt := 63) hx hb d_H_isMoreSpecific_58 (by decide) (fun c_7 => ?_) (fun c_7 => ?_)
    · replace h := zz_f c_7 h
      refine lv_iinc (v := (v4 + (1 : Int32))) (lv' := [(4, .int (v4 + (1 : Int32))), (0, .ref (A 7)), (1, .int v1), (2, .int v2), (3, .int v3)]) hx hb d_H_isMoreSpecific_63 hl (k := 4) rfl rfl (by decide) rfl (fun ls hl => ?_)
      refine lv_goto (tgt := 25) hx hb d_H_isMoreSpecific_66 (by decide) ?_
      exact hG _ (Option.some.inj h).symm _ _ _ hP hD hS (lv_sub hl [1, 2, 3, 4, 0] rfl)
    · replace h := zz_t c_7 h
      exact hE _ (Option.some.inj h).symm _ _ _ hP hD hS hl

set_option maxRecDepth 100000 in
set_option maxHeartbeats 4000000 in
theorem k_H_isMoreSpecific (l : Launch) (z : zE) (A : Nat → Nat) (Rr : va_W) (n : Nat) (S : ZC) (a1 : Int32) (a2 : Int32) (r0 : Int32) (S' : ZC) (h : fx_H_isMoreSpecific n S a1 a2 = some (r0, S')) : zC z l y_H_isMoreSpecific w_H_isMoreSpecific rm_H_isMoreSpecific [.ref (A 7), .int a1, .int a2] (cw z A S ++ Rr) (some (.int r0)) (cw z A S' ++ Rr) := by
  refine zz_of (by decide) (Nat.le_of_ble_eq_true rfl) ?_
  intro p e s m args below meth c A0 ls hM hr hlocks hA hP hD hl
  have hM : zM z p s m args c b_H_isMoreSpecific 5 R_H := hM
  obtain ⟨hx, hb, hml, hown, hts, hK, hN⟩ := id hM
  have hS : va_S A0 s.heap s.heap [] := va_S.rf
  have hl : lv_has ls 5 [(0, .ref (A 7)), (1, .int a1), (2, .int a2)] := hl
  unfold fx_H_isMoreSpecific at h
  refine lv_aload_n hx hb d_H_isMoreSpecific_0 rfl (lv_at hl 0 rfl) ?_
  refine va_get (D := z.1) (ci := 3) (v := .ref (A 11)) (C := R_H) (T := F_H) (N := 8) hx hb hts i_H hown hK hP 7 rfl rfl 1 (by decide) (hts _ wq_97) (fun _ h9 => h9) rfl d_H_isMoreSpecific_1 ?_
  refine va_getN (D := z.1) (ci := 2) (v := .ref (A 14)) (C := R_M) (T := F_M) (N := 6) hx hb hts i_M hown hK hP 11 rfl rfl 2 (by decide) (zz_nf hN 7 rfl) (fun _ h9 => h9) rfl d_H_isMoreSpecific_4 ?_
  refine lv_iload_n hx hb d_H_isMoreSpecific_7 rfl (lv_at hl 1 rfl) ?_
  obtain ⟨c_1, h⟩ := zz_oob h
  refine va_iald hx hb hK hP 14 0 rfl rfl c_1 d_H_isMoreSpecific_8 ?_
  refine lv_aload_n hx hb d_H_isMoreSpecific_9 rfl (lv_at hl 0 rfl) ?_
  refine va_get (D := z.1) (ci := 3) (v := .ref (A 11)) (C := R_H) (T := F_H) (N := 8) hx hb hts i_H hown hK hP 7 rfl rfl 1 (by decide) (hts _ wq_97) (fun _ h9 => h9) rfl d_H_isMoreSpecific_10 ?_
  refine va_getN (D := z.1) (ci := 2) (v := .ref (A 14)) (C := R_M) (T := F_M) (N := 6) hx hb hts i_M hown hK hP 11 rfl rfl 2 (by decide) (zz_nf hN 7 rfl) (fun _ h9 => h9) rfl d_H_isMoreSpecific_13 ?_
  refine lv_iload_n hx hb d_H_isMoreSpecific_16 rfl (lv_at hl 2 rfl) ?_
  obtain ⟨c_2, h⟩ := zz_oob h
  refine va_iald hx hb hK hP 14 0 rfl rfl c_2 d_H_isMoreSpecific_17 ?_
  refine va_mmax hx hb (hml.trans hl.1.symm) hown (hts _ wq_502) (hts _ wq_503) (hts _ wq_12) (hts _ wq_504) (Nat.le_of_ble_eq_true rfl) (Nat.le_of_ble_eq_true rfl) (Nat.le_of_ble_eq_true rfl) (Nat.le_of_ble_eq_true rfl) d_H_isMoreSpecific_18 ?_
  refine lv_istore_n (lv' := [(3, .int (if ((mSz S) a1.toNatClampNeg) < ((mSz S) a2.toNatClampNeg) then ((mSz S) a2.toNatClampNeg) else ((mSz S) a1.toNatClampNeg))), (0, .ref (A 7)), (1, .int a1), (2, .int a2)]) hx hb d_H_isMoreSpecific_21 rfl hl (by decide) rfl (fun ls hl => ?_)
  refine lv_iconst (v := 0) hx hb d_H_isMoreSpecific_22 (by decide) ?_
  refine lv_istore (lv' := [(4, .int (0 : Int32)), (3, .int (if ((mSz S) a1.toNatClampNeg) < ((mSz S) a2.toNatClampNeg) then ((mSz S) a2.toNatClampNeg) else ((mSz S) a1.toNatClampNeg))), (0, .ref (A 7)), (1, .int a1), (2, .int a2)]) hx hb d_H_isMoreSpecific_23 hl (by decide) rfl (fun ls hl => ?_)
  replace h := zz_bL2 h
  obtain ⟨x_8, v4_8, S_8, e_8, h⟩ := h
  refine lp_H_isMoreSpecific_L25 hM hA n a1 a2 (if ((mSz S) a1.toNatClampNeg) < ((mSz S) a2.toNatClampNeg) then ((mSz S) a2.toNatClampNeg) else ((mSz S) a1.toNatClampNeg)) _ _ _ e_8 ?_ _ _ _ hP hD hS (lv_sub hl [2, 3, 4, 1, 0] rfl)
  intro H locs ls hP hD hS hl
  have hl : lv_has ls 5 [(0, .ref (A 7)), (1, .int a1), (2, .int a2), (3, .int (if ((mSz S) a1.toNatClampNeg) < ((mSz S) a2.toNatClampNeg) then ((mSz S) a2.toNatClampNeg) else ((mSz S) a1.toNatClampNeg))), (4, .int v4_8)] := hl
  have hP : va_P z.1 vwCl (cw z A S_8 ++ Rr) H := hP
  have hD : va_D A0 (cw z A S_8 ++ Rr) := hD
  by_cases c_8 : x_8 = 61
  · replace h := zz_t c_8 h
    subst c_8
    refine W.eq (g2 := F0 m 61 ls []) rfl ?_
    refine lv_iconst (v := 0) hx hb d_H_isMoreSpecific_61 (by decide) ?_
    exact zz_zret (fun S => cw z A S ++ Rr) hx hb hr hlocks hP hD hS rfl h d_H_isMoreSpecific_62
  replace h := zz_f c_8 h
  replace h := zz_grd h
  obtain ⟨c_8, h⟩ := h
  subst c_8
  refine W.eq (g2 := F0 m 69 ls []) rfl ?_
  refine lv_iconst (v := 1) hx hb d_H_isMoreSpecific_69 (by decide) ?_
  exact zz_zret (fun S => cw z A S ++ Rr) hx hb hr hlocks hP hD hS rfl h d_H_isMoreSpecific_70

abbrev b_H_isMoreSpecificThanAll : ByteArray := prog_2_method_13_code
abbrev y_H_isMoreSpecificThanAll : MethodName := ⟨"MemberChooser$Chooser", "isMoreSpecificThanAll", "(I)Z"⟩
abbrev w_H_isMoreSpecificThanAll : List Cond := Cond.code y_H_isMoreSpecificThanAll b_H_isMoreSpecificThanAll 3 (some .boolean) :: zTb
theorem d_H_isMoreSpecificThanAll_0 : decode b_H_isMoreSpecificThanAll 0 = .ok (.iconst 0, 1) := by decide +kernel
theorem d_H_isMoreSpecificThanAll_1 : decode b_H_isMoreSpecificThanAll 1 = .ok (.istore_n 2, 1) := by decide +kernel
theorem d_H_isMoreSpecificThanAll_2 : decode b_H_isMoreSpecificThanAll 2 = .ok (.iload_n 2, 1) := by decide +kernel
theorem d_H_isMoreSpecificThanAll_3 : decode b_H_isMoreSpecificThanAll 3 = .ok (.aload_n 0, 1) := by decide +kernel
theorem d_H_isMoreSpecificThanAll_4 : decode b_H_isMoreSpecificThanAll 4 = .ok (.getfield 37, 3) := by decide +kernel
theorem d_H_isMoreSpecificThanAll_7 : decode b_H_isMoreSpecificThanAll 7 = .ok (.if_icmp .ge 35, 3) := by decide +kernel
theorem d_H_isMoreSpecificThanAll_10 : decode b_H_isMoreSpecificThanAll 10 = .ok (.aload_n 0, 1) := by decide +kernel
theorem d_H_isMoreSpecificThanAll_11 : decode b_H_isMoreSpecificThanAll 11 = .ok (.getfield 30, 3) := by decide +kernel
theorem d_H_isMoreSpecificThanAll_14 : decode b_H_isMoreSpecificThanAll 14 = .ok (.iload_n 2, 1) := by decide +kernel
theorem d_H_isMoreSpecificThanAll_15 : decode b_H_isMoreSpecificThanAll 15 = .ok (.iaload, 1) := by decide +kernel
theorem d_H_isMoreSpecificThanAll_16 : decode b_H_isMoreSpecificThanAll 16 = .ok (.iload_n 1, 1) := by decide +kernel
theorem d_H_isMoreSpecificThanAll_17 : decode b_H_isMoreSpecificThanAll 17 = .ok (.if_icmp .eq 19, 3) := by decide +kernel
theorem d_H_isMoreSpecificThanAll_20 : decode b_H_isMoreSpecificThanAll 20 = .ok (.aload_n 0, 1) := by decide +kernel
theorem d_H_isMoreSpecificThanAll_21 : decode b_H_isMoreSpecificThanAll 21 = .ok (.iload_n 1, 1) := by decide +kernel
theorem d_H_isMoreSpecificThanAll_22 : decode b_H_isMoreSpecificThanAll 22 = .ok (.aload_n 0, 1) := by decide +kernel
theorem d_H_isMoreSpecificThanAll_23 : decode b_H_isMoreSpecificThanAll 23 = .ok (.getfield 30, 3) := by decide +kernel
theorem d_H_isMoreSpecificThanAll_26 : decode b_H_isMoreSpecificThanAll 26 = .ok (.iload_n 2, 1) := by decide +kernel
theorem d_H_isMoreSpecificThanAll_27 : decode b_H_isMoreSpecificThanAll 27 = .ok (.iaload, 1) := by decide +kernel
theorem d_H_isMoreSpecificThanAll_28 : decode b_H_isMoreSpecificThanAll 28 = .ok (.invokevirtual 114, 3) := by decide +kernel
theorem d_H_isMoreSpecificThanAll_31 : decode b_H_isMoreSpecificThanAll 31 = .ok (.ifCond .ne 5, 3) := by decide +kernel
theorem d_H_isMoreSpecificThanAll_34 : decode b_H_isMoreSpecificThanAll 34 = .ok (.iconst 0, 1) := by decide +kernel
theorem d_H_isMoreSpecificThanAll_35 : decode b_H_isMoreSpecificThanAll 35 = .ok (.ireturn, 1) := by decide +kernel
theorem d_H_isMoreSpecificThanAll_36 : decode b_H_isMoreSpecificThanAll 36 = .ok (.iinc 2 1, 3) := by decide +kernel
theorem d_H_isMoreSpecificThanAll_39 : decode b_H_isMoreSpecificThanAll 39 = .ok (.goto (-37), 3) := by decide +kernel
theorem d_H_isMoreSpecificThanAll_42 : decode b_H_isMoreSpecificThanAll 42 = .ok (.iconst 1, 1) := by decide +kernel
theorem d_H_isMoreSpecificThanAll_43 : decode b_H_isMoreSpecificThanAll 43 = .ok (.ireturn, 1) := by decide +kernel
abbrev rm_H_isMoreSpecificThanAll : Room := { frames := 3, cells := 0, slots := 0, locals := 68 }
def st_H_isMoreSpecificThanAll_L2 (n : Nat) (v1 : Int32) (v2 : Int32) (S : ZC) : Option ((Int32 × ZC) ⊕ (Nat × Int32 × ZC)) :=
  (if (hFc S) ≤ v2 then
  some (.inr (42, v2, S))
  else
  (if zoob v2 80 then none else
    (if ((hFi S) v2.toNatClampNeg) = v1 then
    some (.inl ((v2 + (1 : Int32)), S))
    else
    (if zoob v2 80 then none else
      zbind (fx_H_isMoreSpecific n S v1 ((hFi S) v2.toNatClampNeg)) (fun r_5 S_5 =>
      (if r_5 = 0 then
      some (.inr (34, v2, S_5))
      else
      some (.inl ((v2 + (1 : Int32)), S_5))))))))

def fx_H_isMoreSpecificThanAll_L2 (n : Nat) (v1 : Int32) (v2 : Int32) (S : ZC) : Option (Nat × Int32 × ZC) := zloop (fun (st : Int32 × ZC) => st_H_isMoreSpecificThanAll_L2 n v1 st.1 st.2) n (v2, S)

def fx_H_isMoreSpecificThanAll (n : Nat) (S : ZC) (a1 : Int32) : Option (Int32 × ZC) :=
  zbL2 (fx_H_isMoreSpecificThanAll_L2 n a1 (0 : Int32) S) (fun x_7 v2_7 S_7 =>
  if x_7 = 34 then
  some ((0 : Int32), S_7)
  else if x_7 = 42 then
  some ((1 : Int32), S_7)
  else none)

set_option maxRecDepth 100000 in
set_option maxHeartbeats 4000000 in
theorem lp_H_isMoreSpecificThanAll_L2 {z : zE} {A : Nat → Nat} {Rr : va_W} {p : Program} {l : Launch} {e : Env} {s : State} {m : MethodId} {args : Array Value} {below : List Frame} {meth : Method} {c : Code} {Q : State → Prop} {H0 : Heap} {A0 : Nat → Prop} (hM : zM z p s m args c b_H_isMoreSpecificThanAll 3 R_H) (hA : ∀ q : Nat, H0.size ≤ q → A0 q) (n : Nat) (v1 : Int32) :
    ∀ (v2 : Int32) (S : ZC) (r : Nat × Int32 × ZC), fx_H_isMoreSpecificThanAll_L2 n v1 v2 S = some r → (∀ (H : Heap) (locs : List Loc) (ls : Array Slot), va_P z.1 vwCl (cw z A r.2.2 ++ Rr) H → va_D A0 (cw z A r.2.2 ++ Rr) → va_S A0 H0 H locs → lv_has ls 3 [(0, .ref (A 7)), (1, .int v1), (2, .int r.2.1)] → W p l e rm_H_isMoreSpecificThanAll s m args below meth c H locs 0 0 Q (F0 m r.1 ls [])) →
    ∀ (H : Heap) (locs : List Loc) (ls : Array Slot), va_P z.1 vwCl (cw z A S ++ Rr) H → va_D A0 (cw z A S ++ Rr) → va_S A0 H0 H locs → lv_has ls 3 [(0, .ref (A 7)), (1, .int v1), (2, .int v2)] → W p l e rm_H_isMoreSpecificThanAll s m args below meth c H locs 0 0 Q (F0 m 2 ls []) := by
  obtain ⟨hx, hb, hml, hown, hts, hK, hN⟩ := id hM
  intro v2 S r h hE
  refine zz_loop (G := fun (st : Int32 × ZC) => ∀ (H : Heap) (locs : List Loc) (ls : Array Slot), va_P z.1 vwCl (cw z A st.2 ++ Rr) H → va_D A0 (cw z A st.2 ++ Rr) → va_S A0 H0 H locs → lv_has ls 3 [(0, .ref (A 7)), (1, .int v1), (2, .int st.1)] → W p l e rm_H_isMoreSpecificThanAll s m args below meth c H locs 0 0 Q (F0 m 2 ls [])) (E := fun (r : Nat × Int32 × ZC) => ∀ (H : Heap) (locs : List Loc) (ls : Array Slot), va_P z.1 vwCl (cw z A r.2.2 ++ Rr) H → va_D A0 (cw z A r.2.2 ++ Rr) → va_S A0 H0 H locs → lv_has ls 3 [(0, .ref (A 7)), (1, .int v1), (2, .int r.2.1)] → W p l e rm_H_isMoreSpecificThanAll s m args below meth c H locs 0 0 Q (F0 m r.1 ls [])) ?_ n (v2, S) r h hE
  clear h hE r v2 S
  rintro ⟨v2, S⟩ o h hG hE H locs ls hP hD hS hl
  have h : st_H_isMoreSpecificThanAll_L2 n v1 v2 S = some o := h
  have hl : lv_has ls 3 [(0, .ref (A 7)), (1, .int v1), (2, .int v2)] := hl
  have hP : va_P z.1 vwCl (cw z A S ++ Rr) H := hP
  have hD : va_D A0 (cw z A S ++ Rr) := hD
  unfold st_H_isMoreSpecificThanAll_L2 at h
  refine lv_iload_n hx hb d_H_isMoreSpecificThanAll_2 rfl (lv_at hl 2 rfl) ?_
  refine lv_aload_n hx hb d_H_isMoreSpecificThanAll_3 rfl (lv_at hl 0 rfl) ?_
  refine va_get (D := z.1) (ci := 3) (v := .int (hFc S)) (C := R_H) (T := F_H) (N := 8) hx hb hts i_H hown hK hP 7 rfl rfl 6 (by decide) (hts _ wq_102) (fun _ h9 => h9) rfl d_H_isMoreSpecificThanAll_4 ?_
  refine lv_icmp_ge (tgt := 42) hx hb d_H_isMoreSpecificThanAll_7 (by decide) (fun c_1 => ?_) (fun c_1 => ?_)
  · replace h := zz_t c_1 h
    exact hE _ (Option.some.inj h).symm _ _ _ hP hD hS hl
  · replace h := zz_f c_1 h
    refine lv_aload_n hx hb d_H_isMoreSpecificThanAll_10 rfl (lv_at hl 0 rfl) ?_
    refine va_get (D := z.1) (ci := 3) (v := .ref (A 10)) (C := R_H) (T := F_H) (N := 8) hx hb hts i_H hown hK hP 7 rfl rfl 4 (by decide) (hts _ wq_100) (fun _ h9 => h9) rfl d_H_isMoreSpecificThanAll_11 ?_
    refine lv_iload_n hx hb d_H_isMoreSpecificThanAll_14 rfl (lv_at hl 2 rfl) ?_
    obtain ⟨c_2, h⟩ := zz_oob h
    refine va_iald hx hb hK hP 10 0 rfl rfl c_2 d_H_isMoreSpecificThanAll_15 ?_
    refine lv_iload_n hx hb d_H_isMoreSpecificThanAll_16 rfl (lv_at hl 1 rfl) ?_
    refine lv_icmp_eq (tgt := 36) hx hb d_H_isMoreSpecificThanAll_17 (by decide) (fun c_3 => ?_) (fun c_3 => ?_)
    · replace h := zz_t c_3 h
      refine lv_iinc (v := (v2 + (1 : Int32))) (lv' := [(2, .int (v2 + (1 : Int32))), (0, .ref (A 7)), (1, .int v1)]) hx hb d_H_isMoreSpecificThanAll_36 hl (k := 2) rfl rfl (by decide) rfl (fun ls hl => ?_)
      refine lv_goto (tgt := 2) hx hb d_H_isMoreSpecificThanAll_39 (by decide) ?_
      exact hG _ (Option.some.inj h).symm _ _ _ hP hD hS (lv_sub hl [1, 2, 0] rfl)
    · replace h := zz_f c_3 h
      refine lv_aload_n hx hb d_H_isMoreSpecificThanAll_20 rfl (lv_at hl 0 rfl) ?_
      refine lv_iload_n hx hb d_H_isMoreSpecificThanAll_21 rfl (lv_at hl 1 rfl) ?_
      refine lv_aload_n hx hb d_H_isMoreSpecificThanAll_22 rfl (lv_at hl 0 rfl) ?_
      refine va_get (D := z.1) (ci := 3) (v := .ref (A 10)) (C := R_H) (T := F_H) (N := 8) hx hb hts i_H hown hK hP 7 rfl rfl 4 (by decide) (hts _ wq_100) (fun _ h9 => h9) rfl d_H_isMoreSpecificThanAll_23 ?_
      refine lv_iload_n hx hb d_H_isMoreSpecificThanAll_26 rfl (lv_at hl 2 rfl) ?_
      obtain ⟨c_4, h⟩ := zz_oob h
      refine va_iald hx hb hK hP 10 0 rfl rfl c_4 d_H_isMoreSpecificThanAll_27 ?_
      obtain ⟨r_5, S_5, e_5, h⟩ := zz_bind h
      refine zz_goI (zz_runV (As := [.int v1, .int ((hFi S) v2.toNatClampNeg)]) (rest := []) (k_H_isMoreSpecific l z A Rr n _ _ _ _ _ e_5) ⟨hx, hb, hml, hown, hts⟩ (cwV 2 hts (zz_gV wq_498 wq_500 wp_16 wq_4 wq_501) rfl rfl rfl (by decide +kernel) ⟨Nat.le_of_ble_eq_true rfl, Nat.le_of_ble_eq_true rfl⟩) hK hN hP hD (va_recv hK hP (ci := 3) (q0 := 7) rfl rfl) rfl hl.1 rfl (Nat.le_of_ble_eq_true rfl) d_H_isMoreSpecificThanAll_28 ⟨Nat.le_of_ble_eq_true rfl, Nat.le_of_ble_eq_true rfl⟩) hD hS hA (fun H locs hP hD hS => ?_)
      refine lv_if_ne (tgt := 36) hx hb d_H_isMoreSpecificThanAll_31 (by decide) (fun c_6 => ?_) (fun c_6 => ?_)
      · replace h := zz_f c_6 h
        refine lv_iinc (v := (v2 + (1 : Int32))) (lv' := [(2, .int (v2 + (1 : Int32))), (0, .ref (A 7)), (1, .int v1)]) hx hb d_H_isMoreSpecificThanAll_36 hl (k := 2) rfl rfl (by decide) rfl (fun ls hl => ?_)
        refine lv_goto (tgt := 2) hx hb d_H_isMoreSpecificThanAll_39 (by decide) ?_
        exact hG _ (Option.some.inj h).symm _ _ _ hP hD hS (lv_sub hl [1, 2, 0] rfl)
      · replace h := zz_t c_6 h
        exact hE _ (Option.some.inj h).symm _ _ _ hP hD hS hl

set_option maxRecDepth 100000 in
set_option maxHeartbeats 4000000 in
theorem k_H_isMoreSpecificThanAll (l : Launch) (z : zE) (A : Nat → Nat) (Rr : va_W) (n : Nat) (S : ZC) (a1 : Int32) (r0 : Int32) (S' : ZC) (h : fx_H_isMoreSpecificThanAll n S a1 = some (r0, S')) : zC z l y_H_isMoreSpecificThanAll w_H_isMoreSpecificThanAll rm_H_isMoreSpecificThanAll [.ref (A 7), .int a1] (cw z A S ++ Rr) (some (.int r0)) (cw z A S' ++ Rr) := by
  refine zz_of (by decide) (Nat.le_of_ble_eq_true rfl) ?_
  intro p e s m args below meth c A0 ls hM hr hlocks hA hP hD hl
  have hM : zM z p s m args c b_H_isMoreSpecificThanAll 3 R_H := hM
  obtain ⟨hx, hb, hml, hown, hts, hK, hN⟩ := id hM
  have hS : va_S A0 s.heap s.heap [] := va_S.rf
  have hl : lv_has ls 3 [(0, .ref (A 7)), (1, .int a1)] := hl
  unfold fx_H_isMoreSpecificThanAll at h
  refine lv_iconst (v := 0) hx hb d_H_isMoreSpecificThanAll_0 (by decide) ?_
  refine lv_istore_n (lv' := [(2, .int (0 : Int32)), (0, .ref (A 7)), (1, .int a1)]) hx hb d_H_isMoreSpecificThanAll_1 rfl hl (by decide) rfl (fun ls hl => ?_)
  replace h := zz_bL2 h
  obtain ⟨x_7, v2_7, S_7, e_7, h⟩ := h
  refine lp_H_isMoreSpecificThanAll_L2 hM hA n a1 _ _ _ e_7 ?_ _ _ _ hP hD hS (lv_sub hl [1, 2, 0] rfl)
  intro H locs ls hP hD hS hl
  have hl : lv_has ls 3 [(0, .ref (A 7)), (1, .int a1), (2, .int v2_7)] := hl
  have hP : va_P z.1 vwCl (cw z A S_7 ++ Rr) H := hP
  have hD : va_D A0 (cw z A S_7 ++ Rr) := hD
  by_cases c_7 : x_7 = 34
  · replace h := zz_t c_7 h
    subst c_7
    refine W.eq (g2 := F0 m 34 ls []) rfl ?_
    refine lv_iconst (v := 0) hx hb d_H_isMoreSpecificThanAll_34 (by decide) ?_
    exact zz_zret (fun S => cw z A S ++ Rr) hx hb hr hlocks hP hD hS rfl h d_H_isMoreSpecificThanAll_35
  replace h := zz_f c_7 h
  replace h := zz_grd h
  obtain ⟨c_7, h⟩ := h
  subst c_7
  refine W.eq (g2 := F0 m 42 ls []) rfl ?_
  refine lv_iconst (v := 1) hx hb d_H_isMoreSpecificThanAll_42 (by decide) ?_
  exact zz_zret (fun S => cw z A S ++ Rr) hx hb hr hlocks hP hD hS rfl h d_H_isMoreSpecificThanAll_43

abbrev b_H_mostSpecific : ByteArray := prog_2_method_12_code
abbrev y_H_mostSpecific : MethodName := ⟨"MemberChooser$Chooser", "mostSpecific", "()I"⟩
abbrev w_H_mostSpecific : List Cond := Cond.code y_H_mostSpecific b_H_mostSpecific 3 (some .int) :: zTb
theorem d_H_mostSpecific_0 : decode b_H_mostSpecific 0 = .ok (.bipush (-2), 2) := by decide +kernel
theorem d_H_mostSpecific_2 : decode b_H_mostSpecific 2 = .ok (.istore_n 1, 1) := by decide +kernel
theorem d_H_mostSpecific_3 : decode b_H_mostSpecific 3 = .ok (.iconst 0, 1) := by decide +kernel
theorem d_H_mostSpecific_4 : decode b_H_mostSpecific 4 = .ok (.istore_n 2, 1) := by decide +kernel
theorem d_H_mostSpecific_5 : decode b_H_mostSpecific 5 = .ok (.iload_n 2, 1) := by decide +kernel
theorem d_H_mostSpecific_6 : decode b_H_mostSpecific 6 = .ok (.aload_n 0, 1) := by decide +kernel
theorem d_H_mostSpecific_7 : decode b_H_mostSpecific 7 = .ok (.getfield 37, 3) := by decide +kernel
theorem d_H_mostSpecific_10 : decode b_H_mostSpecific 10 = .ok (.if_icmp .ge 38, 3) := by decide +kernel
theorem d_H_mostSpecific_13 : decode b_H_mostSpecific 13 = .ok (.aload_n 0, 1) := by decide +kernel
theorem d_H_mostSpecific_14 : decode b_H_mostSpecific 14 = .ok (.aload_n 0, 1) := by decide +kernel
theorem d_H_mostSpecific_15 : decode b_H_mostSpecific 15 = .ok (.getfield 30, 3) := by decide +kernel
theorem d_H_mostSpecific_18 : decode b_H_mostSpecific 18 = .ok (.iload_n 2, 1) := by decide +kernel
theorem d_H_mostSpecific_19 : decode b_H_mostSpecific 19 = .ok (.iaload, 1) := by decide +kernel
theorem d_H_mostSpecific_20 : decode b_H_mostSpecific 20 = .ok (.invokevirtual 111, 3) := by decide +kernel
theorem d_H_mostSpecific_23 : decode b_H_mostSpecific 23 = .ok (.ifCond .eq 19, 3) := by decide +kernel
theorem d_H_mostSpecific_26 : decode b_H_mostSpecific 26 = .ok (.iload_n 1, 1) := by decide +kernel
theorem d_H_mostSpecific_27 : decode b_H_mostSpecific 27 = .ok (.bipush (-2), 2) := by decide +kernel
theorem d_H_mostSpecific_29 : decode b_H_mostSpecific 29 = .ok (.if_icmp .eq 6, 3) := by decide +kernel
theorem d_H_mostSpecific_32 : decode b_H_mostSpecific 32 = .ok (.bipush (-2), 2) := by decide +kernel
theorem d_H_mostSpecific_34 : decode b_H_mostSpecific 34 = .ok (.ireturn, 1) := by decide +kernel
theorem d_H_mostSpecific_35 : decode b_H_mostSpecific 35 = .ok (.aload_n 0, 1) := by decide +kernel
theorem d_H_mostSpecific_36 : decode b_H_mostSpecific 36 = .ok (.getfield 30, 3) := by decide +kernel
theorem d_H_mostSpecific_39 : decode b_H_mostSpecific 39 = .ok (.iload_n 2, 1) := by decide +kernel
theorem d_H_mostSpecific_40 : decode b_H_mostSpecific 40 = .ok (.iaload, 1) := by decide +kernel
theorem d_H_mostSpecific_41 : decode b_H_mostSpecific 41 = .ok (.istore_n 1, 1) := by decide +kernel
theorem d_H_mostSpecific_42 : decode b_H_mostSpecific 42 = .ok (.iinc 2 1, 3) := by decide +kernel
theorem d_H_mostSpecific_45 : decode b_H_mostSpecific 45 = .ok (.goto (-40), 3) := by decide +kernel
theorem d_H_mostSpecific_48 : decode b_H_mostSpecific 48 = .ok (.iload_n 1, 1) := by decide +kernel
theorem d_H_mostSpecific_49 : decode b_H_mostSpecific 49 = .ok (.ireturn, 1) := by decide +kernel
abbrev rm_H_mostSpecific : Room := { frames := 4, cells := 0, slots := 0, locals := 90 }
def st_H_mostSpecific_L5 (n : Nat)  (v1 : Int32) (v2 : Int32) (S : ZC) : Option ((Int32 × Int32 × ZC) ⊕ (Nat × Int32 × Int32 × ZC)) :=
  (if (hFc S) ≤ v2 then
  some (.inr (48, v1, v2, S))
  else
  (if zoob v2 80 then none else
    zbind (fx_H_isMoreSpecificThanAll n S ((hFi S) v2.toNatClampNeg)) (fun r_3 S_3 =>
    (if r_3 = 0 then
    some (.inl (v1, (v2 + (1 : Int32)), S_3))
    else
    (if v1 = (-2 : Int32) then
      (if zoob v2 80 then none else
        some (.inl (((hFi S_3) v2.toNatClampNeg), (v2 + (1 : Int32)), S_3)))
      else
      some (.inr (32, v1, v2, S_3)))))))

def fx_H_mostSpecific_L5 (n : Nat)  (v1 : Int32) (v2 : Int32) (S : ZC) : Option (Nat × Int32 × Int32 × ZC) := zloop (fun (st : Int32 × Int32 × ZC) => st_H_mostSpecific_L5 n st.1 st.2.1 st.2.2) n (v1, v2, S)

def fx_H_mostSpecific (n : Nat) (S : ZC) : Option (Int32 × ZC) :=
  zbL3 (fx_H_mostSpecific_L5 n (-2 : Int32) (0 : Int32) S) (fun x_7 v1_7 v2_7 S_7 =>
  if x_7 = 32 then
  some ((-2 : Int32), S_7)
  else if x_7 = 48 then
  some (v1_7, S_7)
  else none)

set_option maxRecDepth 100000 in
set_option maxHeartbeats 4000000 in
theorem lp_H_mostSpecific_L5 {z : zE} {A : Nat → Nat} {Rr : va_W} {p : Program} {l : Launch} {e : Env} {s : State} {m : MethodId} {args : Array Value} {below : List Frame} {meth : Method} {c : Code} {Q : State → Prop} {H0 : Heap} {A0 : Nat → Prop} (hM : zM z p s m args c b_H_mostSpecific 3 R_H) (hA : ∀ q : Nat, H0.size ≤ q → A0 q) (n : Nat) :
    ∀ (v1 : Int32) (v2 : Int32) (S : ZC) (r : Nat × Int32 × Int32 × ZC), fx_H_mostSpecific_L5 n v1 v2 S = some r → (∀ (H : Heap) (locs : List Loc) (ls : Array Slot), va_P z.1 vwCl (cw z A r.2.2.2 ++ Rr) H → va_D A0 (cw z A r.2.2.2 ++ Rr) → va_S A0 H0 H locs → lv_has ls 3 [(0, .ref (A 7)), (1, .int r.2.1), (2, .int r.2.2.1)] → W p l e rm_H_mostSpecific s m args below meth c H locs 0 0 Q (F0 m r.1 ls [])) →
    ∀ (H : Heap) (locs : List Loc) (ls : Array Slot), va_P z.1 vwCl (cw z A S ++ Rr) H → va_D A0 (cw z A S ++ Rr) → va_S A0 H0 H locs → lv_has ls 3 [(0, .ref (A 7)), (1, .int v1), (2, .int v2)] → W p l e rm_H_mostSpecific s m args below meth c H locs 0 0 Q (F0 m 5 ls []) := by
  obtain ⟨hx, hb, hml, hown, hts, hK, hN⟩ := id hM
  intro v1 v2 S r h hE
  refine zz_loop (G := fun (st : Int32 × Int32 × ZC) => ∀ (H : Heap) (locs : List Loc) (ls : Array Slot), va_P z.1 vwCl (cw z A st.2.2 ++ Rr) H → va_D A0 (cw z A st.2.2 ++ Rr) → va_S A0 H0 H locs → lv_has ls 3 [(0, .ref (A 7)), (1, .int st.1), (2, .int st.2.1)] → W p l e rm_H_mostSpecific s m args below meth c H locs 0 0 Q (F0 m 5 ls [])) (E := fun (r : Nat × Int32 × Int32 × ZC) => ∀ (H : Heap) (locs : List Loc) (ls : Array Slot), va_P z.1 vwCl (cw z A r.2.2.2 ++ Rr) H → va_D A0 (cw z A r.2.2.2 ++ Rr) → va_S A0 H0 H locs → lv_has ls 3 [(0, .ref (A 7)), (1, .int r.2.1), (2, .int r.2.2.1)] → W p l e rm_H_mostSpecific s m args below meth c H locs 0 0 Q (F0 m r.1 ls [])) ?_ n (v1, v2, S) r h hE
  clear h hE r v1 v2 S
  rintro ⟨v1, v2, S⟩ o h hG hE H locs ls hP hD hS hl
  have h : st_H_mostSpecific_L5 n v1 v2 S = some o := h
  have hl : lv_has ls 3 [(0, .ref (A 7)), (1, .int v1), (2, .int v2)] := hl
  have hP : va_P z.1 vwCl (cw z A S ++ Rr) H := hP
  have hD : va_D A0 (cw z A S ++ Rr) := hD
  unfold st_H_mostSpecific_L5 at h
  refine lv_iload_n hx hb d_H_mostSpecific_5 rfl (lv_at hl 2 rfl) ?_
  refine lv_aload_n hx hb d_H_mostSpecific_6 rfl (lv_at hl 0 rfl) ?_
  refine va_get (D := z.1) (ci := 3) (v := .int (hFc S)) (C := R_H) (T := F_H) (N := 8) hx hb hts i_H hown hK hP 7 rfl rfl 6 (by decide) (hts _ wq_102) (fun _ h9 => h9) rfl d_H_mostSpecific_7 ?_
  refine lv_icmp_ge (tgt := 48) hx hb d_H_mostSpecific_10 (by decide) (fun c_1 => ?_) (fun c_1 => ?_)
  · replace h := zz_t c_1 h
    exact hE _ (Option.some.inj h).symm _ _ _ hP hD hS hl
  · replace h := zz_f c_1 h
    refine lv_aload_n hx hb d_H_mostSpecific_13 rfl (lv_at hl 0 rfl) ?_
    refine lv_aload_n hx hb d_H_mostSpecific_14 rfl (lv_at hl 0 rfl) ?_
    refine va_get (D := z.1) (ci := 3) (v := .ref (A 10)) (C := R_H) (T := F_H) (N := 8) hx hb hts i_H hown hK hP 7 rfl rfl 4 (by decide) (hts _ wq_100) (fun _ h9 => h9) rfl d_H_mostSpecific_15 ?_
    refine lv_iload_n hx hb d_H_mostSpecific_18 rfl (lv_at hl 2 rfl) ?_
    obtain ⟨c_2, h⟩ := zz_oob h
    refine va_iald hx hb hK hP 10 0 rfl rfl c_2 d_H_mostSpecific_19 ?_
    obtain ⟨r_3, S_3, e_3, h⟩ := zz_bind h
    refine zz_goI (zz_runV (As := [.int ((hFi S) v2.toNatClampNeg)]) (rest := []) (k_H_isMoreSpecificThanAll l z A Rr n _ _ _ _ e_3) ⟨hx, hb, hml, hown, hts⟩ (cwV 1 hts (zz_gV wq_494 wq_496 wp_15 wq_4 wq_497) rfl rfl rfl (by decide +kernel) ⟨Nat.le_of_ble_eq_true rfl, Nat.le_of_ble_eq_true rfl⟩) hK hN hP hD (va_recv hK hP (ci := 3) (q0 := 7) rfl rfl) rfl hl.1 rfl (Nat.le_of_ble_eq_true rfl) d_H_mostSpecific_20 ⟨Nat.le_of_ble_eq_true rfl, Nat.le_of_ble_eq_true rfl⟩) hD hS hA (fun H locs hP hD hS => ?_)
    refine lv_if_eq (tgt := 42) hx hb d_H_mostSpecific_23 (by decide) (fun c_4 => ?_) (fun c_4 => ?_)
    · replace h := zz_t c_4 h
      refine lv_iinc (v := (v2 + (1 : Int32))) (lv' := [(2, .int (v2 + (1 : Int32))), (0, .ref (A 7)), (1, .int v1)]) hx hb d_H_mostSpecific_42 hl (k := 2) rfl rfl (by decide) rfl (fun ls hl => ?_)
      refine lv_goto (tgt := 5) hx hb d_H_mostSpecific_45 (by decide) ?_
      exact hG _ (Option.some.inj h).symm _ _ _ hP hD hS (lv_sub hl [1, 2, 0] rfl)
    · replace h := zz_f c_4 h
      refine lv_iload_n hx hb d_H_mostSpecific_26 rfl (lv_at hl 1 rfl) ?_
      refine lv_bipush (v := -2) hx hb d_H_mostSpecific_27 (by decide) ?_
      refine lv_icmp_eq (tgt := 35) hx hb d_H_mostSpecific_29 (by decide) (fun c_5 => ?_) (fun c_5 => ?_)
      · replace h := zz_t c_5 h
        refine lv_aload_n hx hb d_H_mostSpecific_35 rfl (lv_at hl 0 rfl) ?_
        refine va_get (D := z.1) (ci := 3) (v := .ref (A 10)) (C := R_H) (T := F_H) (N := 8) hx hb hts i_H hown hK hP 7 rfl rfl 4 (by decide) (hts _ wq_100) (fun _ h9 => h9) rfl d_H_mostSpecific_36 ?_
        refine lv_iload_n hx hb d_H_mostSpecific_39 rfl (lv_at hl 2 rfl) ?_
        obtain ⟨c_6, h⟩ := zz_oob h
        refine va_iald hx hb hK hP 10 0 rfl rfl c_6 d_H_mostSpecific_40 ?_
        refine lv_istore_n (lv' := [(1, .int ((hFi S_3) v2.toNatClampNeg)), (0, .ref (A 7)), (2, .int v2)]) hx hb d_H_mostSpecific_41 rfl hl (by decide) rfl (fun ls hl => ?_)
        refine lv_iinc (v := (v2 + (1 : Int32))) (lv' := [(2, .int (v2 + (1 : Int32))), (1, .int ((hFi S_3) v2.toNatClampNeg)), (0, .ref (A 7))]) hx hb d_H_mostSpecific_42 hl (k := 2) rfl rfl (by decide) rfl (fun ls hl => ?_)
        refine lv_goto (tgt := 5) hx hb d_H_mostSpecific_45 (by decide) ?_
        exact hG _ (Option.some.inj h).symm _ _ _ hP hD hS (lv_sub hl [2, 1, 0] rfl)
      · replace h := zz_f c_5 h
        exact hE _ (Option.some.inj h).symm _ _ _ hP hD hS hl

set_option maxRecDepth 100000 in
set_option maxHeartbeats 4000000 in
theorem k_H_mostSpecific (l : Launch) (z : zE) (A : Nat → Nat) (Rr : va_W) (n : Nat) (S : ZC) (r0 : Int32) (S' : ZC) (h : fx_H_mostSpecific n S  = some (r0, S')) : zC z l y_H_mostSpecific w_H_mostSpecific rm_H_mostSpecific [.ref (A 7)] (cw z A S ++ Rr) (some (.int r0)) (cw z A S' ++ Rr) := by
  refine zz_of (by decide) (Nat.le_of_ble_eq_true rfl) ?_
  intro p e s m args below meth c A0 ls hM hr hlocks hA hP hD hl
  have hM : zM z p s m args c b_H_mostSpecific 3 R_H := hM
  obtain ⟨hx, hb, hml, hown, hts, hK, hN⟩ := id hM
  have hS : va_S A0 s.heap s.heap [] := va_S.rf
  have hl : lv_has ls 3 [(0, .ref (A 7))] := hl
  unfold fx_H_mostSpecific at h
  refine lv_bipush (v := -2) hx hb d_H_mostSpecific_0 (by decide) ?_
  refine lv_istore_n (lv' := [(1, .int (-2 : Int32)), (0, .ref (A 7))]) hx hb d_H_mostSpecific_2 rfl hl (by decide) rfl (fun ls hl => ?_)
  refine lv_iconst (v := 0) hx hb d_H_mostSpecific_3 (by decide) ?_
  refine lv_istore_n (lv' := [(2, .int (0 : Int32)), (1, .int (-2 : Int32)), (0, .ref (A 7))]) hx hb d_H_mostSpecific_4 rfl hl (by decide) rfl (fun ls hl => ?_)
  replace h := zz_bL3 h
  obtain ⟨x_7, v1_7, v2_7, S_7, e_7, h⟩ := h
  refine lp_H_mostSpecific_L5 hM hA n _ _ _ _ e_7 ?_ _ _ _ hP hD hS (lv_sub hl [2, 1, 0] rfl)
  intro H locs ls hP hD hS hl
  have hl : lv_has ls 3 [(0, .ref (A 7)), (1, .int v1_7), (2, .int v2_7)] := hl
  have hP : va_P z.1 vwCl (cw z A S_7 ++ Rr) H := hP
  have hD : va_D A0 (cw z A S_7 ++ Rr) := hD
  by_cases c_7 : x_7 = 32
  · replace h := zz_t c_7 h
    subst c_7
    refine W.eq (g2 := F0 m 32 ls []) rfl ?_
    refine lv_bipush (v := -2) hx hb d_H_mostSpecific_32 (by decide) ?_
    exact zz_iret (fun S => cw z A S ++ Rr) hx hb hr hlocks hP hD hS h d_H_mostSpecific_34
  replace h := zz_f c_7 h
  replace h := zz_grd h
  obtain ⟨c_7, h⟩ := h
  subst c_7
  refine W.eq (g2 := F0 m 48 ls []) rfl ?_
  refine lv_iload_n hx hb d_H_mostSpecific_48 rfl (lv_at hl 1 rfl) ?_
  exact zz_iret (fun S => cw z A S ++ Rr) hx hb hr hlocks hP hD hS h d_H_mostSpecific_49

