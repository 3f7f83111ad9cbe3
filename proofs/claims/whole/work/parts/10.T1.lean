abbrev b_T_bit : ByteArray := prog_5_method_17_code
abbrev y_T_bit : MethodName := ⟨"MemberChooser$Types", "bit", "(I)I"⟩
abbrev w_T_bit : List Cond := Cond.code y_T_bit b_T_bit 1 (some .int) :: zTb
theorem d_T_bit_0 : decode b_T_bit 0 = .ok (.iconst 1, 1) := by decide +kernel
theorem d_T_bit_1 : decode b_T_bit 1 = .ok (.iload_n 0, 1) := by decide +kernel
theorem d_T_bit_2 : decode b_T_bit 2 = .ok (.ishl, 1) := by decide +kernel
theorem d_T_bit_3 : decode b_T_bit 3 = .ok (.ireturn, 1) := by decide +kernel
abbrev rm_T_bit : Room := { frames := 0, cells := 0, slots := 0, locals := 0 }
def fx_T_bit (n : Nat) (a0 : Int32) : Option (Int32) :=
  some ((1 : Int32) <<< (a0 &&& 31))

set_option maxRecDepth 100000 in
set_option maxHeartbeats 4000000 in
theorem k_T_bit (l : Launch) (z : zE) (w : va_W) (n : Nat) (a0 : Int32) (r0 : Int32) (h : fx_T_bit n a0 = some r0) : zC z l y_T_bit w_T_bit rm_T_bit [.int a0] w (some (.int r0)) w := by
  refine zz_of (by decide) (Nat.le_of_ble_eq_true rfl) ?_
  intro p e s m args below meth c A0 ls hM hr hlocks hA hP hD hl
  have hM : zM z p s m args c b_T_bit 1 R_T := hM
  obtain ⟨hx, hb, hml, hown, hts, hK, hN⟩ := id hM
  have hS : va_S A0 s.heap s.heap [] := va_S.rf
  have hl : lv_has ls 1 [(0, .int a0)] := hl
  unfold fx_T_bit at h
  refine lv_iconst (v := 1) hx hb d_T_bit_0 (by decide) ?_
  refine lv_iload_n hx hb d_T_bit_1 rfl (lv_at hl 0 rfl) ?_
  refine lv_ishl hx hb d_T_bit_2 ?_
  exact zz_iretG hx hb hr hlocks hP hD hS h d_T_bit_3

abbrev b_T_isPrimitive : ByteArray := prog_5_method_2_code
abbrev y_T_isPrimitive : MethodName := ⟨"MemberChooser$Types", "isPrimitive", "(I)Z"⟩
abbrev w_T_isPrimitive : List Cond := Cond.code y_T_isPrimitive b_T_isPrimitive 1 (some .boolean) :: zTb
theorem d_T_isPrimitive_0 : decode b_T_isPrimitive 0 = .ok (.iload_n 0, 1) := by decide +kernel
theorem d_T_isPrimitive_1 : decode b_T_isPrimitive 1 = .ok (.ifCond .lt 12, 3) := by decide +kernel
theorem d_T_isPrimitive_4 : decode b_T_isPrimitive 4 = .ok (.iload_n 0, 1) := by decide +kernel
theorem d_T_isPrimitive_5 : decode b_T_isPrimitive 5 = .ok (.iconst 2, 1) := by decide +kernel
theorem d_T_isPrimitive_6 : decode b_T_isPrimitive 6 = .ok (.if_icmp .gt 7, 3) := by decide +kernel
theorem d_T_isPrimitive_9 : decode b_T_isPrimitive 9 = .ok (.iconst 1, 1) := by decide +kernel
theorem d_T_isPrimitive_10 : decode b_T_isPrimitive 10 = .ok (.goto 4, 3) := by decide +kernel
theorem d_T_isPrimitive_13 : decode b_T_isPrimitive 13 = .ok (.iconst 0, 1) := by decide +kernel
theorem d_T_isPrimitive_14 : decode b_T_isPrimitive 14 = .ok (.ireturn, 1) := by decide +kernel
abbrev rm_T_isPrimitive : Room := { frames := 0, cells := 0, slots := 0, locals := 0 }
def fx_T_isPrimitive (n : Nat) (a0 : Int32) : Option (Int32) :=
  (if a0 < 0 then
  some (0 : Int32)
  else
  (if (2 : Int32) < a0 then
    some (0 : Int32)
    else
    some (1 : Int32)))

set_option maxRecDepth 100000 in
set_option maxHeartbeats 4000000 in
theorem k_T_isPrimitive (l : Launch) (z : zE) (w : va_W) (n : Nat) (a0 : Int32) (r0 : Int32) (h : fx_T_isPrimitive n a0 = some r0) : zC z l y_T_isPrimitive w_T_isPrimitive rm_T_isPrimitive [.int a0] w (some (.int r0)) w := by
  refine zz_of (by decide) (Nat.le_of_ble_eq_true rfl) ?_
  intro p e s m args below meth c A0 ls hM hr hlocks hA hP hD hl
  have hM : zM z p s m args c b_T_isPrimitive 1 R_T := hM
  obtain ⟨hx, hb, hml, hown, hts, hK, hN⟩ := id hM
  have hS : va_S A0 s.heap s.heap [] := va_S.rf
  have hl : lv_has ls 1 [(0, .int a0)] := hl
  unfold fx_T_isPrimitive at h
  refine lv_iload_n hx hb d_T_isPrimitive_0 rfl (lv_at hl 0 rfl) ?_
  refine lv_if_lt (tgt := 13) hx hb d_T_isPrimitive_1 (by decide) (fun c_1 => ?_) (fun c_1 => ?_)
  · have h := zz_t c_1 h
    refine lv_iconst (v := 0) hx hb d_T_isPrimitive_13 (by decide) ?_
    exact zz_zretG hx hb hr hlocks hP hD hS rfl h d_T_isPrimitive_14
  · have h := zz_f c_1 h
    refine lv_iload_n hx hb d_T_isPrimitive_4 rfl (lv_at hl 0 rfl) ?_
    refine lv_iconst (v := 2) hx hb d_T_isPrimitive_5 (by decide) ?_
    refine lv_icmp_gt (tgt := 13) hx hb d_T_isPrimitive_6 (by decide) (fun c_2 => ?_) (fun c_2 => ?_)
    · have h := zz_t c_2 h
      refine lv_iconst (v := 0) hx hb d_T_isPrimitive_13 (by decide) ?_
      exact zz_zretG hx hb hr hlocks hP hD hS rfl h d_T_isPrimitive_14
    · have h := zz_f c_2 h
      refine lv_iconst (v := 1) hx hb d_T_isPrimitive_9 (by decide) ?_
      refine lv_goto (tgt := 14) hx hb d_T_isPrimitive_10 (by decide) ?_
      exact zz_zretG hx hb hr hlocks hP hD hS rfl h d_T_isPrimitive_14

abbrev b_T_holds : ByteArray := prog_5_method_16_code
abbrev y_T_holds : MethodName := ⟨"MemberChooser$Types", "holds", "([III)Z"⟩
abbrev w_T_holds : List Cond := Cond.code y_T_holds b_T_holds 4 (some .boolean) :: zTb
theorem d_T_holds_0 : decode b_T_holds 0 = .ok (.iconst 0, 1) := by decide +kernel
theorem d_T_holds_1 : decode b_T_holds 1 = .ok (.istore_n 3, 1) := by decide +kernel
theorem d_T_holds_2 : decode b_T_holds 2 = .ok (.iload_n 3, 1) := by decide +kernel
theorem d_T_holds_3 : decode b_T_holds 3 = .ok (.iload_n 1, 1) := by decide +kernel
theorem d_T_holds_4 : decode b_T_holds 4 = .ok (.if_icmp .ge 24, 3) := by decide +kernel
theorem d_T_holds_7 : decode b_T_holds 7 = .ok (.iload_n 3, 1) := by decide +kernel
theorem d_T_holds_8 : decode b_T_holds 8 = .ok (.aload_n 0, 1) := by decide +kernel
theorem d_T_holds_9 : decode b_T_holds 9 = .ok (.arraylength, 1) := by decide +kernel
theorem d_T_holds_10 : decode b_T_holds 10 = .ok (.if_icmp .ge 18, 3) := by decide +kernel
theorem d_T_holds_13 : decode b_T_holds 13 = .ok (.aload_n 0, 1) := by decide +kernel
theorem d_T_holds_14 : decode b_T_holds 14 = .ok (.iload_n 3, 1) := by decide +kernel
theorem d_T_holds_15 : decode b_T_holds 15 = .ok (.iaload, 1) := by decide +kernel
theorem d_T_holds_16 : decode b_T_holds 16 = .ok (.iload_n 2, 1) := by decide +kernel
theorem d_T_holds_17 : decode b_T_holds 17 = .ok (.if_icmp .ne 5, 3) := by decide +kernel
theorem d_T_holds_20 : decode b_T_holds 20 = .ok (.iconst 1, 1) := by decide +kernel
theorem d_T_holds_21 : decode b_T_holds 21 = .ok (.ireturn, 1) := by decide +kernel
theorem d_T_holds_22 : decode b_T_holds 22 = .ok (.iinc 3 1, 3) := by decide +kernel
theorem d_T_holds_25 : decode b_T_holds 25 = .ok (.goto (-23), 3) := by decide +kernel
theorem d_T_holds_28 : decode b_T_holds 28 = .ok (.iconst 0, 1) := by decide +kernel
theorem d_T_holds_29 : decode b_T_holds 29 = .ok (.ireturn, 1) := by decide +kernel
abbrev rm_T_holds : Room := { frames := 0, cells := 0, slots := 0, locals := 0 }
def st_T_holds_L2 (n : Nat) (N0 : Nat) (f0 : Nat → Int32) (v1 : Int32) (v2 : Int32) (v3 : Int32) : Option ((Int32) ⊕ (Nat × Int32)) :=
  (if v1 ≤ v3 then
  some (.inr (28, v3))
  else
  (if (Int32.ofNat N0) ≤ v3 then
    some (.inr (28, v3))
    else
    (if zoob v3 N0 then none else
      (if (f0 v3.toNatClampNeg) = v2 then
      some (.inr (20, v3))
      else
      some (.inl ((v3 + (1 : Int32))))))))

def fx_T_holds_L2 (n : Nat) (N0 : Nat) (f0 : Nat → Int32) (v1 : Int32) (v2 : Int32) (v3 : Int32) : Option (Nat × Int32) := zloop (fun (st : Int32) => st_T_holds_L2 n N0 f0 v1 v2 st) n (v3)

def fx_T_holds (n : Nat) (N0 : Nat) (f0 : Nat → Int32) (a1 : Int32) (a2 : Int32) : Option (Int32) :=
  zbL1 (fx_T_holds_L2 n N0 f0 a1 a2 (0 : Int32)) (fun x_5 v3_5 =>
  if x_5 = 20 then
  some (1 : Int32)
  else if x_5 = 28 then
  some (0 : Int32)
  else none)

set_option maxRecDepth 100000 in
set_option maxHeartbeats 4000000 in
theorem lp_T_holds_L2 {z : zE} {w : va_W} {p : Program} {l : Launch} {e : Env} {s : State} {m : MethodId} {args : Array Value} {below : List Frame} {meth : Method} {c : Code} {Q : State → Prop} {H0 : Heap} {A0 : Nat → Prop} {a0 N0 kq : Nat} {f0 : Nat → Int32} (hq : w[kq]? = some (a0, .inl (zI z, N0, .inl f0))) (hM : zM z p s m args c b_T_holds 4 R_T) (hA : ∀ q : Nat, H0.size ≤ q → A0 q) (n : Nat) (v1 : Int32) (v2 : Int32) :
    ∀ (v3 : Int32) (r : Nat × Int32), fx_T_holds_L2 n N0 f0 v1 v2 v3 = some r → (∀ (H : Heap) (locs : List Loc) (ls : Array Slot), va_P z.1 vwCl w H → va_D A0 w → va_S A0 H0 H locs → lv_has ls 4 [(0, .ref a0), (1, .int v1), (2, .int v2), (3, .int r.2)] → W p l e rm_T_holds s m args below meth c H locs 0 0 Q (F0 m r.1 ls [])) →
    ∀ (H : Heap) (locs : List Loc) (ls : Array Slot), va_P z.1 vwCl w H → va_D A0 w → va_S A0 H0 H locs → lv_has ls 4 [(0, .ref a0), (1, .int v1), (2, .int v2), (3, .int v3)] → W p l e rm_T_holds s m args below meth c H locs 0 0 Q (F0 m 2 ls []) := by
  obtain ⟨hx, hb, hml, hown, hts, hK, hN⟩ := id hM
  intro v3 r h hE
  refine zz_loop (G := fun (st : Int32) => ∀ (H : Heap) (locs : List Loc) (ls : Array Slot), va_P z.1 vwCl w H → va_D A0 w → va_S A0 H0 H locs → lv_has ls 4 [(0, .ref a0), (1, .int v1), (2, .int v2), (3, .int st)] → W p l e rm_T_holds s m args below meth c H locs 0 0 Q (F0 m 2 ls [])) (E := fun (r : Nat × Int32) => ∀ (H : Heap) (locs : List Loc) (ls : Array Slot), va_P z.1 vwCl w H → va_D A0 w → va_S A0 H0 H locs → lv_has ls 4 [(0, .ref a0), (1, .int v1), (2, .int v2), (3, .int r.2)] → W p l e rm_T_holds s m args below meth c H locs 0 0 Q (F0 m r.1 ls [])) ?_ n (v3) r h hE
  clear h hE r v3
  intro v3 o h hG hE H locs ls hP hD hS hl
  have h : st_T_holds_L2 n N0 f0 v1 v2 v3 = some o := h
  have hl : lv_has ls 4 [(0, .ref a0), (1, .int v1), (2, .int v2), (3, .int v3)] := hl
  unfold st_T_holds_L2 at h
  refine lv_iload_n hx hb d_T_holds_2 rfl (lv_at hl 3 rfl) ?_
  refine lv_iload_n hx hb d_T_holds_3 rfl (lv_at hl 1 rfl) ?_
  refine lv_icmp_ge (tgt := 28) hx hb d_T_holds_4 (by decide) (fun c_1 => ?_) (fun c_1 => ?_)
  · have h := zz_t c_1 h
    exact hE _ (Option.some.inj h).symm _ _ _ hP hD hS hl
  · have h := zz_f c_1 h
    refine lv_iload_n hx hb d_T_holds_7 rfl (lv_at hl 3 rfl) ?_
    refine lv_aload_n hx hb d_T_holds_8 rfl (lv_at hl 0 rfl) ?_
    refine va_alen hx hb hK hP kq 0 hq rfl (v := (Int32.ofNat N0)) rfl d_T_holds_9 ?_
    refine lv_icmp_ge (tgt := 28) hx hb d_T_holds_10 (by decide) (fun c_2 => ?_) (fun c_2 => ?_)
    · have h := zz_t c_2 h
      exact hE _ (Option.some.inj h).symm _ _ _ hP hD hS hl
    · have h := zz_f c_2 h
      refine lv_aload_n hx hb d_T_holds_13 rfl (lv_at hl 0 rfl) ?_
      refine lv_iload_n hx hb d_T_holds_14 rfl (lv_at hl 3 rfl) ?_
      obtain ⟨c_3, h⟩ := zz_oob h
      refine va_iald hx hb hK hP kq 0 hq rfl c_3 d_T_holds_15 ?_
      refine lv_iload_n hx hb d_T_holds_16 rfl (lv_at hl 2 rfl) ?_
      refine lv_icmp_ne (tgt := 22) hx hb d_T_holds_17 (by decide) (fun c_4 => ?_) (fun c_4 => ?_)
      · have h := zz_f c_4 h
        refine lv_iinc (v := (v3 + (1 : Int32))) (lv' := [(3, .int (v3 + (1 : Int32))), (0, .ref a0), (1, .int v1), (2, .int v2)]) hx hb d_T_holds_22 hl (k := 3) rfl rfl (by decide) rfl (fun ls hl => ?_)
        refine lv_goto (tgt := 2) hx hb d_T_holds_25 (by decide) ?_
        exact hG _ (Option.some.inj h).symm _ _ _ hP hD hS (lv_sub hl [1, 2, 3, 0] rfl)
      · have h := zz_t c_4 h
        exact hE _ (Option.some.inj h).symm _ _ _ hP hD hS hl

set_option maxRecDepth 100000 in
set_option maxHeartbeats 4000000 in
theorem k_T_holds (l : Launch) (z : zE) (w : va_W) {a0 N0 kq : Nat} {f0 : Nat → Int32} (hq : w[kq]? = some (a0, .inl (zI z, N0, .inl f0))) (n : Nat) (a1 : Int32) (a2 : Int32) (r0 : Int32) (h : fx_T_holds n N0 f0 a1 a2 = some r0) : zC z l y_T_holds w_T_holds rm_T_holds [.ref a0, .int a1, .int a2] w (some (.int r0)) w := by
  refine zz_of (by decide) (Nat.le_of_ble_eq_true rfl) ?_
  intro p e s m args below meth c A0 ls hM hr hlocks hA hP hD hl
  have hM : zM z p s m args c b_T_holds 4 R_T := hM
  obtain ⟨hx, hb, hml, hown, hts, hK, hN⟩ := id hM
  have hS : va_S A0 s.heap s.heap [] := va_S.rf
  have hl : lv_has ls 4 [(0, .ref a0), (1, .int a1), (2, .int a2)] := hl
  unfold fx_T_holds at h
  refine lv_iconst (v := 0) hx hb d_T_holds_0 (by decide) ?_
  refine lv_istore_n (lv' := [(3, .int (0 : Int32)), (0, .ref a0), (1, .int a1), (2, .int a2)]) hx hb d_T_holds_1 rfl hl (by decide) rfl (fun ls hl => ?_)
  obtain ⟨x_5, v3_5, e_5, h⟩ := zz_bL1 h
  refine lp_T_holds_L2 hq hM hA n a1 a2 _ _ e_5 ?_ _ _ _ hP hD hS (lv_sub hl [1, 2, 3, 0] rfl)
  intro H locs ls hP hD hS hl
  have hl : lv_has ls 4 [(0, .ref a0), (1, .int a1), (2, .int a2), (3, .int v3_5)] := hl
  by_cases c_5 : x_5 = 20
  · have h := zz_t c_5 h
    subst c_5
    refine lv_iconst (v := 1) hx hb d_T_holds_20 (by decide) ?_
    exact zz_zretG hx hb hr hlocks hP hD hS rfl h d_T_holds_21
  have h := zz_f c_5 h
  obtain ⟨c_5, h⟩ := zz_grd h
  subst c_5
  refine lv_iconst (v := 0) hx hb d_T_holds_28 (by decide) ?_
  exact zz_zretG hx hb hr hlocks hP hD hS rfl h d_T_holds_29

abbrev b_T_exists : ByteArray := prog_5_method_3_code
abbrev y_T_exists : MethodName := ⟨"MemberChooser$Types", "exists", "(I)Z"⟩
abbrev w_T_exists : List Cond := Cond.code y_T_exists b_T_exists 2 (some .boolean) :: zTb
theorem d_T_exists_0 : decode b_T_exists 0 = .ok (.iload_n 1, 1) := by decide +kernel
theorem d_T_exists_1 : decode b_T_exists 1 = .ok (.ifCond .lt 18, 3) := by decide +kernel
theorem d_T_exists_4 : decode b_T_exists 4 = .ok (.iload_n 1, 1) := by decide +kernel
theorem d_T_exists_5 : decode b_T_exists 5 = .ok (.bipush 8, 2) := by decide +kernel
theorem d_T_exists_7 : decode b_T_exists 7 = .ok (.aload_n 0, 1) := by decide +kernel
theorem d_T_exists_8 : decode b_T_exists 8 = .ok (.getfield 30, 3) := by decide +kernel
theorem d_T_exists_11 : decode b_T_exists 11 = .ok (.iadd, 1) := by decide +kernel
theorem d_T_exists_12 : decode b_T_exists 12 = .ok (.if_icmp .ge 7, 3) := by decide +kernel
theorem d_T_exists_15 : decode b_T_exists 15 = .ok (.iconst 1, 1) := by decide +kernel
theorem d_T_exists_16 : decode b_T_exists 16 = .ok (.goto 4, 3) := by decide +kernel
theorem d_T_exists_19 : decode b_T_exists 19 = .ok (.iconst 0, 1) := by decide +kernel
theorem d_T_exists_20 : decode b_T_exists 20 = .ok (.ireturn, 1) := by decide +kernel
abbrev rm_T_exists : Room := { frames := 0, cells := 0, slots := 0, locals := 0 }
def fx_T_exists (n : Nat) (S : ZC) (a1 : Int32) : Option (Int32 × ZC) :=
  (if a1 < 0 then
  some ((0 : Int32), S)
  else
  (if ((8 : Int32) + (tTo S)) ≤ a1 then
    some ((0 : Int32), S)
    else
    some ((1 : Int32), S)))

set_option maxRecDepth 100000 in
set_option maxHeartbeats 4000000 in
theorem k_T_exists (l : Launch) (z : zE) (A : Nat → Nat) (Rr : va_W) (n : Nat) (S : ZC) (a1 : Int32) (r0 : Int32) (S' : ZC) (h : fx_T_exists n S a1 = some (r0, S')) : zC z l y_T_exists w_T_exists rm_T_exists [.ref (A 1), .int a1] (cw z A S ++ Rr) (some (.int r0)) (cw z A S' ++ Rr) := by
  refine zz_of (by decide) (Nat.le_of_ble_eq_true rfl) ?_
  intro p e s m args below meth c A0 ls hM hr hlocks hA hP hD hl
  have hM : zM z p s m args c b_T_exists 2 R_T := hM
  obtain ⟨hx, hb, hml, hown, hts, hK, hN⟩ := id hM
  have hS : va_S A0 s.heap s.heap [] := va_S.rf
  have hl : lv_has ls 2 [(0, .ref (A 1)), (1, .int a1)] := hl
  unfold fx_T_exists at h
  refine lv_iload_n hx hb d_T_exists_0 rfl (lv_at hl 1 rfl) ?_
  refine lv_if_lt (tgt := 19) hx hb d_T_exists_1 (by decide) (fun c_1 => ?_) (fun c_1 => ?_)
  · have h := zz_t c_1 h
    refine lv_iconst (v := 0) hx hb d_T_exists_19 (by decide) ?_
    exact zz_zret (fun S => cw z A S ++ Rr) hx hb hr hlocks hP hD hS rfl h d_T_exists_20
  · have h := zz_f c_1 h
    refine lv_iload_n hx hb d_T_exists_4 rfl (lv_at hl 1 rfl) ?_
    refine lv_bipush (v := 8) hx hb d_T_exists_5 (by decide) ?_
    refine lv_aload_n hx hb d_T_exists_7 rfl (lv_at hl 0 rfl) ?_
    refine va_get (D := z.1) (ci := 1) (v := .int (tTo S)) (C := R_T) (T := F_T) (N := 6) hx hb hts i_T hown hK hP 1 rfl rfl 5 (by decide) (hts _ wq_43) (fun _ h9 => h9) rfl d_T_exists_8 ?_
    refine lv_iadd hx hb d_T_exists_11 ?_
    refine lv_icmp_ge (tgt := 19) hx hb d_T_exists_12 (by decide) (fun c_2 => ?_) (fun c_2 => ?_)
    · have h := zz_t c_2 h
      refine lv_iconst (v := 0) hx hb d_T_exists_19 (by decide) ?_
      exact zz_zret (fun S => cw z A S ++ Rr) hx hb hr hlocks hP hD hS rfl h d_T_exists_20
    · have h := zz_f c_2 h
      refine lv_iconst (v := 1) hx hb d_T_exists_15 (by decide) ?_
      refine lv_goto (tgt := 20) hx hb d_T_exists_16 (by decide) ?_
      exact zz_zret (fun S => cw z A S ++ Rr) hx hb hr hlocks hP hD hS rfl h d_T_exists_20

abbrev b_T_isTold : ByteArray := prog_5_method_4_code
abbrev y_T_isTold : MethodName := ⟨"MemberChooser$Types", "isTold", "(I)Z"⟩
abbrev w_T_isTold : List Cond := Cond.code y_T_isTold b_T_isTold 2 (some .boolean) :: zTb
theorem d_T_isTold_0 : decode b_T_isTold 0 = .ok (.iload_n 1, 1) := by decide +kernel
theorem d_T_isTold_1 : decode b_T_isTold 1 = .ok (.bipush 8, 2) := by decide +kernel
theorem d_T_isTold_3 : decode b_T_isTold 3 = .ok (.if_icmp .lt 15, 3) := by decide +kernel
theorem d_T_isTold_6 : decode b_T_isTold 6 = .ok (.aload_n 0, 1) := by decide +kernel
theorem d_T_isTold_7 : decode b_T_isTold 7 = .ok (.iload_n 1, 1) := by decide +kernel
theorem d_T_isTold_8 : decode b_T_isTold 8 = .ok (.invokevirtual 42, 3) := by decide +kernel
theorem d_T_isTold_11 : decode b_T_isTold 11 = .ok (.ifCond .eq 7, 3) := by decide +kernel
theorem d_T_isTold_14 : decode b_T_isTold 14 = .ok (.iconst 1, 1) := by decide +kernel
theorem d_T_isTold_15 : decode b_T_isTold 15 = .ok (.goto 4, 3) := by decide +kernel
theorem d_T_isTold_18 : decode b_T_isTold 18 = .ok (.iconst 0, 1) := by decide +kernel
theorem d_T_isTold_19 : decode b_T_isTold 19 = .ok (.ireturn, 1) := by decide +kernel
abbrev rm_T_isTold : Room := { frames := 1, cells := 0, slots := 0, locals := 21 }
def fx_T_isTold (n : Nat) (S : ZC) (a1 : Int32) : Option (Int32 × ZC) :=
  (if a1 < (8 : Int32) then
  some ((0 : Int32), S)
  else
  zbind (fx_T_exists n S a1) (fun r_2 S_2 =>
    (if r_2 = 0 then
    some ((0 : Int32), S_2)
    else
    some ((1 : Int32), S_2))))

set_option maxRecDepth 100000 in
set_option maxHeartbeats 4000000 in
theorem k_T_isTold (l : Launch) (z : zE) (A : Nat → Nat) (Rr : va_W) (n : Nat) (S : ZC) (a1 : Int32) (r0 : Int32) (S' : ZC) (h : fx_T_isTold n S a1 = some (r0, S')) : zC z l y_T_isTold w_T_isTold rm_T_isTold [.ref (A 1), .int a1] (cw z A S ++ Rr) (some (.int r0)) (cw z A S' ++ Rr) := by
  refine zz_of (by decide) (Nat.le_of_ble_eq_true rfl) ?_
  intro p e s m args below meth c A0 ls hM hr hlocks hA hP hD hl
  have hM : zM z p s m args c b_T_isTold 2 R_T := hM
  obtain ⟨hx, hb, hml, hown, hts, hK, hN⟩ := id hM
  have hS : va_S A0 s.heap s.heap [] := va_S.rf
  have hl : lv_has ls 2 [(0, .ref (A 1)), (1, .int a1)] := hl
  unfold fx_T_isTold at h
  refine lv_iload_n hx hb d_T_isTold_0 rfl (lv_at hl 1 rfl) ?_
  refine lv_bipush (v := 8) hx hb d_T_isTold_1 (by decide) ?_
  refine lv_icmp_lt (tgt := 18) hx hb d_T_isTold_3 (by decide) (fun c_1 => ?_) (fun c_1 => ?_)
  · have h := zz_t c_1 h
    refine lv_iconst (v := 0) hx hb d_T_isTold_18 (by decide) ?_
    exact zz_zret (fun S => cw z A S ++ Rr) hx hb hr hlocks hP hD hS rfl h d_T_isTold_19
  · have h := zz_f c_1 h
    refine lv_aload_n hx hb d_T_isTold_6 rfl (lv_at hl 0 rfl) ?_
    refine lv_iload_n hx hb d_T_isTold_7 rfl (lv_at hl 1 rfl) ?_
    obtain ⟨r_2, S_2, e_2, h⟩ := zz_bind h
    refine zz_goI (zz_runV (As := [.int a1]) (rest := []) (k_T_exists l z A Rr n _ _ _ _ e_2) ⟨hx, hb, hml, hown, hts⟩ (cwV 1 hts (zz_gV wq_180 wq_181 wq_182 wq_2 wq_183) rfl rfl rfl (by decide +kernel) ⟨Nat.le_of_ble_eq_true rfl, Nat.le_of_ble_eq_true rfl⟩) hK hN hP hD (va_recv hK hP (ci := 1) (q0 := 1) rfl rfl) rfl hl.1 rfl (Nat.le_of_ble_eq_true rfl) d_T_isTold_8 ⟨Nat.le_of_ble_eq_true rfl, Nat.le_of_ble_eq_true rfl⟩) hD hS hA (fun H locs hP hD hS => ?_)
    refine lv_if_eq (tgt := 18) hx hb d_T_isTold_11 (by decide) (fun c_3 => ?_) (fun c_3 => ?_)
    · have h := zz_t c_3 h
      refine lv_iconst (v := 0) hx hb d_T_isTold_18 (by decide) ?_
      exact zz_zret (fun S => cw z A S ++ Rr) hx hb hr hlocks hP hD hS rfl h d_T_isTold_19
    · have h := zz_f c_3 h
      refine lv_iconst (v := 1) hx hb d_T_isTold_14 (by decide) ?_
      refine lv_goto (tgt := 19) hx hb d_T_isTold_15 (by decide) ?_
      exact zz_zret (fun S => cw z A S ++ Rr) hx hb hr hlocks hP hD hS rfl h d_T_isTold_19

abbrev b_T_isSubtype : ByteArray := prog_5_method_9_code
abbrev y_T_isSubtype : MethodName := ⟨"MemberChooser$Types", "isSubtype", "(II)Z"⟩
abbrev w_T_isSubtype : List Cond := Cond.code y_T_isSubtype b_T_isSubtype 3 (some .boolean) :: zTb
theorem d_T_isSubtype_0 : decode b_T_isSubtype 0 = .ok (.aload_n 0, 1) := by decide +kernel
theorem d_T_isSubtype_1 : decode b_T_isSubtype 1 = .ok (.iload_n 1, 1) := by decide +kernel
theorem d_T_isSubtype_2 : decode b_T_isSubtype 2 = .ok (.invokevirtual 42, 3) := by decide +kernel
theorem d_T_isSubtype_5 : decode b_T_isSubtype 5 = .ok (.ifCond .eq 29, 3) := by decide +kernel
theorem d_T_isSubtype_8 : decode b_T_isSubtype 8 = .ok (.aload_n 0, 1) := by decide +kernel
theorem d_T_isSubtype_9 : decode b_T_isSubtype 9 = .ok (.iload_n 2, 1) := by decide +kernel
theorem d_T_isSubtype_10 : decode b_T_isSubtype 10 = .ok (.invokevirtual 42, 3) := by decide +kernel
theorem d_T_isSubtype_13 : decode b_T_isSubtype 13 = .ok (.ifCond .eq 21, 3) := by decide +kernel
theorem d_T_isSubtype_16 : decode b_T_isSubtype 16 = .ok (.aload_n 0, 1) := by decide +kernel
theorem d_T_isSubtype_17 : decode b_T_isSubtype 17 = .ok (.getfield 27, 3) := by decide +kernel
theorem d_T_isSubtype_20 : decode b_T_isSubtype 20 = .ok (.iload_n 1, 1) := by decide +kernel
theorem d_T_isSubtype_21 : decode b_T_isSubtype 21 = .ok (.iaload, 1) := by decide +kernel
theorem d_T_isSubtype_22 : decode b_T_isSubtype 22 = .ok (.iload_n 2, 1) := by decide +kernel
theorem d_T_isSubtype_23 : decode b_T_isSubtype 23 = .ok (.invokestatic 38, 3) := by decide +kernel
theorem d_T_isSubtype_26 : decode b_T_isSubtype 26 = .ok (.iand, 1) := by decide +kernel
theorem d_T_isSubtype_27 : decode b_T_isSubtype 27 = .ok (.ifCond .eq 7, 3) := by decide +kernel
theorem d_T_isSubtype_30 : decode b_T_isSubtype 30 = .ok (.iconst 1, 1) := by decide +kernel
theorem d_T_isSubtype_31 : decode b_T_isSubtype 31 = .ok (.goto 4, 3) := by decide +kernel
theorem d_T_isSubtype_34 : decode b_T_isSubtype 34 = .ok (.iconst 0, 1) := by decide +kernel
theorem d_T_isSubtype_35 : decode b_T_isSubtype 35 = .ok (.ireturn, 1) := by decide +kernel
abbrev rm_T_isSubtype : Room := { frames := 1, cells := 0, slots := 0, locals := 21 }
def fx_T_isSubtype (n : Nat) (S : ZC) (a1 : Int32) (a2 : Int32) : Option (Int32 × ZC) :=
  zbind (fx_T_exists n S a1) (fun r_1 S_1 =>
  (if r_1 = 0 then
  some ((0 : Int32), S_1)
  else
  zbind (fx_T_exists n S_1 a2) (fun r_3 S_3 =>
    (if r_3 = 0 then
    some ((0 : Int32), S_3)
    else
    (if zoob a1 32 then none else
      zbind1 (fx_T_bit n a2) (fun r_6 =>
      (if (((tUp S_3) a1.toNatClampNeg) &&& r_6) = 0 then
      some ((0 : Int32), S_3)
      else
      some ((1 : Int32), S_3))))))))

set_option maxRecDepth 100000 in
set_option maxHeartbeats 4000000 in
theorem k_T_isSubtype (l : Launch) (z : zE) (A : Nat → Nat) (Rr : va_W) (n : Nat) (S : ZC) (a1 : Int32) (a2 : Int32) (r0 : Int32) (S' : ZC) (h : fx_T_isSubtype n S a1 a2 = some (r0, S')) : zC z l y_T_isSubtype w_T_isSubtype rm_T_isSubtype [.ref (A 1), .int a1, .int a2] (cw z A S ++ Rr) (some (.int r0)) (cw z A S' ++ Rr) := by
  refine zz_of (by decide) (Nat.le_of_ble_eq_true rfl) ?_
  intro p e s m args below meth c A0 ls hM hr hlocks hA hP hD hl
  have hM : zM z p s m args c b_T_isSubtype 3 R_T := hM
  obtain ⟨hx, hb, hml, hown, hts, hK, hN⟩ := id hM
  have hS : va_S A0 s.heap s.heap [] := va_S.rf
  have hl : lv_has ls 3 [(0, .ref (A 1)), (1, .int a1), (2, .int a2)] := hl
  unfold fx_T_isSubtype at h
  refine lv_aload_n hx hb d_T_isSubtype_0 rfl (lv_at hl 0 rfl) ?_
  refine lv_iload_n hx hb d_T_isSubtype_1 rfl (lv_at hl 1 rfl) ?_
  obtain ⟨r_1, S_1, e_1, h⟩ := zz_bind h
  refine zz_goI (zz_runV (As := [.int a1]) (rest := []) (k_T_exists l z A Rr n _ _ _ _ e_1) ⟨hx, hb, hml, hown, hts⟩ (cwV 1 hts (zz_gV wq_180 wq_181 wq_182 wq_2 wq_183) rfl rfl rfl (by decide +kernel) ⟨Nat.le_of_ble_eq_true rfl, Nat.le_of_ble_eq_true rfl⟩) hK hN hP hD (va_recv hK hP (ci := 1) (q0 := 1) rfl rfl) rfl hl.1 rfl (Nat.le_of_ble_eq_true rfl) d_T_isSubtype_2 ⟨Nat.le_of_ble_eq_true rfl, Nat.le_of_ble_eq_true rfl⟩) hD hS hA (fun H locs hP hD hS => ?_)
  refine lv_if_eq (tgt := 34) hx hb d_T_isSubtype_5 (by decide) (fun c_2 => ?_) (fun c_2 => ?_)
  · have h := zz_t c_2 h
    refine lv_iconst (v := 0) hx hb d_T_isSubtype_34 (by decide) ?_
    exact zz_zret (fun S => cw z A S ++ Rr) hx hb hr hlocks hP hD hS rfl h d_T_isSubtype_35
  · have h := zz_f c_2 h
    refine lv_aload_n hx hb d_T_isSubtype_8 rfl (lv_at hl 0 rfl) ?_
    refine lv_iload_n hx hb d_T_isSubtype_9 rfl (lv_at hl 2 rfl) ?_
    obtain ⟨r_3, S_3, e_3, h⟩ := zz_bind h
    refine zz_goI (zz_runV (As := [.int a2]) (rest := []) (k_T_exists l z A Rr n _ _ _ _ e_3) ⟨hx, hb, hml, hown, hts⟩ (cwV 1 hts (zz_gV wq_180 wq_181 wq_182 wq_2 wq_183) rfl rfl rfl (by decide +kernel) ⟨Nat.le_of_ble_eq_true rfl, Nat.le_of_ble_eq_true rfl⟩) hK hN hP hD (va_recv hK hP (ci := 1) (q0 := 1) rfl rfl) rfl hl.1 rfl (Nat.le_of_ble_eq_true rfl) d_T_isSubtype_10 ⟨Nat.le_of_ble_eq_true rfl, Nat.le_of_ble_eq_true rfl⟩) hD hS hA (fun H locs hP hD hS => ?_)
    refine lv_if_eq (tgt := 34) hx hb d_T_isSubtype_13 (by decide) (fun c_4 => ?_) (fun c_4 => ?_)
    · have h := zz_t c_4 h
      refine lv_iconst (v := 0) hx hb d_T_isSubtype_34 (by decide) ?_
      exact zz_zret (fun S => cw z A S ++ Rr) hx hb hr hlocks hP hD hS rfl h d_T_isSubtype_35
    · have h := zz_f c_4 h
      refine lv_aload_n hx hb d_T_isSubtype_16 rfl (lv_at hl 0 rfl) ?_
      refine va_get (D := z.1) (ci := 1) (v := .ref (A 9)) (C := R_T) (T := F_T) (N := 6) hx hb hts i_T hown hK hP 1 rfl rfl 4 (by decide) (hts _ wq_42) (fun _ h9 => h9) rfl d_T_isSubtype_17 ?_
      refine lv_iload_n hx hb d_T_isSubtype_20 rfl (lv_at hl 1 rfl) ?_
      obtain ⟨c_5, h⟩ := zz_oob h
      refine va_iald hx hb hK hP 9 0 rfl rfl c_5 d_T_isSubtype_21 ?_
      refine lv_iload_n hx hb d_T_isSubtype_22 rfl (lv_at hl 2 rfl) ?_
      obtain ⟨r_6, e_6, h⟩ := zz_bind1 h
      refine zz_goI (zz_runS (As := [.int a2]) (rest := [.int ((tUp S_3) a1.toNatClampNeg)]) (k_T_bit l z _ n _ _ e_6) ⟨hx, hb, hml, hown, hts⟩ (va_cwS 1 hts (zz_gS wq_35 wq_36 wq_2 wq_37) rfl rfl rfl (by decide +kernel) ⟨Nat.le_of_ble_eq_true rfl, Nat.le_of_ble_eq_true rfl⟩) hK hN hP hD rfl hl.1 rfl (Nat.le_of_ble_eq_true rfl) d_T_isSubtype_23 ⟨Nat.le_of_ble_eq_true rfl, Nat.le_of_ble_eq_true rfl⟩) hD hS hA (fun H locs hP hD hS => ?_)
      refine lv_iand hx hb d_T_isSubtype_26 ?_
      refine lv_if_eq (tgt := 34) hx hb d_T_isSubtype_27 (by decide) (fun c_7 => ?_) (fun c_7 => ?_)
      · have h := zz_t c_7 h
        refine lv_iconst (v := 0) hx hb d_T_isSubtype_34 (by decide) ?_
        exact zz_zret (fun S => cw z A S ++ Rr) hx hb hr hlocks hP hD hS rfl h d_T_isSubtype_35
      · have h := zz_f c_7 h
        refine lv_iconst (v := 1) hx hb d_T_isSubtype_30 (by decide) ?_
        refine lv_goto (tgt := 35) hx hb d_T_isSubtype_31 (by decide) ?_
        exact zz_zret (fun S => cw z A S ++ Rr) hx hb hr hlocks hP hD hS rfl h d_T_isSubtype_35

