abbrev b_X_byteAt : ByteArray := prog_1_method_16_code
abbrev y_X_byteAt : MethodName := ⟨"MemberChooser", "byteAt", "(JI)I"⟩
abbrev w_X_byteAt : List Cond := Cond.code y_X_byteAt b_X_byteAt 3 (some .int) :: zTb
theorem d_X_byteAt_0 : decode b_X_byteAt 0 = .ok (.lload_n 0, 1) := by decide +kernel
theorem d_X_byteAt_1 : decode b_X_byteAt 1 = .ok (.bipush 8, 2) := by decide +kernel
theorem d_X_byteAt_3 : decode b_X_byteAt 3 = .ok (.iload_n 2, 1) := by decide +kernel
theorem d_X_byteAt_4 : decode b_X_byteAt 4 = .ok (.imul, 1) := by decide +kernel
theorem d_X_byteAt_5 : decode b_X_byteAt 5 = .ok (.lushr, 1) := by decide +kernel
theorem d_X_byteAt_6 : decode b_X_byteAt 6 = .ok (.ldc2_w 173, 3) := by decide +kernel
theorem d_X_byteAt_9 : decode b_X_byteAt 9 = .ok (.land, 1) := by decide +kernel
theorem d_X_byteAt_10 : decode b_X_byteAt 10 = .ok (.l2i, 1) := by decide +kernel
theorem d_X_byteAt_11 : decode b_X_byteAt 11 = .ok (.ireturn, 1) := by decide +kernel
abbrev rm_X_byteAt : Room := { frames := 0, cells := 0, slots := 0, locals := 0 }
def fx_X_byteAt (n : Nat) (a0 : Int64) (a2 : Int32) : Option (Int32) :=
  some (((a0.toUInt64 >>> (((8 : Int32) * a2).toInt64.toUInt64 &&& Int64.toUInt64 63)).toInt64 &&& (255 : Int64)).toInt32)

set_option maxRecDepth 100000 in
set_option maxHeartbeats 4000000 in
theorem k_X_byteAt (l : Launch) (z : zE) (w : va_W) (n : Nat) (a0 : Int64) (a2 : Int32) (r0 : Int32) (h : fx_X_byteAt n a0 a2 = some r0) : zC z l y_X_byteAt w_X_byteAt rm_X_byteAt [.long a0, .int a2] w (some (.int r0)) w := by
  refine zz_of (by decide) (Nat.le_of_ble_eq_true rfl) ?_
  intro p e s m args below meth c A0 ls hM hr hlocks hA hP hD hl
  have hM : zM z p s m args c b_X_byteAt 3 R_X := hM
  obtain ⟨hx, hb, hml, hown, hts, hK, hN⟩ := id hM
  have hS : va_S A0 s.heap s.heap [] := va_S.rf
  have hl : lv_has ls 3 [(0, .long a0), (2, .int a2)] := hl
  unfold fx_X_byteAt at h
  refine lv_lload_n hx hb d_X_byteAt_0 rfl (lv_at hl 0 rfl) ?_
  refine lv_bipush (v := 8) hx hb d_X_byteAt_1 (by decide) ?_
  refine lv_iload_n hx hb d_X_byteAt_3 rfl (lv_at hl 1 rfl) ?_
  refine lv_imul hx hb d_X_byteAt_4 ?_
  refine lv_lushr (v := (a0.toUInt64 >>> (((8 : Int32) * a2).toInt64.toUInt64 &&& Int64.toUInt64 63)).toInt64) hx hb d_X_byteAt_5 rfl ?_
  refine lv_ldc2 (own := R_X) (v := 255) hx hb hown (hts _ wq_258) d_X_byteAt_6 ?_
  refine lv_land hx hb d_X_byteAt_9 ?_
  refine lv_l2i (v := ((a0.toUInt64 >>> (((8 : Int32) * a2).toInt64.toUInt64 &&& Int64.toUInt64 63)).toInt64 &&& (255 : Int64)).toInt32) hx hb d_X_byteAt_10 rfl ?_
  exact zz_iretG hx hb hr hlocks hP hD hS h d_X_byteAt_11

abbrev b_T_isPrimitive : ByteArray := prog_5_method_2_code
abbrev y_T_isPrimitive : MethodName := ⟨"MemberChooser$Types", "isPrimitive", "(I)Z"⟩
abbrev w_T_isPrimitive : List Cond := Cond.code y_T_isPrimitive b_T_isPrimitive 1 (some .boolean) :: zTb
theorem d_T_isPrimitive_0 : decode b_T_isPrimitive 0 = .ok (.iload_n 0, 1) := by decide +kernel
theorem d_T_isPrimitive_1 : decode b_T_isPrimitive 1 = .ok (.ifCond .lt 12, 3) := by decide +kernel
theorem d_T_isPrimitive_4 : decode b_T_isPrimitive 4 = .ok (.iload_n 0, 1) := by decide +kernel
theorem d_T_isPrimitive_5 : decode b_T_isPrimitive 5 = .ok (.iconst 2, 1) := by decide +kernel
theorem d_T_isPrimitive_6 : decode b_T_isPrimitive 6 = .ok (.if_icmp .gt 7, 3) := by decide +kernel
theorem d_T_isPrimitive_9 : decode b_T_isPrimitive 9 = .ok (.iconst 1, 1) := by decide +kernel
theorem d_T_isPrimitive_10 : decode b_T_isPrimitive 10 = .ok (.goto 4, 3) := by decide +kernel
theorem d_T_isPrimitive_13 : decode b_T_isPrimitive 13 = .ok (.iconst 0, 1) := by decide +kernel
theorem d_T_isPrimitive_14 : decode b_T_isPrimitive 14 = .ok (.ireturn, 1) := by decide +kernel
abbrev rm_T_isPrimitive : Room := { frames := 0, cells := 0, slots := 0, locals := 0 }
def fx_T_isPrimitive (n : Nat) (a0 : Int32) : Option (Int32) :=
  (if a0 < 0 then
  some (0 : Int32)
  else
  (if (2 : Int32) < a0 then
    some (0 : Int32)
    else
    some (1 : Int32)))

set_option maxRecDepth 100000 in
set_option maxHeartbeats 4000000 in
theorem k_T_isPrimitive (l : Launch) (z : zE) (w : va_W) (n : Nat) (a0 : Int32) (r0 : Int32) (h : fx_T_isPrimitive n a0 = some r0) : zC z l y_T_isPrimitive w_T_isPrimitive rm_T_isPrimitive [.int a0] w (some (.int r0)) w := by
  refine zz_of (by decide) (Nat.le_of_ble_eq_true rfl) ?_
  intro p e s m args below meth c A0 ls hM hr hlocks hA hP hD hl
  have hM : zM z p s m args c b_T_isPrimitive 1 R_T := hM
  obtain ⟨hx, hb, hml, hown, hts, hK, hN⟩ := id hM
  have hS : va_S A0 s.heap s.heap [] := va_S.rf
  have hl : lv_has ls 1 [(0, .int a0)] := hl
  unfold fx_T_isPrimitive at h
  refine lv_iload_n hx hb d_T_isPrimitive_0 rfl (lv_at hl 0 rfl) ?_
  refine lv_if_lt (tgt := 13) hx hb d_T_isPrimitive_1 (by decide) (fun c_1 => ?_) (fun c_1 => ?_)
  · replace h := zz_t c_1 h
    refine lv_iconst (v := 0) hx hb d_T_isPrimitive_13 (by decide) ?_
    exact zz_zretG hx hb hr hlocks hP hD hS rfl h d_T_isPrimitive_14
  · replace h := zz_f c_1 h
    refine lv_iload_n hx hb d_T_isPrimitive_4 rfl (lv_at hl 0 rfl) ?_
    refine lv_iconst (v := 2) hx hb d_T_isPrimitive_5 (by decide) ?_
    refine lv_icmp_gt (tgt := 13) hx hb d_T_isPrimitive_6 (by decide) (fun c_2 => ?_) (fun c_2 => ?_)
    · replace h := zz_t c_2 h
      refine lv_iconst (v := 0) hx hb d_T_isPrimitive_13 (by decide) ?_
      exact zz_zretG hx hb hr hlocks hP hD hS rfl h d_T_isPrimitive_14
    · replace h := zz_f c_2 h
      refine lv_iconst (v := 1) hx hb d_T_isPrimitive_9 (by decide) ?_
      refine lv_goto (tgt := 14) hx hb d_T_isPrimitive_10 (by decide) ?_
      exact zz_zretG hx hb hr hlocks hP hD hS rfl h d_T_isPrimitive_14

abbrev b_T_bit : ByteArray := prog_5_method_17_code
abbrev y_T_bit : MethodName := ⟨"MemberChooser$Types", "bit", "(I)I"⟩
abbrev w_T_bit : List Cond := Cond.code y_T_bit b_T_bit 1 (some .int) :: zTb
theorem d_T_bit_0 : decode b_T_bit 0 = .ok (.iconst 1, 1) := by decide +kernel
theorem d_T_bit_1 : decode b_T_bit 1 = .ok (.iload_n 0, 1) := by decide +kernel
theorem d_T_bit_2 : decode b_T_bit 2 = .ok (.ishl, 1) := by decide +kernel
theorem d_T_bit_3 : decode b_T_bit 3 = .ok (.ireturn, 1) := by decide +kernel
abbrev rm_T_bit : Room := { frames := 0, cells := 0, slots := 0, locals := 0 }
def fx_T_bit (n : Nat) (a0 : Int32) : Option (Int32) :=
  some ((1 : Int32) <<< (a0 &&& 31))

set_option maxRecDepth 100000 in
set_option maxHeartbeats 4000000 in
theorem k_T_bit (l : Launch) (z : zE) (w : va_W) (n : Nat) (a0 : Int32) (r0 : Int32) (h : fx_T_bit n a0 = some r0) : zC z l y_T_bit w_T_bit rm_T_bit [.int a0] w (some (.int r0)) w := by
  refine zz_of (by decide) (Nat.le_of_ble_eq_true rfl) ?_
  intro p e s m args below meth c A0 ls hM hr hlocks hA hP hD hl
  have hM : zM z p s m args c b_T_bit 1 R_T := hM
  obtain ⟨hx, hb, hml, hown, hts, hK, hN⟩ := id hM
  have hS : va_S A0 s.heap s.heap [] := va_S.rf
  have hl : lv_has ls 1 [(0, .int a0)] := hl
  unfold fx_T_bit at h
  refine lv_iconst (v := 1) hx hb d_T_bit_0 (by decide) ?_
  refine lv_iload_n hx hb d_T_bit_1 rfl (lv_at hl 0 rfl) ?_
  refine lv_ishl hx hb d_T_bit_2 ?_
  exact zz_iretG hx hb hr hlocks hP hD hS h d_T_bit_3

abbrev b_T_holds : ByteArray := prog_5_method_16_code
abbrev y_T_holds : MethodName := ⟨"MemberChooser$Types", "holds", "([III)Z"⟩
abbrev w_T_holds : List Cond := Cond.code y_T_holds b_T_holds 4 (some .boolean) :: zTb
theorem d_T_holds_0 : decode b_T_holds 0 = .ok (.iconst 0, 1) := by decide +kernel
theorem d_T_holds_1 : decode b_T_holds 1 = .ok (.istore_n 3, 1) := by decide +kernel
theorem d_T_holds_2 : decode b_T_holds 2 = .ok (.iload_n 3, 1) := by decide +kernel
theorem d_T_holds_3 : decode b_T_holds 3 = .ok (.iload_n 1, 1) := by decide +kernel
theorem d_T_holds_4 : decode b_T_holds 4 = .ok (.if_icmp .ge 24, 3) := by decide +kernel
theorem d_T_holds_7 : decode b_T_holds 7 = .ok (.iload_n 3, 1) := by decide +kernel
theorem d_T_holds_8 : decode b_T_holds 8 = .ok (.aload_n 0, 1) := by decide +kernel
theorem d_T_holds_9 : decode b_T_holds 9 = .ok (.arraylength, 1) := by decide +kernel
theorem d_T_holds_10 : decode b_T_holds 10 = .ok (.if_icmp .ge 18, 3) := by decide +kernel
theorem d_T_holds_13 : decode b_T_holds 13 = .ok (.aload_n 0, 1) := by decide +kernel
theorem d_T_holds_14 : decode b_T_holds 14 = .ok (.iload_n 3, 1) := by decide +kernel
theorem d_T_holds_15 : decode b_T_holds 15 = .ok (.iaload, 1) := by decide +kernel
theorem d_T_holds_16 : decode b_T_holds 16 = .ok (.iload_n 2, 1) := by decide +kernel
theorem d_T_holds_17 : decode b_T_holds 17 = .ok (.if_icmp .ne 5, 3) := by decide +kernel
theorem d_T_holds_20 : decode b_T_holds 20 = .ok (.iconst 1, 1) := by decide +kernel
theorem d_T_holds_21 : decode b_T_holds 21 = .ok (.ireturn, 1) := by decide +kernel
theorem d_T_holds_22 : decode b_T_holds 22 = .ok (.iinc 3 1, 3) := by decide +kernel
theorem d_T_holds_25 : decode b_T_holds 25 = .ok (.goto (-23), 3) := by decide +kernel
theorem d_T_holds_28 : decode b_T_holds 28 = .ok (.iconst 0, 1) := by decide +kernel
theorem d_T_holds_29 : decode b_T_holds 29 = .ok (.ireturn, 1) := by decide +kernel
abbrev rm_T_holds : Room := { frames := 0, cells := 0, slots := 0, locals := 0 }
def st_T_holds_L2 (n : Nat) (N0 : Nat) (f0 : Nat → Int32) (v1 : Int32) (v2 : Int32) (v3 : Int32) : Option ((Int32) ⊕ (Nat × Int32)) :=
  (if v1 ≤ v3 then
  some (.inr (28, v3))
  else
  (if (Int32.ofNat N0) ≤ v3 then
    some (.inr (28, v3))
    else
    (if zoob v3 N0 then none else
      (if (f0 v3.toNatClampNeg) = v2 then
      some (.inr (20, v3))
      else
      some (.inl ((v3 + (1 : Int32))))))))

def fx_T_holds_L2 (n : Nat) (N0 : Nat) (f0 : Nat → Int32) (v1 : Int32) (v2 : Int32) (v3 : Int32) : Option (Nat × Int32) := zloop (fun (st : Int32) => st_T_holds_L2 n N0 f0 v1 v2 st) n (v3)

def fx_T_holds (n : Nat) (N0 : Nat) (f0 : Nat → Int32) (a1 : Int32) (a2 : Int32) : Option (Int32) :=
  zbL1 (fx_T_holds_L2 n N0 f0 a1 a2 (0 : Int32)) (fun x_5 v3_5 =>
  if x_5 = 20 then
  some (1 : Int32)
  else if x_5 = 28 then
  some (0 : Int32)
  else none)

set_option maxRecDepth 100000 in
set_option maxHeartbeats 4000000 in
theorem lp_T_holds_L2 {z : zE} {w : va_W} {p : Program} {l : Launch} {e : Env} {s : State} {m : MethodId} {args : Array Value} {below : List Frame} {meth : Method} {c : Code} {Q : State → Prop} {H0 : Heap} {A0 : Nat → Prop} {a0 N0 kq : Nat} {f0 : Nat → Int32} (hq : w[kq]? = some (a0, .inl (zI z, N0, .inl f0))) (hM : zM z p s m args c b_T_holds 4 R_T) (hA : ∀ q : Nat, H0.size ≤ q → A0 q) (n : Nat) (v1 : Int32) (v2 : Int32) :
    ∀ (v3 : Int32) (r : Nat × Int32), fx_T_holds_L2 n N0 f0 v1 v2 v3 = some r → (∀ (H : Heap) (locs : List Loc) (ls : Array Slot), va_P z.1 vwCl w H → va_D A0 w → va_S A0 H0 H locs → lv_has ls 4 [(0, .ref a0), (1, .int v1), (2, .int v2), (3, .int r.2)] → W p l e rm_T_holds s m args below meth c H locs 0 0 Q (F0 m r.1 ls [])) →
    ∀ (H : Heap) (locs : List Loc) (ls : Array Slot), va_P z.1 vwCl w H → va_D A0 w → va_S A0 H0 H locs → lv_has ls 4 [(0, .ref a0), (1, .int v1), (2, .int v2), (3, .int v3)] → W p l e rm_T_holds s m args below meth c H locs 0 0 Q (F0 m 2 ls []) := by
  obtain ⟨hx, hb, hml, hown, hts, hK, hN⟩ := id hM
  intro v3 r h hE
  refine zz_loop (G := fun (st : Int32) => ∀ (H : Heap) (locs : List Loc) (ls : Array Slot), va_P z.1 vwCl w H → va_D A0 w → va_S A0 H0 H locs → lv_has ls 4 [(0, .ref a0), (1, .int v1), (2, .int v2), (3, .int st)] → W p l e rm_T_holds s m args below meth c H locs 0 0 Q (F0 m 2 ls [])) (E := fun (r : Nat × Int32) => ∀ (H : Heap) (locs : List Loc) (ls : Array Slot), va_P z.1 vwCl w H → va_D A0 w → va_S A0 H0 H locs → lv_has ls 4 [(0, .ref a0), (1, .int v1), (2, .int v2), (3, .int r.2)] → W p l e rm_T_holds s m args below meth c H locs 0 0 Q (F0 m r.1 ls [])) ?_ n (v3) r h hE
  clear h hE r v3
  intro v3 o h hG hE H locs ls hP hD hS hl
  have h : st_T_holds_L2 n N0 f0 v1 v2 v3 = some o := h
  have hl : lv_has ls 4 [(0, .ref a0), (1, .int v1), (2, .int v2), (3, .int v3)] := hl
  unfold st_T_holds_L2 at h
  refine lv_iload_n hx hb d_T_holds_2 rfl (lv_at hl 3 rfl) ?_
  refine lv_iload_n hx hb d_T_holds_3 rfl (lv_at hl 1 rfl) ?_
  refine lv_icmp_ge (tgt := 28) hx hb d_T_holds_4 (by decide) (fun c_1 => ?_) (fun c_1 => ?_)
  · replace h := zz_t c_1 h
    exact hE _ (Option.some.inj h).symm _ _ _ hP hD hS hl
  · replace h := zz_f c_1 h
    refine lv_iload_n hx hb d_T_holds_7 rfl (lv_at hl 3 rfl) ?_
    refine lv_aload_n hx hb d_T_holds_8 rfl (lv_at hl 0 rfl) ?_
    refine va_alen hx hb hK hP kq 0 hq rfl (v := (Int32.ofNat N0)) rfl d_T_holds_9 ?_
    refine lv_icmp_ge (tgt := 28) hx hb d_T_holds_10 (by decide) (fun c_2 => ?_) (fun c_2 => ?_)
    · replace h := zz_t c_2 h
      exact hE _ (Option.some.inj h).symm _ _ _ hP hD hS hl
    · replace h := zz_f c_2 h
      refine lv_aload_n hx hb d_T_holds_13 rfl (lv_at hl 0 rfl) ?_
      refine lv_iload_n hx hb d_T_holds_14 rfl (lv_at hl 3 rfl) ?_
      obtain ⟨c_3, h⟩ := zz_oob h
      refine va_iald hx hb hK hP kq 0 hq rfl c_3 d_T_holds_15 ?_
      refine lv_iload_n hx hb d_T_holds_16 rfl (lv_at hl 2 rfl) ?_
      refine lv_icmp_ne (tgt := 22) hx hb d_T_holds_17 (by decide) (fun c_4 => ?_) (fun c_4 => ?_)
      · replace h := zz_f c_4 h
        refine lv_iinc (v := (v3 + (1 : Int32))) (lv' := [(3, .int (v3 + (1 : Int32))), (0, .ref a0), (1, .int v1), (2, .int v2)]) hx hb d_T_holds_22 hl (k := 3) rfl rfl (by decide) rfl (fun ls hl => ?_)
        refine lv_goto (tgt := 2) hx hb d_T_holds_25 (by decide) ?_
        exact hG _ (Option.some.inj h).symm _ _ _ hP hD hS (lv_sub hl [1, 2, 3, 0] rfl)
      · replace h := zz_t c_4 h
        exact hE _ (Option.some.inj h).symm _ _ _ hP hD hS hl

set_option maxRecDepth 100000 in
set_option maxHeartbeats 4000000 in
theorem k_T_holds (l : Launch) (z : zE) (w : va_W) {a0 N0 kq : Nat} {f0 : Nat → Int32} (hq : w[kq]? = some (a0, .inl (zI z, N0, .inl f0))) (n : Nat) (a1 : Int32) (a2 : Int32) (r0 : Int32) (h : fx_T_holds n N0 f0 a1 a2 = some r0) : zC z l y_T_holds w_T_holds rm_T_holds [.ref a0, .int a1, .int a2] w (some (.int r0)) w := by
  refine zz_of (by decide) (Nat.le_of_ble_eq_true rfl) ?_
  intro p e s m args below meth c A0 ls hM hr hlocks hA hP hD hl
  have hM : zM z p s m args c b_T_holds 4 R_T := hM
  obtain ⟨hx, hb, hml, hown, hts, hK, hN⟩ := id hM
  have hS : va_S A0 s.heap s.heap [] := va_S.rf
  have hl : lv_has ls 4 [(0, .ref a0), (1, .int a1), (2, .int a2)] := hl
  unfold fx_T_holds at h
  refine lv_iconst (v := 0) hx hb d_T_holds_0 (by decide) ?_
  refine lv_istore_n (lv' := [(3, .int (0 : Int32)), (0, .ref a0), (1, .int a1), (2, .int a2)]) hx hb d_T_holds_1 rfl hl (by decide) rfl (fun ls hl => ?_)
  replace h := zz_bL1 h
  obtain ⟨x_5, v3_5, e_5, h⟩ := h
  refine lp_T_holds_L2 hq hM hA n a1 a2 _ _ e_5 ?_ _ _ _ hP hD hS (lv_sub hl [1, 2, 3, 0] rfl)
  intro H locs ls hP hD hS hl
  have hl : lv_has ls 4 [(0, .ref a0), (1, .int a1), (2, .int a2), (3, .int v3_5)] := hl
  by_cases c_5 : x_5 = 20
  · replace h := zz_t c_5 h
    subst c_5
    refine W.eq (g2 := F0 m 20 ls []) rfl ?_
    refine lv_iconst (v := 1) hx hb d_T_holds_20 (by decide) ?_
    exact zz_zretG hx hb hr hlocks hP hD hS rfl h d_T_holds_21
  replace h := zz_f c_5 h
  replace h := zz_grd h
  obtain ⟨c_5, h⟩ := h
  subst c_5
  refine W.eq (g2 := F0 m 28 ls []) rfl ?_
  refine lv_iconst (v := 0) hx hb d_T_holds_28 (by decide) ?_
  exact zz_zretG hx hb hr hlocks hP hD hS rfl h d_T_holds_29

abbrev b_I_bitCount : ByteArray := prog_12_method_49_code
abbrev y_I_bitCount : MethodName := ⟨"java/lang/Integer", "bitCount", "(I)I"⟩
abbrev w_I_bitCount : List Cond := Cond.code y_I_bitCount b_I_bitCount 1 (some .int) :: zTb
theorem d_I_bitCount_0 : decode b_I_bitCount 0 = .ok (.iload_n 0, 1) := by decide +kernel
theorem d_I_bitCount_1 : decode b_I_bitCount 1 = .ok (.iload_n 0, 1) := by decide +kernel
theorem d_I_bitCount_2 : decode b_I_bitCount 2 = .ok (.iconst 1, 1) := by decide +kernel
theorem d_I_bitCount_3 : decode b_I_bitCount 3 = .ok (.iushr, 1) := by decide +kernel
theorem d_I_bitCount_4 : decode b_I_bitCount 4 = .ok (.ldc_w 265, 3) := by decide +kernel
theorem d_I_bitCount_7 : decode b_I_bitCount 7 = .ok (.iand, 1) := by decide +kernel
theorem d_I_bitCount_8 : decode b_I_bitCount 8 = .ok (.isub, 1) := by decide +kernel
theorem d_I_bitCount_9 : decode b_I_bitCount 9 = .ok (.istore_n 0, 1) := by decide +kernel
theorem d_I_bitCount_10 : decode b_I_bitCount 10 = .ok (.iload_n 0, 1) := by decide +kernel
theorem d_I_bitCount_11 : decode b_I_bitCount 11 = .ok (.ldc_w 266, 3) := by decide +kernel
theorem d_I_bitCount_14 : decode b_I_bitCount 14 = .ok (.iand, 1) := by decide +kernel
theorem d_I_bitCount_15 : decode b_I_bitCount 15 = .ok (.iload_n 0, 1) := by decide +kernel
theorem d_I_bitCount_16 : decode b_I_bitCount 16 = .ok (.iconst 2, 1) := by decide +kernel
theorem d_I_bitCount_17 : decode b_I_bitCount 17 = .ok (.iushr, 1) := by decide +kernel
theorem d_I_bitCount_18 : decode b_I_bitCount 18 = .ok (.ldc_w 266, 3) := by decide +kernel
theorem d_I_bitCount_21 : decode b_I_bitCount 21 = .ok (.iand, 1) := by decide +kernel
theorem d_I_bitCount_22 : decode b_I_bitCount 22 = .ok (.iadd, 1) := by decide +kernel
theorem d_I_bitCount_23 : decode b_I_bitCount 23 = .ok (.istore_n 0, 1) := by decide +kernel
theorem d_I_bitCount_24 : decode b_I_bitCount 24 = .ok (.iload_n 0, 1) := by decide +kernel
theorem d_I_bitCount_25 : decode b_I_bitCount 25 = .ok (.iload_n 0, 1) := by decide +kernel
theorem d_I_bitCount_26 : decode b_I_bitCount 26 = .ok (.iconst 4, 1) := by decide +kernel
theorem d_I_bitCount_27 : decode b_I_bitCount 27 = .ok (.iushr, 1) := by decide +kernel
theorem d_I_bitCount_28 : decode b_I_bitCount 28 = .ok (.iadd, 1) := by decide +kernel
theorem d_I_bitCount_29 : decode b_I_bitCount 29 = .ok (.ldc_w 267, 3) := by decide +kernel
theorem d_I_bitCount_32 : decode b_I_bitCount 32 = .ok (.iand, 1) := by decide +kernel
theorem d_I_bitCount_33 : decode b_I_bitCount 33 = .ok (.istore_n 0, 1) := by decide +kernel
theorem d_I_bitCount_34 : decode b_I_bitCount 34 = .ok (.iload_n 0, 1) := by decide +kernel
theorem d_I_bitCount_35 : decode b_I_bitCount 35 = .ok (.iload_n 0, 1) := by decide +kernel
theorem d_I_bitCount_36 : decode b_I_bitCount 36 = .ok (.bipush 8, 2) := by decide +kernel
theorem d_I_bitCount_38 : decode b_I_bitCount 38 = .ok (.iushr, 1) := by decide +kernel
theorem d_I_bitCount_39 : decode b_I_bitCount 39 = .ok (.iadd, 1) := by decide +kernel
theorem d_I_bitCount_40 : decode b_I_bitCount 40 = .ok (.istore_n 0, 1) := by decide +kernel
theorem d_I_bitCount_41 : decode b_I_bitCount 41 = .ok (.iload_n 0, 1) := by decide +kernel
theorem d_I_bitCount_42 : decode b_I_bitCount 42 = .ok (.iload_n 0, 1) := by decide +kernel
theorem d_I_bitCount_43 : decode b_I_bitCount 43 = .ok (.bipush 16, 2) := by decide +kernel
theorem d_I_bitCount_45 : decode b_I_bitCount 45 = .ok (.iushr, 1) := by decide +kernel
theorem d_I_bitCount_46 : decode b_I_bitCount 46 = .ok (.iadd, 1) := by decide +kernel
theorem d_I_bitCount_47 : decode b_I_bitCount 47 = .ok (.istore_n 0, 1) := by decide +kernel
theorem d_I_bitCount_48 : decode b_I_bitCount 48 = .ok (.iload_n 0, 1) := by decide +kernel
theorem d_I_bitCount_49 : decode b_I_bitCount 49 = .ok (.bipush 63, 2) := by decide +kernel
theorem d_I_bitCount_51 : decode b_I_bitCount 51 = .ok (.iand, 1) := by decide +kernel
theorem d_I_bitCount_52 : decode b_I_bitCount 52 = .ok (.ireturn, 1) := by decide +kernel
abbrev rm_I_bitCount : Room := { frames := 0, cells := 0, slots := 0, locals := 0 }
def fx_I_bitCount (n : Nat) (a0 : Int32) : Option (Int32) :=
  some ((((((((a0 - ((a0.toUInt32 >>> ((1 : Int32).toUInt32 &&& Int32.toUInt32 31)).toInt32 &&& (1431655765 : Int32))) &&& (858993459 : Int32)) + (((a0 - ((a0.toUInt32 >>> ((1 : Int32).toUInt32 &&& Int32.toUInt32 31)).toInt32 &&& (1431655765 : Int32))).toUInt32 >>> ((2 : Int32).toUInt32 &&& Int32.toUInt32 31)).toInt32 &&& (858993459 : Int32))) + ((((a0 - ((a0.toUInt32 >>> ((1 : Int32).toUInt32 &&& Int32.toUInt32 31)).toInt32 &&& (1431655765 : Int32))) &&& (858993459 : Int32)) + (((a0 - ((a0.toUInt32 >>> ((1 : Int32).toUInt32 &&& Int32.toUInt32 31)).toInt32 &&& (1431655765 : Int32))).toUInt32 >>> ((2 : Int32).toUInt32 &&& Int32.toUInt32 31)).toInt32 &&& (858993459 : Int32))).toUInt32 >>> ((4 : Int32).toUInt32 &&& Int32.toUInt32 31)).toInt32) &&& (252645135 : Int32)) + ((((((a0 - ((a0.toUInt32 >>> ((1 : Int32).toUInt32 &&& Int32.toUInt32 31)).toInt32 &&& (1431655765 : Int32))) &&& (858993459 : Int32)) + (((a0 - ((a0.toUInt32 >>> ((1 : Int32).toUInt32 &&& Int32.toUInt32 31)).toInt32 &&& (1431655765 : Int32))).toUInt32 >>> ((2 : Int32).toUInt32 &&& Int32.toUInt32 31)).toInt32 &&& (858993459 : Int32))) + ((((a0 - ((a0.toUInt32 >>> ((1 : Int32).toUInt32 &&& Int32.toUInt32 31)).toInt32 &&& (1431655765 : Int32))) &&& (858993459 : Int32)) + (((a0 - ((a0.toUInt32 >>> ((1 : Int32).toUInt32 &&& Int32.toUInt32 31)).toInt32 &&& (1431655765 : Int32))).toUInt32 >>> ((2 : Int32).toUInt32 &&& Int32.toUInt32 31)).toInt32 &&& (858993459 : Int32))).toUInt32 >>> ((4 : Int32).toUInt32 &&& Int32.toUInt32 31)).toInt32) &&& (252645135 : Int32)).toUInt32 >>> ((8 : Int32).toUInt32 &&& Int32.toUInt32 31)).toInt32) + (((((((a0 - ((a0.toUInt32 >>> ((1 : Int32).toUInt32 &&& Int32.toUInt32 31)).toInt32 &&& (1431655765 : Int32))) &&& (858993459 : Int32)) + (((a0 - ((a0.toUInt32 >>> ((1 : Int32).toUInt32 &&& Int32.toUInt32 31)).toInt32 &&& (1431655765 : Int32))).toUInt32 >>> ((2 : Int32).toUInt32 &&& Int32.toUInt32 31)).toInt32 &&& (858993459 : Int32))) + ((((a0 - ((a0.toUInt32 >>> ((1 : Int32).toUInt32 &&& Int32.toUInt32 31)).toInt32 &&& (1431655765 : Int32))) &&& (858993459 : Int32)) + (((a0 - ((a0.toUInt32 >>> ((1 : Int32).toUInt32 &&& Int32.toUInt32 31)).toInt32 &&& (1431655765 : Int32))).toUInt32 >>> ((2 : Int32).toUInt32 &&& Int32.toUInt32 31)).toInt32 &&& (858993459 : Int32))).toUInt32 >>> ((4 : Int32).toUInt32 &&& Int32.toUInt32 31)).toInt32) &&& (252645135 : Int32)) + ((((((a0 - ((a0.toUInt32 >>> ((1 : Int32).toUInt32 &&& Int32.toUInt32 31)).toInt32 &&& (1431655765 : Int32))) &&& (858993459 : Int32)) + (((a0 - ((a0.toUInt32 >>> ((1 : Int32).toUInt32 &&& Int32.toUInt32 31)).toInt32 &&& (1431655765 : Int32))).toUInt32 >>> ((2 : Int32).toUInt32 &&& Int32.toUInt32 31)).toInt32 &&& (858993459 : Int32))) + ((((a0 - ((a0.toUInt32 >>> ((1 : Int32).toUInt32 &&& Int32.toUInt32 31)).toInt32 &&& (1431655765 : Int32))) &&& (858993459 : Int32)) + (((a0 - ((a0.toUInt32 >>> ((1 : Int32).toUInt32 &&& Int32.toUInt32 31)).toInt32 &&& (1431655765 : Int32))).toUInt32 >>> ((2 : Int32).toUInt32 &&& Int32.toUInt32 31)).toInt32 &&& (858993459 : Int32))).toUInt32 >>> ((4 : Int32).toUInt32 &&& Int32.toUInt32 31)).toInt32) &&& (252645135 : Int32)).toUInt32 >>> ((8 : Int32).toUInt32 &&& Int32.toUInt32 31)).toInt32).toUInt32 >>> ((16 : Int32).toUInt32 &&& Int32.toUInt32 31)).toInt32) &&& (63 : Int32))

set_option maxRecDepth 100000 in
set_option maxHeartbeats 4000000 in
theorem k_I_bitCount (l : Launch) (z : zE) (w : va_W) (n : Nat) (a0 : Int32) (r0 : Int32) (h : fx_I_bitCount n a0 = some r0) : zC z l y_I_bitCount w_I_bitCount rm_I_bitCount [.int a0] w (some (.int r0)) w := by
  refine zz_of (by decide) (Nat.le_of_ble_eq_true rfl) ?_
  intro p e s m args below meth c A0 ls hM hr hlocks hA hP hD hl
  have hM : zM z p s m args c b_I_bitCount 1 R_I := hM
  obtain ⟨hx, hb, hml, hown, hts, hK, hN⟩ := id hM
  have hS : va_S A0 s.heap s.heap [] := va_S.rf
  have hl : lv_has ls 1 [(0, .int a0)] := hl
  unfold fx_I_bitCount at h
  refine lv_iload_n hx hb d_I_bitCount_0 rfl (lv_at hl 0 rfl) ?_
  refine lv_iload_n hx hb d_I_bitCount_1 rfl (lv_at hl 0 rfl) ?_
  refine lv_iconst (v := 1) hx hb d_I_bitCount_2 (by decide) ?_
  refine lv_iushr (v := (a0.toUInt32 >>> ((1 : Int32).toUInt32 &&& Int32.toUInt32 31)).toInt32) hx hb d_I_bitCount_3 rfl ?_
  refine lv_ldcw (own := R_I) (v := 1431655765) hx hb hown (hts _ wq_270) d_I_bitCount_4 ?_
  refine lv_iand hx hb d_I_bitCount_7 ?_
  refine lv_isub hx hb d_I_bitCount_8 ?_
  refine lv_istore_n (lv' := [(0, .int (a0 - ((a0.toUInt32 >>> ((1 : Int32).toUInt32 &&& Int32.toUInt32 31)).toInt32 &&& (1431655765 : Int32))))]) hx hb d_I_bitCount_9 rfl hl (by decide) rfl (fun ls hl => ?_)
  refine lv_iload_n hx hb d_I_bitCount_10 rfl (lv_at hl 0 rfl) ?_
  refine lv_ldcw (own := R_I) (v := 858993459) hx hb hown (hts _ wq_271) d_I_bitCount_11 ?_
  refine lv_iand hx hb d_I_bitCount_14 ?_
  refine lv_iload_n hx hb d_I_bitCount_15 rfl (lv_at hl 0 rfl) ?_
  refine lv_iconst (v := 2) hx hb d_I_bitCount_16 (by decide) ?_
  refine lv_iushr (v := ((a0 - ((a0.toUInt32 >>> ((1 : Int32).toUInt32 &&& Int32.toUInt32 31)).toInt32 &&& (1431655765 : Int32))).toUInt32 >>> ((2 : Int32).toUInt32 &&& Int32.toUInt32 31)).toInt32) hx hb d_I_bitCount_17 rfl ?_
  refine lv_ldcw (own := R_I) (v := 858993459) hx hb hown (hts _ wq_271) d_I_bitCount_18 ?_
  refine lv_iand hx hb d_I_bitCount_21 ?_
  refine lv_iadd hx hb d_I_bitCount_22 ?_
  refine lv_istore_n (lv' := [(0, .int (((a0 - ((a0.toUInt32 >>> ((1 : Int32).toUInt32 &&& Int32.toUInt32 31)).toInt32 &&& (1431655765 : Int32))) &&& (858993459 : Int32)) + (((a0 - ((a0.toUInt32 >>> ((1 : Int32).toUInt32 &&& Int32.toUInt32 31)).toInt32 &&& (1431655765 : Int32))).toUInt32 >>> ((2 : Int32).toUInt32 &&& Int32.toUInt32 31)).toInt32 &&& (858993459 : Int32))))]) hx hb d_I_bitCount_23 rfl hl (by decide) rfl (fun ls hl => ?_)
  refine lv_iload_n hx hb d_I_bitCount_24 rfl (lv_at hl 0 rfl) ?_
  refine lv_iload_n hx hb d_I_bitCount_25 rfl (lv_at hl 0 rfl) ?_
  refine lv_iconst (v := 4) hx hb d_I_bitCount_26 (by decide) ?_
  refine lv_iushr (v := ((((a0 - ((a0.toUInt32 >>> ((1 : Int32).toUInt32 &&& Int32.toUInt32 31)).toInt32 &&& (1431655765 : Int32))) &&& (858993459 : Int32)) + (((a0 - ((a0.toUInt32 >>> ((1 : Int32).toUInt32 &&& Int32.toUInt32 31)).toInt32 &&& (1431655765 : Int32))).toUInt32 >>> ((2 : Int32).toUInt32 &&& Int32.toUInt32 31)).toInt32 &&& (858993459 : Int32))).toUInt32 >>> ((4 : Int32).toUInt32 &&& Int32.toUInt32 31)).toInt32) hx hb d_I_bitCount_27 rfl ?_
  refine lv_iadd hx hb d_I_bitCount_28 ?_
  refine lv_ldcw (own := R_I) (v := 252645135) hx hb hown (hts _ wq_272) d_I_bitCount_29 ?_
  refine lv_iand hx hb d_I_bitCount_32 ?_
  refine lv_istore_n (lv' := [(0, .int (((((a0 - ((a0.toUInt32 >>> ((1 : Int32).toUInt32 &&& Int32.toUInt32 31)).toInt32 &&& (1431655765 : Int32))) &&& (858993459 : Int32)) + (((a0 - ((a0.toUInt32 >>> ((1 : Int32).toUInt32 &&& Int32.toUInt32 31)).toInt32 &&& (1431655765 : Int32))).toUInt32 >>> ((2 : Int32).toUInt32 &&& Int32.toUInt32 31)).toInt32 &&& (858993459 : Int32))) + ((((a0 - ((a0.toUInt32 >>> ((1 : Int32).toUInt32 &&& Int32.toUInt32 31)).toInt32 &&& (1431655765 : Int32))) &&& (858993459 : Int32)) + (((a0 - ((a0.toUInt32 >>> ((1 : Int32).toUInt32 &&& Int32.toUInt32 31)).toInt32 &&& (1431655765 : Int32))).toUInt32 >>> ((2 : Int32).toUInt32 &&& Int32.toUInt32 31)).toInt32 &&& (858993459 : Int32))).toUInt32 >>> ((4 : Int32).toUInt32 &&& Int32.toUInt32 31)).toInt32) &&& (252645135 : Int32)))]) hx hb d_I_bitCount_33 rfl hl (by decide) rfl (fun ls hl => ?_)
  refine lv_iload_n hx hb d_I_bitCount_34 rfl (lv_at hl 0 rfl) ?_
  refine lv_iload_n hx hb d_I_bitCount_35 rfl (lv_at hl 0 rfl) ?_
  refine lv_bipush (v := 8) hx hb d_I_bitCount_36 (by decide) ?_
  refine lv_iushr (v := ((((((a0 - ((a0.toUInt32 >>> ((1 : Int32).toUInt32 &&& Int32.toUInt32 31)).toInt32 &&& (1431655765 : Int32))) &&& (858993459 : Int32)) + (((a0 - ((a0.toUInt32 >>> ((1 : Int32).toUInt32 &&& Int32.toUInt32 31)).toInt32 &&& (1431655765 : Int32))).toUInt32 >>> ((2 : Int32).toUInt32 &&& Int32.toUInt32 31)).toInt32 &&& (858993459 : Int32))) + ((((a0 - ((a0.toUInt32 >>> ((1 : Int32).toUInt32 &&& Int32.toUInt32 31)).toInt32 &&& (1431655765 : Int32))) &&& (858993459 : Int32)) + (((a0 - ((a0.toUInt32 >>> ((1 : Int32).toUInt32 &&& Int32.toUInt32 31)).toInt32 &&& (1431655765 : Int32))).toUInt32 >>> ((2 : Int32).toUInt32 &&& Int32.toUInt32 31)).toInt32 &&& (858993459 : Int32))).toUInt32 >>> ((4 : Int32).toUInt32 &&& Int32.toUInt32 31)).toInt32) &&& (252645135 : Int32)).toUInt32 >>> ((8 : Int32).toUInt32 &&& Int32.toUInt32 31)).toInt32) hx hb d_I_bitCount_38 rfl ?_
  refine lv_iadd hx hb d_I_bitCount_39 ?_
  refine lv_istore_n (lv' := [(0, .int ((((((a0 - ((a0.toUInt32 >>> ((1 : Int32).toUInt32 &&& Int32.toUInt32 31)).toInt32 &&& (1431655765 : Int32))) &&& (858993459 : Int32)) + (((a0 - ((a0.toUInt32 >>> ((1 : Int32).toUInt32 &&& Int32.toUInt32 31)).toInt32 &&& (1431655765 : Int32))).toUInt32 >>> ((2 : Int32).toUInt32 &&& Int32.toUInt32 31)).toInt32 &&& (858993459 : Int32))) + ((((a0 - ((a0.toUInt32 >>> ((1 : Int32).toUInt32 &&& Int32.toUInt32 31)).toInt32 &&& (1431655765 : Int32))) &&& (858993459 : Int32)) + (((a0 - ((a0.toUInt32 >>> ((1 : Int32).toUInt32 &&& Int32.toUInt32 31)).toInt32 &&& (1431655765 : Int32))).toUInt32 >>> ((2 : Int32).toUInt32 &&& Int32.toUInt32 31)).toInt32 &&& (858993459 : Int32))).toUInt32 >>> ((4 : Int32).toUInt32 &&& Int32.toUInt32 31)).toInt32) &&& (252645135 : Int32)) + ((((((a0 - ((a0.toUInt32 >>> ((1 : Int32).toUInt32 &&& Int32.toUInt32 31)).toInt32 &&& (1431655765 : Int32))) &&& (858993459 : Int32)) + (((a0 - ((a0.toUInt32 >>> ((1 : Int32).toUInt32 &&& Int32.toUInt32 31)).toInt32 &&& (1431655765 : Int32))).toUInt32 >>> ((2 : Int32).toUInt32 &&& Int32.toUInt32 31)).toInt32 &&& (858993459 : Int32))) + ((((a0 - ((a0.toUInt32 >>> ((1 : Int32).toUInt32 &&& Int32.toUInt32 31)).toInt32 &&& (1431655765 : Int32))) &&& (858993459 : Int32)) + (((a0 - ((a0.toUInt32 >>> ((1 : Int32).toUInt32 &&& Int32.toUInt32 31)).toInt32 &&& (1431655765 : Int32))).toUInt32 >>> ((2 : Int32).toUInt32 &&& Int32.toUInt32 31)).toInt32 &&& (858993459 : Int32))).toUInt32 >>> ((4 : Int32).toUInt32 &&& Int32.toUInt32 31)).toInt32) &&& (252645135 : Int32)).toUInt32 >>> ((8 : Int32).toUInt32 &&& Int32.toUInt32 31)).toInt32))]) hx hb d_I_bitCount_40 rfl hl (by decide) rfl (fun ls hl => ?_)
  refine lv_iload_n hx hb d_I_bitCount_41 rfl (lv_at hl 0 rfl) ?_
  refine lv_iload_n hx hb d_I_bitCount_42 rfl (lv_at hl 0 rfl) ?_
  refine lv_bipush (v := 16) hx hb d_I_bitCount_43 (by decide) ?_
  refine lv_iushr (v := (((((((a0 - ((a0.toUInt32 >>> ((1 : Int32).toUInt32 &&& Int32.toUInt32 31)).toInt32 &&& (1431655765 : Int32))) &&& (858993459 : Int32)) + (((a0 - ((a0.toUInt32 >>> ((1 : Int32).toUInt32 &&& Int32.toUInt32 31)).toInt32 &&& (1431655765 : Int32))).toUInt32 >>> ((2 : Int32).toUInt32 &&& Int32.toUInt32 31)).toInt32 &&& (858993459 : Int32))) + ((((a0 - ((a0.toUInt32 >>> ((1 : Int32).toUInt32 &&& Int32.toUInt32 31)).toInt32 &&& (1431655765 : Int32))) &&& (858993459 : Int32)) + (((a0 - ((a0.toUInt32 >>> ((1 : Int32).toUInt32 &&& Int32.toUInt32 31)).toInt32 &&& (1431655765 : Int32))).toUInt32 >>> ((2 : Int32).toUInt32 &&& Int32.toUInt32 31)).toInt32 &&& (858993459 : Int32))).toUInt32 >>> ((4 : Int32).toUInt32 &&& Int32.toUInt32 31)).toInt32) &&& (252645135 : Int32)) + ((((((a0 - ((a0.toUInt32 >>> ((1 : Int32).toUInt32 &&& Int32.toUInt32 31)).toInt32 &&& (1431655765 : Int32))) &&& (858993459 : Int32)) + (((a0 - ((a0.toUInt32 >>> ((1 : Int32).toUInt32 &&& Int32.toUInt32 31)).toInt32 &&& (1431655765 : Int32))).toUInt32 >>> ((2 : Int32).toUInt32 &&& Int32.toUInt32 31)).toInt32 &&& (858993459 : Int32))) + ((((a0 - ((a0.toUInt32 >>> ((1 : Int32).toUInt32 &&& Int32.toUInt32 31)).toInt32 &&& (1431655765 : Int32))) &&& (858993459 : Int32)) + (((a0 - ((a0.toUInt32 >>> ((1 : Int32).toUInt32 &&& Int32.toUInt32 31)).toInt32 &&& (1431655765 : Int32))).toUInt32 >>> ((2 : Int32).toUInt32 &&& Int32.toUInt32 31)).toInt32 &&& (858993459 : Int32))).toUInt32 >>> ((4 : Int32).toUInt32 &&& Int32.toUInt32 31)).toInt32) &&& (252645135 : Int32)).toUInt32 >>> ((8 : Int32).toUInt32 &&& Int32.toUInt32 31)).toInt32).toUInt32 >>> ((16 : Int32).toUInt32 &&& Int32.toUInt32 31)).toInt32) hx hb d_I_bitCount_45 rfl ?_
  refine lv_iadd hx hb d_I_bitCount_46 ?_
  refine lv_istore_n (lv' := [(0, .int (((((((a0 - ((a0.toUInt32 >>> ((1 : Int32).toUInt32 &&& Int32.toUInt32 31)).toInt32 &&& (1431655765 : Int32))) &&& (858993459 : Int32)) + (((a0 - ((a0.toUInt32 >>> ((1 : Int32).toUInt32 &&& Int32.toUInt32 31)).toInt32 &&& (1431655765 : Int32))).toUInt32 >>> ((2 : Int32).toUInt32 &&& Int32.toUInt32 31)).toInt32 &&& (858993459 : Int32))) + ((((a0 - ((a0.toUInt32 >>> ((1 : Int32).toUInt32 &&& Int32.toUInt32 31)).toInt32 &&& (1431655765 : Int32))) &&& (858993459 : Int32)) + (((a0 - ((a0.toUInt32 >>> ((1 : Int32).toUInt32 &&& Int32.toUInt32 31)).toInt32 &&& (1431655765 : Int32))).toUInt32 >>> ((2 : Int32).toUInt32 &&& Int32.toUInt32 31)).toInt32 &&& (858993459 : Int32))).toUInt32 >>> ((4 : Int32).toUInt32 &&& Int32.toUInt32 31)).toInt32) &&& (252645135 : Int32)) + ((((((a0 - ((a0.toUInt32 >>> ((1 : Int32).toUInt32 &&& Int32.toUInt32 31)).toInt32 &&& (1431655765 : Int32))) &&& (858993459 : Int32)) + (((a0 - ((a0.toUInt32 >>> ((1 : Int32).toUInt32 &&& Int32.toUInt32 31)).toInt32 &&& (1431655765 : Int32))).toUInt32 >>> ((2 : Int32).toUInt32 &&& Int32.toUInt32 31)).toInt32 &&& (858993459 : Int32))) + ((((a0 - ((a0.toUInt32 >>> ((1 : Int32).toUInt32 &&& Int32.toUInt32 31)).toInt32 &&& (1431655765 : Int32))) &&& (858993459 : Int32)) + (((a0 - ((a0.toUInt32 >>> ((1 : Int32).toUInt32 &&& Int32.toUInt32 31)).toInt32 &&& (1431655765 : Int32))).toUInt32 >>> ((2 : Int32).toUInt32 &&& Int32.toUInt32 31)).toInt32 &&& (858993459 : Int32))).toUInt32 >>> ((4 : Int32).toUInt32 &&& Int32.toUInt32 31)).toInt32) &&& (252645135 : Int32)).toUInt32 >>> ((8 : Int32).toUInt32 &&& Int32.toUInt32 31)).toInt32) + (((((((a0 - ((a0.toUInt32 >>> ((1 : Int32).toUInt32 &&& Int32.toUInt32 31)).toInt32 &&& (1431655765 : Int32))) &&& (858993459 : Int32)) + (((a0 - ((a0.toUInt32 >>> ((1 : Int32).toUInt32 &&& Int32.toUInt32 31)).toInt32 &&& (1431655765 : Int32))).toUInt32 >>> ((2 : Int32).toUInt32 &&& Int32.toUInt32 31)).toInt32 &&& (858993459 : Int32))) + ((((a0 - ((a0.toUInt32 >>> ((1 : Int32).toUInt32 &&& Int32.toUInt32 31)).toInt32 &&& (1431655765 : Int32))) &&& (858993459 : Int32)) + (((a0 - ((a0.toUInt32 >>> ((1 : Int32).toUInt32 &&& Int32.toUInt32 31)).toInt32 &&& (1431655765 : Int32))).toUInt32 >>> ((2 : Int32).toUInt32 &&& Int32.toUInt32 31)).toInt32 &&& (858993459 : Int32))).toUInt32 >>> ((4 : Int32).toUInt32 &&& Int32.toUInt32 31)).toInt32) &&& (252645135 : Int32)) + ((((((a0 - ((a0.toUInt32 >>> ((1 : Int32).toUInt32 &&& Int32.toUInt32 31)).toInt32 &&& (1431655765 : Int32))) &&& (858993459 : Int32)) + (((a0 - ((a0.toUInt32 >>> ((1 : Int32).toUInt32 &&& Int32.toUInt32 31)).toInt32 &&& (1431655765 : Int32))).toUInt32 >>> ((2 : Int32).toUInt32 &&& Int32.toUInt32 31)).toInt32 &&& (858993459 : Int32))) + ((((a0 - ((a0.toUInt32 >>> ((1 : Int32).toUInt32 &&& Int32.toUInt32 31)).toInt32 &&& (1431655765 : Int32))) &&& (858993459 : Int32)) + (((a0 - ((a0.toUInt32 >>> ((1 : Int32).toUInt32 &&& Int32.toUInt32 31)).toInt32 &&& (1431655765 : Int32))).toUInt32 >>> ((2 : Int32).toUInt32 &&& Int32.toUInt32 31)).toInt32 &&& (858993459 : Int32))).toUInt32 >>> ((4 : Int32).toUInt32 &&& Int32.toUInt32 31)).toInt32) &&& (252645135 : Int32)).toUInt32 >>> ((8 : Int32).toUInt32 &&& Int32.toUInt32 31)).toInt32).toUInt32 >>> ((16 : Int32).toUInt32 &&& Int32.toUInt32 31)).toInt32))]) hx hb d_I_bitCount_47 rfl hl (by decide) rfl (fun ls hl => ?_)
  refine lv_iload_n hx hb d_I_bitCount_48 rfl (lv_at hl 0 rfl) ?_
  refine lv_bipush (v := 63) hx hb d_I_bitCount_49 (by decide) ?_
  refine lv_iand hx hb d_I_bitCount_51 ?_
  exact zz_iretG hx hb hr hlocks hP hD hS h d_I_bitCount_52

abbrev b_X_isName : ByteArray := prog_1_method_15_code
abbrev y_X_isName : MethodName := ⟨"MemberChooser", "isName", "(I)Z"⟩
abbrev w_X_isName : List Cond := Cond.code y_X_isName b_X_isName 1 (some .boolean) :: zTb
theorem d_X_isName_0 : decode b_X_isName 0 = .ok (.iload_n 0, 1) := by decide +kernel
theorem d_X_isName_1 : decode b_X_isName 1 = .ok (.ifCond .lt 13, 3) := by decide +kernel
theorem d_X_isName_4 : decode b_X_isName 4 = .ok (.iload_n 0, 1) := by decide +kernel
theorem d_X_isName_5 : decode b_X_isName 5 = .ok (.bipush 10, 2) := by decide +kernel
theorem d_X_isName_7 : decode b_X_isName 7 = .ok (.if_icmp .ge 7, 3) := by decide +kernel
theorem d_X_isName_10 : decode b_X_isName 10 = .ok (.iconst 1, 1) := by decide +kernel
theorem d_X_isName_11 : decode b_X_isName 11 = .ok (.goto 4, 3) := by decide +kernel
theorem d_X_isName_14 : decode b_X_isName 14 = .ok (.iconst 0, 1) := by decide +kernel
theorem d_X_isName_15 : decode b_X_isName 15 = .ok (.ireturn, 1) := by decide +kernel
abbrev rm_X_isName : Room := { frames := 0, cells := 0, slots := 0, locals := 0 }
def fx_X_isName (n : Nat) (a0 : Int32) : Option (Int32) :=
  (if a0 < 0 then
  some (0 : Int32)
  else
  (if (10 : Int32) ≤ a0 then
    some (0 : Int32)
    else
    some (1 : Int32)))

set_option maxRecDepth 100000 in
set_option maxHeartbeats 4000000 in
theorem k_X_isName (l : Launch) (z : zE) (w : va_W) (n : Nat) (a0 : Int32) (r0 : Int32) (h : fx_X_isName n a0 = some r0) : zC z l y_X_isName w_X_isName rm_X_isName [.int a0] w (some (.int r0)) w := by
  refine zz_of (by decide) (Nat.le_of_ble_eq_true rfl) ?_
  intro p e s m args below meth c A0 ls hM hr hlocks hA hP hD hl
  have hM : zM z p s m args c b_X_isName 1 R_X := hM
  obtain ⟨hx, hb, hml, hown, hts, hK, hN⟩ := id hM
  have hS : va_S A0 s.heap s.heap [] := va_S.rf
  have hl : lv_has ls 1 [(0, .int a0)] := hl
  unfold fx_X_isName at h
  refine lv_iload_n hx hb d_X_isName_0 rfl (lv_at hl 0 rfl) ?_
  refine lv_if_lt (tgt := 14) hx hb d_X_isName_1 (by decide) (fun c_1 => ?_) (fun c_1 => ?_)
  · replace h := zz_t c_1 h
    refine lv_iconst (v := 0) hx hb d_X_isName_14 (by decide) ?_
    exact zz_zretG hx hb hr hlocks hP hD hS rfl h d_X_isName_15
  · replace h := zz_f c_1 h
    refine lv_iload_n hx hb d_X_isName_4 rfl (lv_at hl 0 rfl) ?_
    refine lv_bipush (v := 10) hx hb d_X_isName_5 (by decide) ?_
    refine lv_icmp_ge (tgt := 14) hx hb d_X_isName_7 (by decide) (fun c_2 => ?_) (fun c_2 => ?_)
    · replace h := zz_t c_2 h
      refine lv_iconst (v := 0) hx hb d_X_isName_14 (by decide) ?_
      exact zz_zretG hx hb hr hlocks hP hD hS rfl h d_X_isName_15
    · replace h := zz_f c_2 h
      refine lv_iconst (v := 1) hx hb d_X_isName_10 (by decide) ?_
      refine lv_goto (tgt := 15) hx hb d_X_isName_11 (by decide) ?_
      exact zz_zretG hx hb hr hlocks hP hD hS rfl h d_X_isName_15

abbrev b_X_lowestBytes : ByteArray := prog_1_method_17_code
abbrev y_X_lowestBytes : MethodName := ⟨"MemberChooser", "lowestBytes", "(JI)J"⟩
abbrev w_X_lowestBytes : List Cond := Cond.code y_X_lowestBytes b_X_lowestBytes 3 (some .long) :: zTb
theorem d_X_lowestBytes_0 : decode b_X_lowestBytes 0 = .ok (.lload_n 0, 1) := by decide +kernel
theorem d_X_lowestBytes_1 : decode b_X_lowestBytes 1 = .ok (.lconst 1, 1) := by decide +kernel
theorem d_X_lowestBytes_2 : decode b_X_lowestBytes 2 = .ok (.bipush 8, 2) := by decide +kernel
theorem d_X_lowestBytes_4 : decode b_X_lowestBytes 4 = .ok (.iload_n 2, 1) := by decide +kernel
theorem d_X_lowestBytes_5 : decode b_X_lowestBytes 5 = .ok (.imul, 1) := by decide +kernel
theorem d_X_lowestBytes_6 : decode b_X_lowestBytes 6 = .ok (.lshl, 1) := by decide +kernel
theorem d_X_lowestBytes_7 : decode b_X_lowestBytes 7 = .ok (.lconst 1, 1) := by decide +kernel
theorem d_X_lowestBytes_8 : decode b_X_lowestBytes 8 = .ok (.lsub, 1) := by decide +kernel
theorem d_X_lowestBytes_9 : decode b_X_lowestBytes 9 = .ok (.land, 1) := by decide +kernel
theorem d_X_lowestBytes_10 : decode b_X_lowestBytes 10 = .ok (.lreturn, 1) := by decide +kernel
abbrev rm_X_lowestBytes : Room := { frames := 0, cells := 0, slots := 0, locals := 0 }
def fx_X_lowestBytes (n : Nat) (a0 : Int64) (a2 : Int32) : Option (Int64) :=
  some (a0 &&& (((1 : Int64) <<< (((8 : Int32) * a2).toInt64 &&& 63)) - (1 : Int64)))

set_option maxRecDepth 100000 in
set_option maxHeartbeats 4000000 in
theorem k_X_lowestBytes (l : Launch) (z : zE) (w : va_W) (n : Nat) (a0 : Int64) (a2 : Int32) (r0 : Int64) (h : fx_X_lowestBytes n a0 a2 = some r0) : zC z l y_X_lowestBytes w_X_lowestBytes rm_X_lowestBytes [.long a0, .int a2] w (some (.long r0)) w := by
  refine zz_of (by decide) (Nat.le_of_ble_eq_true rfl) ?_
  intro p e s m args below meth c A0 ls hM hr hlocks hA hP hD hl
  have hM : zM z p s m args c b_X_lowestBytes 3 R_X := hM
  obtain ⟨hx, hb, hml, hown, hts, hK, hN⟩ := id hM
  have hS : va_S A0 s.heap s.heap [] := va_S.rf
  have hl : lv_has ls 3 [(0, .long a0), (2, .int a2)] := hl
  unfold fx_X_lowestBytes at h
  refine lv_lload_n hx hb d_X_lowestBytes_0 rfl (lv_at hl 0 rfl) ?_
  refine lv_lconst (v := 1) hx hb d_X_lowestBytes_1 (by decide) ?_
  refine lv_bipush (v := 8) hx hb d_X_lowestBytes_2 (by decide) ?_
  refine lv_iload_n hx hb d_X_lowestBytes_4 rfl (lv_at hl 1 rfl) ?_
  refine lv_imul hx hb d_X_lowestBytes_5 ?_
  refine lv_lshl (v := ((1 : Int64) <<< (((8 : Int32) * a2).toInt64 &&& 63))) hx hb d_X_lowestBytes_6 rfl ?_
  refine lv_lconst (v := 1) hx hb d_X_lowestBytes_7 (by decide) ?_
  refine lv_lsub hx hb d_X_lowestBytes_8 ?_
  refine lv_land hx hb d_X_lowestBytes_9 ?_
  exact zz_lretG hx hb hr hlocks hP hD hS h d_X_lowestBytes_10

abbrev b_H_unboxesTo : ByteArray := prog_2_method_11_code
abbrev y_H_unboxesTo : MethodName := ⟨"MemberChooser$Chooser", "unboxesTo", "(II)Z"⟩
abbrev w_H_unboxesTo : List Cond := Cond.code y_H_unboxesTo b_H_unboxesTo 2 (some .boolean) :: zTb
theorem d_H_unboxesTo_0 : decode b_H_unboxesTo 0 = .ok (.iload_n 0, 1) := by decide +kernel
theorem d_H_unboxesTo_1 : decode b_H_unboxesTo 1 = .ok (.tableswitch 64 3 5 #[27, 42, 53], 27) := by decide +kernel
theorem d_H_unboxesTo_28 : decode b_H_unboxesTo 28 = .ok (.iload_n 1, 1) := by decide +kernel
theorem d_H_unboxesTo_29 : decode b_H_unboxesTo 29 = .ok (.ifCond .eq 8, 3) := by decide +kernel
theorem d_H_unboxesTo_32 : decode b_H_unboxesTo 32 = .ok (.iload_n 1, 1) := by decide +kernel
theorem d_H_unboxesTo_33 : decode b_H_unboxesTo 33 = .ok (.iconst 1, 1) := by decide +kernel
theorem d_H_unboxesTo_34 : decode b_H_unboxesTo 34 = .ok (.if_icmp .ne 7, 3) := by decide +kernel
theorem d_H_unboxesTo_37 : decode b_H_unboxesTo 37 = .ok (.iconst 1, 1) := by decide +kernel
theorem d_H_unboxesTo_38 : decode b_H_unboxesTo 38 = .ok (.goto 4, 3) := by decide +kernel
theorem d_H_unboxesTo_41 : decode b_H_unboxesTo 41 = .ok (.iconst 0, 1) := by decide +kernel
theorem d_H_unboxesTo_42 : decode b_H_unboxesTo 42 = .ok (.ireturn, 1) := by decide +kernel
theorem d_H_unboxesTo_43 : decode b_H_unboxesTo 43 = .ok (.iload_n 1, 1) := by decide +kernel
theorem d_H_unboxesTo_44 : decode b_H_unboxesTo 44 = .ok (.iconst 1, 1) := by decide +kernel
theorem d_H_unboxesTo_45 : decode b_H_unboxesTo 45 = .ok (.if_icmp .ne 7, 3) := by decide +kernel
theorem d_H_unboxesTo_48 : decode b_H_unboxesTo 48 = .ok (.iconst 1, 1) := by decide +kernel
theorem d_H_unboxesTo_49 : decode b_H_unboxesTo 49 = .ok (.goto 4, 3) := by decide +kernel
theorem d_H_unboxesTo_52 : decode b_H_unboxesTo 52 = .ok (.iconst 0, 1) := by decide +kernel
theorem d_H_unboxesTo_53 : decode b_H_unboxesTo 53 = .ok (.ireturn, 1) := by decide +kernel
theorem d_H_unboxesTo_54 : decode b_H_unboxesTo 54 = .ok (.iload_n 1, 1) := by decide +kernel
theorem d_H_unboxesTo_55 : decode b_H_unboxesTo 55 = .ok (.iconst 2, 1) := by decide +kernel
theorem d_H_unboxesTo_56 : decode b_H_unboxesTo 56 = .ok (.if_icmp .ne 7, 3) := by decide +kernel
theorem d_H_unboxesTo_59 : decode b_H_unboxesTo 59 = .ok (.iconst 1, 1) := by decide +kernel
theorem d_H_unboxesTo_60 : decode b_H_unboxesTo 60 = .ok (.goto 4, 3) := by decide +kernel
theorem d_H_unboxesTo_63 : decode b_H_unboxesTo 63 = .ok (.iconst 0, 1) := by decide +kernel
theorem d_H_unboxesTo_64 : decode b_H_unboxesTo 64 = .ok (.ireturn, 1) := by decide +kernel
theorem d_H_unboxesTo_65 : decode b_H_unboxesTo 65 = .ok (.iconst 0, 1) := by decide +kernel
theorem d_H_unboxesTo_66 : decode b_H_unboxesTo 66 = .ok (.ireturn, 1) := by decide +kernel
abbrev rm_H_unboxesTo : Room := { frames := 0, cells := 0, slots := 0, locals := 0 }
def fx_H_unboxesTo (n : Nat) (a0 : Int32) (a1 : Int32) : Option (Int32) :=
  (if a0 = (3 : Int32) then
  (if a1 = 0 then
    some (1 : Int32)
    else
    (if a1 = (1 : Int32) then
      some (1 : Int32)
      else
      some (0 : Int32)))
  else (if a0 = (4 : Int32) then
  (if a1 = (1 : Int32) then
    some (1 : Int32)
    else
    some (0 : Int32))
  else (if a0 = (5 : Int32) then
  (if a1 = (2 : Int32) then
    some (1 : Int32)
    else
    some (0 : Int32))
  else some (0 : Int32))))

set_option maxRecDepth 100000 in
set_option maxHeartbeats 4000000 in
theorem k_H_unboxesTo (l : Launch) (z : zE) (w : va_W) (n : Nat) (a0 : Int32) (a1 : Int32) (r0 : Int32) (h : fx_H_unboxesTo n a0 a1 = some r0) : zC z l y_H_unboxesTo w_H_unboxesTo rm_H_unboxesTo [.int a0, .int a1] w (some (.int r0)) w := by
  refine zz_of (by decide) (Nat.le_of_ble_eq_true rfl) ?_
  intro p e s m args below meth c A0 ls hM hr hlocks hA hP hD hl
  have hM : zM z p s m args c b_H_unboxesTo 2 R_H := hM
  obtain ⟨hx, hb, hml, hown, hts, hK, hN⟩ := id hM
  have hS : va_S A0 s.heap s.heap [] := va_S.rf
  have hl : lv_has ls 2 [(0, .int a0), (1, .int a1)] := hl
  unfold fx_H_unboxesTo at h
  refine lv_iload_n hx hb d_H_unboxesTo_0 rfl (lv_at hl 0 rfl) ?_
  by_cases c_1 : a0 = (3 : Int32)
  · replace h := zz_t c_1 h
    refine lv_tableIn (tgt := 28) hx hb d_H_unboxesTo_1 (by rw [c_1]; decide) (by rw [c_1]; decide) (by rw [c_1]; rfl) (by decide) ?_
    refine lv_iload_n hx hb d_H_unboxesTo_28 rfl (lv_at hl 1 rfl) ?_
    refine lv_if_eq (tgt := 37) hx hb d_H_unboxesTo_29 (by decide) (fun c_2 => ?_) (fun c_2 => ?_)
    · replace h := zz_t c_2 h
      refine lv_iconst (v := 1) hx hb d_H_unboxesTo_37 (by decide) ?_
      refine lv_goto (tgt := 42) hx hb d_H_unboxesTo_38 (by decide) ?_
      exact zz_zretG hx hb hr hlocks hP hD hS rfl h d_H_unboxesTo_42
    · replace h := zz_f c_2 h
      refine lv_iload_n hx hb d_H_unboxesTo_32 rfl (lv_at hl 1 rfl) ?_
      refine lv_iconst (v := 1) hx hb d_H_unboxesTo_33 (by decide) ?_
      refine lv_icmp_ne (tgt := 41) hx hb d_H_unboxesTo_34 (by decide) (fun c_3 => ?_) (fun c_3 => ?_)
      · replace h := zz_f c_3 h
        refine lv_iconst (v := 0) hx hb d_H_unboxesTo_41 (by decide) ?_
        exact zz_zretG hx hb hr hlocks hP hD hS rfl h d_H_unboxesTo_42
      · replace h := zz_t c_3 h
        refine lv_iconst (v := 1) hx hb d_H_unboxesTo_37 (by decide) ?_
        refine lv_goto (tgt := 42) hx hb d_H_unboxesTo_38 (by decide) ?_
        exact zz_zretG hx hb hr hlocks hP hD hS rfl h d_H_unboxesTo_42
  replace h := zz_f c_1 h
  by_cases c_4 : a0 = (4 : Int32)
  · replace h := zz_t c_4 h
    refine lv_tableIn (tgt := 43) hx hb d_H_unboxesTo_1 (by rw [c_4]; decide) (by rw [c_4]; decide) (by rw [c_4]; rfl) (by decide) ?_
    refine lv_iload_n hx hb d_H_unboxesTo_43 rfl (lv_at hl 1 rfl) ?_
    refine lv_iconst (v := 1) hx hb d_H_unboxesTo_44 (by decide) ?_
    refine lv_icmp_ne (tgt := 52) hx hb d_H_unboxesTo_45 (by decide) (fun c_5 => ?_) (fun c_5 => ?_)
    · replace h := zz_f c_5 h
      refine lv_iconst (v := 0) hx hb d_H_unboxesTo_52 (by decide) ?_
      exact zz_zretG hx hb hr hlocks hP hD hS rfl h d_H_unboxesTo_53
    · replace h := zz_t c_5 h
      refine lv_iconst (v := 1) hx hb d_H_unboxesTo_48 (by decide) ?_
      refine lv_goto (tgt := 53) hx hb d_H_unboxesTo_49 (by decide) ?_
      exact zz_zretG hx hb hr hlocks hP hD hS rfl h d_H_unboxesTo_53
  replace h := zz_f c_4 h
  by_cases c_6 : a0 = (5 : Int32)
  · replace h := zz_t c_6 h
    refine lv_tableIn (tgt := 54) hx hb d_H_unboxesTo_1 (by rw [c_6]; decide) (by rw [c_6]; decide) (by rw [c_6]; rfl) (by decide) ?_
    refine lv_iload_n hx hb d_H_unboxesTo_54 rfl (lv_at hl 1 rfl) ?_
    refine lv_iconst (v := 2) hx hb d_H_unboxesTo_55 (by decide) ?_
    refine lv_icmp_ne (tgt := 63) hx hb d_H_unboxesTo_56 (by decide) (fun c_7 => ?_) (fun c_7 => ?_)
    · replace h := zz_f c_7 h
      refine lv_iconst (v := 0) hx hb d_H_unboxesTo_63 (by decide) ?_
      exact zz_zretG hx hb hr hlocks hP hD hS rfl h d_H_unboxesTo_64
    · replace h := zz_t c_7 h
      refine lv_iconst (v := 1) hx hb d_H_unboxesTo_59 (by decide) ?_
      refine lv_goto (tgt := 64) hx hb d_H_unboxesTo_60 (by decide) ?_
      exact zz_zretG hx hb hr hlocks hP hD hS rfl h d_H_unboxesTo_64
  replace h := zz_f c_6 h
  refine lv_tableOut (tgt := 65) hx hb d_H_unboxesTo_1 (by have qc_1 := zz_tne (a := 3) (by decide) c_1; have qc_4 := zz_tne (a := 4) (by decide) c_4; have qc_6 := zz_tne (a := 5) (by decide) c_6; omega) (by decide) ?_
  refine lv_iconst (v := 0) hx hb d_H_unboxesTo_65 (by decide) ?_
  exact zz_zretG hx hb hr hlocks hP hD hS rfl h d_H_unboxesTo_66

abbrev b_Q_byteOf : ByteArray := prog_7_method_12_code
abbrev y_Q_byteOf : MethodName := ⟨"MemberChooserModel", "byteOf", "(JI)I"⟩
abbrev w_Q_byteOf : List Cond := Cond.code y_Q_byteOf b_Q_byteOf 3 (some .int) :: zTb
theorem d_Q_byteOf_0 : decode b_Q_byteOf 0 = .ok (.lload_n 0, 1) := by decide +kernel
theorem d_Q_byteOf_1 : decode b_Q_byteOf 1 = .ok (.bipush 8, 2) := by decide +kernel
theorem d_Q_byteOf_3 : decode b_Q_byteOf 3 = .ok (.iload_n 2, 1) := by decide +kernel
theorem d_Q_byteOf_4 : decode b_Q_byteOf 4 = .ok (.imul, 1) := by decide +kernel
theorem d_Q_byteOf_5 : decode b_Q_byteOf 5 = .ok (.lshr, 1) := by decide +kernel
theorem d_Q_byteOf_6 : decode b_Q_byteOf 6 = .ok (.ldc2_w 98, 3) := by decide +kernel
theorem d_Q_byteOf_9 : decode b_Q_byteOf 9 = .ok (.land, 1) := by decide +kernel
theorem d_Q_byteOf_10 : decode b_Q_byteOf 10 = .ok (.l2i, 1) := by decide +kernel
theorem d_Q_byteOf_11 : decode b_Q_byteOf 11 = .ok (.ireturn, 1) := by decide +kernel
abbrev rm_Q_byteOf : Room := { frames := 0, cells := 0, slots := 0, locals := 0 }
def fx_Q_byteOf (n : Nat) (a0 : Int64) (a2 : Int32) : Option (Int32) :=
  some (((a0 >>> (((8 : Int32) * a2).toInt64 &&& 63)) &&& (255 : Int64)).toInt32)

set_option maxRecDepth 100000 in
set_option maxHeartbeats 4000000 in
theorem k_Q_byteOf (l : Launch) (z : zE) (w : va_W) (n : Nat) (a0 : Int64) (a2 : Int32) (r0 : Int32) (h : fx_Q_byteOf n a0 a2 = some r0) : zC z l y_Q_byteOf w_Q_byteOf rm_Q_byteOf [.long a0, .int a2] w (some (.int r0)) w := by
  refine zz_of (by decide) (Nat.le_of_ble_eq_true rfl) ?_
  intro p e s m args below meth c A0 ls hM hr hlocks hA hP hD hl
  have hM : zM z p s m args c b_Q_byteOf 3 R_Q := hM
  obtain ⟨hx, hb, hml, hown, hts, hK, hN⟩ := id hM
  have hS : va_S A0 s.heap s.heap [] := va_S.rf
  have hl : lv_has ls 3 [(0, .long a0), (2, .int a2)] := hl
  unfold fx_Q_byteOf at h
  refine lv_lload_n hx hb d_Q_byteOf_0 rfl (lv_at hl 0 rfl) ?_
  refine lv_bipush (v := 8) hx hb d_Q_byteOf_1 (by decide) ?_
  refine lv_iload_n hx hb d_Q_byteOf_3 rfl (lv_at hl 1 rfl) ?_
  refine lv_imul hx hb d_Q_byteOf_4 ?_
  refine lv_lshr (v := (a0 >>> (((8 : Int32) * a2).toInt64 &&& 63))) hx hb d_Q_byteOf_5 rfl ?_
  refine lv_ldc2 (own := R_Q) (v := 255) hx hb hown (hts _ wq_683) d_Q_byteOf_6 ?_
  refine lv_land hx hb d_Q_byteOf_9 ?_
  refine lv_l2i (v := ((a0 >>> (((8 : Int32) * a2).toInt64 &&& 63)) &&& (255 : Int64)).toInt32) hx hb d_Q_byteOf_10 rfl ?_
  exact zz_iretG hx hb hr hlocks hP hD hS h d_Q_byteOf_11

