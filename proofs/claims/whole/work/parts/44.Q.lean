abbrev b_Q_parameterAt : ByteArray := prog_7_method_24_code
abbrev y_Q_parameterAt : MethodName := ⟨"MemberChooserModel", "parameterAt", "(II)I"⟩
abbrev w_Q_parameterAt : List Cond := Cond.code y_Q_parameterAt b_Q_parameterAt 3 (some .int) :: zTb
theorem d_Q_parameterAt_0 : decode b_Q_parameterAt 0 = .ok (.aload_n 0, 1) := by decide +kernel
theorem d_Q_parameterAt_1 : decode b_Q_parameterAt 1 = .ok (.getfield 36, 3) := by decide +kernel
theorem d_Q_parameterAt_4 : decode b_Q_parameterAt 4 = .ok (.iconst 4, 1) := by decide +kernel
theorem d_Q_parameterAt_5 : decode b_Q_parameterAt 5 = .ok (.iload_n 1, 1) := by decide +kernel
theorem d_Q_parameterAt_6 : decode b_Q_parameterAt 6 = .ok (.imul, 1) := by decide +kernel
theorem d_Q_parameterAt_7 : decode b_Q_parameterAt 7 = .ok (.iload_n 2, 1) := by decide +kernel
theorem d_Q_parameterAt_8 : decode b_Q_parameterAt 8 = .ok (.aload_n 0, 1) := by decide +kernel
theorem d_Q_parameterAt_9 : decode b_Q_parameterAt 9 = .ok (.getfield 33, 3) := by decide +kernel
theorem d_Q_parameterAt_12 : decode b_Q_parameterAt 12 = .ok (.iload_n 1, 1) := by decide +kernel
theorem d_Q_parameterAt_13 : decode b_Q_parameterAt 13 = .ok (.iaload, 1) := by decide +kernel
theorem d_Q_parameterAt_14 : decode b_Q_parameterAt 14 = .ok (.if_icmp .ge 7, 3) := by decide +kernel
theorem d_Q_parameterAt_17 : decode b_Q_parameterAt 17 = .ok (.iload_n 2, 1) := by decide +kernel
theorem d_Q_parameterAt_18 : decode b_Q_parameterAt 18 = .ok (.goto 11, 3) := by decide +kernel
theorem d_Q_parameterAt_21 : decode b_Q_parameterAt 21 = .ok (.aload_n 0, 1) := by decide +kernel
theorem d_Q_parameterAt_22 : decode b_Q_parameterAt 22 = .ok (.getfield 33, 3) := by decide +kernel
theorem d_Q_parameterAt_25 : decode b_Q_parameterAt 25 = .ok (.iload_n 1, 1) := by decide +kernel
theorem d_Q_parameterAt_26 : decode b_Q_parameterAt 26 = .ok (.iaload, 1) := by decide +kernel
theorem d_Q_parameterAt_27 : decode b_Q_parameterAt 27 = .ok (.iconst 1, 1) := by decide +kernel
theorem d_Q_parameterAt_28 : decode b_Q_parameterAt 28 = .ok (.isub, 1) := by decide +kernel
theorem d_Q_parameterAt_29 : decode b_Q_parameterAt 29 = .ok (.iadd, 1) := by decide +kernel
theorem d_Q_parameterAt_30 : decode b_Q_parameterAt 30 = .ok (.iaload, 1) := by decide +kernel
theorem d_Q_parameterAt_31 : decode b_Q_parameterAt 31 = .ok (.ireturn, 1) := by decide +kernel
abbrev rm_Q_parameterAt : Room := { frames := 0, cells := 0, slots := 0, locals := 0 }
def fx_Q_parameterAt (n : Nat) (S : ZQ) (a1 : Int32) (a2 : Int32) : Option (Int32 × ZQ) :=
  (if zoob a1 80 then none else
  (if ((qMa S) a1.toNatClampNeg) ≤ a2 then
  (if zoob a1 80 then none else
    (if zoob (((4 : Int32) * a1) + (((qMa S) a1.toNatClampNeg) - (1 : Int32))) 320 then none else
    some (((qPa S) (((4 : Int32) * a1) + (((qMa S) a1.toNatClampNeg) - (1 : Int32))).toNatClampNeg), S)))
  else
  (if zoob (((4 : Int32) * a1) + a2) 320 then none else
    some (((qPa S) (((4 : Int32) * a1) + a2).toNatClampNeg), S))))

set_option maxRecDepth 100000 in
set_option maxHeartbeats 4000000 in
theorem k_Q_parameterAt (l : Launch) (z : zE) (B : Nat → Nat) (Rr : va_W) (n : Nat) (S : ZQ) (a1 : Int32) (a2 : Int32) (r0 : Int32) (S' : ZQ) (h : fx_Q_parameterAt n S a1 a2 = some (r0, S')) : zC z l y_Q_parameterAt w_Q_parameterAt rm_Q_parameterAt [.ref (B 0), .int a1, .int a2] (qw z B S ++ Rr) (some (.int r0)) (qw z B S' ++ Rr) := by
  refine zz_of (by decide) (Nat.le_of_ble_eq_true rfl) ?_
  intro p e s m args below meth c A0 ls hM hr hlocks hA hP hD hl
  have hM : zM z p s m args c b_Q_parameterAt 3 R_Q := hM
  obtain ⟨hx, hb, hml, hown, hts, hK, hN⟩ := id hM
  have hS : va_S A0 s.heap s.heap [] := va_S.rf
  have hl : lv_has ls 3 [(0, .ref (B 0)), (1, .int a1), (2, .int a2)] := hl
  unfold fx_Q_parameterAt at h
  refine lv_aload_n hx hb d_Q_parameterAt_0 rfl (lv_at hl 0 rfl) ?_
  refine va_get (D := z.1) (ci := 5) (v := .ref (B 8)) (C := R_Q) (T := F_Q) (N := 28) hx hb hts i_Q hown hK hP 0 rfl rfl 10 (by decide) (hts _ wq_561) (fun _ h9 => h9) rfl d_Q_parameterAt_1 ?_
  refine lv_iconst (v := 4) hx hb d_Q_parameterAt_4 (by decide) ?_
  refine lv_iload_n hx hb d_Q_parameterAt_5 rfl (lv_at hl 1 rfl) ?_
  refine lv_imul hx hb d_Q_parameterAt_6 ?_
  refine lv_iload_n hx hb d_Q_parameterAt_7 rfl (lv_at hl 2 rfl) ?_
  refine lv_aload_n hx hb d_Q_parameterAt_8 rfl (lv_at hl 0 rfl) ?_
  refine va_get (D := z.1) (ci := 5) (v := .ref (B 7)) (C := R_Q) (T := F_Q) (N := 28) hx hb hts i_Q hown hK hP 0 rfl rfl 9 (by decide) (hts _ wq_560) (fun _ h9 => h9) rfl d_Q_parameterAt_9 ?_
  refine lv_iload_n hx hb d_Q_parameterAt_12 rfl (lv_at hl 1 rfl) ?_
  obtain ⟨c_1, h⟩ := zz_oob h
  refine va_iald hx hb hK hP 7 0 rfl rfl c_1 d_Q_parameterAt_13 ?_
  refine lv_icmp_ge (tgt := 21) hx hb d_Q_parameterAt_14 (by decide) (fun c_2 => ?_) (fun c_2 => ?_)
  · replace h := zz_t c_2 h
    refine lv_aload_n hx hb d_Q_parameterAt_21 rfl (lv_at hl 0 rfl) ?_
    refine va_get (D := z.1) (ci := 5) (v := .ref (B 7)) (C := R_Q) (T := F_Q) (N := 28) hx hb hts i_Q hown hK hP 0 rfl rfl 9 (by decide) (hts _ wq_560) (fun _ h9 => h9) rfl d_Q_parameterAt_22 ?_
    refine lv_iload_n hx hb d_Q_parameterAt_25 rfl (lv_at hl 1 rfl) ?_
    obtain ⟨c_3, h⟩ := zz_oob h
    refine va_iald hx hb hK hP 7 0 rfl rfl c_3 d_Q_parameterAt_26 ?_
    refine lv_iconst (v := 1) hx hb d_Q_parameterAt_27 (by decide) ?_
    refine lv_isub hx hb d_Q_parameterAt_28 ?_
    refine lv_iadd hx hb d_Q_parameterAt_29 ?_
    obtain ⟨c_4, h⟩ := zz_oob h
    refine va_iald hx hb hK hP 8 0 rfl rfl c_4 d_Q_parameterAt_30 ?_
    exact zz_iret (fun S => qw z B S ++ Rr) hx hb hr hlocks hP hD hS h d_Q_parameterAt_31
  · replace h := zz_f c_2 h
    refine lv_iload_n hx hb d_Q_parameterAt_17 rfl (lv_at hl 2 rfl) ?_
    refine lv_goto (tgt := 29) hx hb d_Q_parameterAt_18 (by decide) ?_
    refine lv_iadd hx hb d_Q_parameterAt_29 ?_
    obtain ⟨c_5, h⟩ := zz_oob h
    refine va_iald hx hb hK hP 8 0 rfl rfl c_5 d_Q_parameterAt_30 ?_
    exact zz_iret (fun S => qw z B S ++ Rr) hx hb hr hlocks hP hD hS h d_Q_parameterAt_31

abbrev b_Q_fits : ByteArray := prog_7_method_23_code
abbrev y_Q_fits : MethodName := ⟨"MemberChooserModel", "fits", "(III)Z"⟩
abbrev w_Q_fits : List Cond := Cond.code y_Q_fits b_Q_fits 7 (some .boolean) :: zTb
theorem d_Q_fits_0 : decode b_Q_fits 0 = .ok (.aload_n 0, 1) := by decide +kernel
theorem d_Q_fits_1 : decode b_Q_fits 1 = .ok (.getfield 33, 3) := by decide +kernel
theorem d_Q_fits_4 : decode b_Q_fits 4 = .ok (.iload_n 1, 1) := by decide +kernel
theorem d_Q_fits_5 : decode b_Q_fits 5 = .ok (.iaload, 1) := by decide +kernel
theorem d_Q_fits_6 : decode b_Q_fits 6 = .ok (.istore 4, 2) := by decide +kernel
theorem d_Q_fits_8 : decode b_Q_fits 8 = .ok (.aload_n 0, 1) := by decide +kernel
theorem d_Q_fits_9 : decode b_Q_fits 9 = .ok (.getfield 39, 3) := by decide +kernel
theorem d_Q_fits_12 : decode b_Q_fits 12 = .ok (.iload_n 1, 1) := by decide +kernel
theorem d_Q_fits_13 : decode b_Q_fits 13 = .ok (.baload, 1) := by decide +kernel
theorem d_Q_fits_14 : decode b_Q_fits 14 = .ok (.iload_n 3, 1) := by decide +kernel
theorem d_Q_fits_15 : decode b_Q_fits 15 = .ok (.iconst 3, 1) := by decide +kernel
theorem d_Q_fits_16 : decode b_Q_fits 16 = .ok (.if_icmp .ne 7, 3) := by decide +kernel
theorem d_Q_fits_19 : decode b_Q_fits 19 = .ok (.iconst 1, 1) := by decide +kernel
theorem d_Q_fits_20 : decode b_Q_fits 20 = .ok (.goto 4, 3) := by decide +kernel
theorem d_Q_fits_23 : decode b_Q_fits 23 = .ok (.iconst 0, 1) := by decide +kernel
theorem d_Q_fits_24 : decode b_Q_fits 24 = .ok (.if_icmp .eq 5, 3) := by decide +kernel
theorem d_Q_fits_27 : decode b_Q_fits 27 = .ok (.iconst 0, 1) := by decide +kernel
theorem d_Q_fits_28 : decode b_Q_fits 28 = .ok (.ireturn, 1) := by decide +kernel
theorem d_Q_fits_29 : decode b_Q_fits 29 = .ok (.iload_n 3, 1) := by decide +kernel
theorem d_Q_fits_30 : decode b_Q_fits 30 = .ok (.iconst 3, 1) := by decide +kernel
theorem d_Q_fits_31 : decode b_Q_fits 31 = .ok (.if_icmp .ge 12, 3) := by decide +kernel
theorem d_Q_fits_34 : decode b_Q_fits 34 = .ok (.iload 4, 2) := by decide +kernel
theorem d_Q_fits_36 : decode b_Q_fits 36 = .ok (.iload_n 2, 1) := by decide +kernel
theorem d_Q_fits_37 : decode b_Q_fits 37 = .ok (.if_icmp .eq 16, 3) := by decide +kernel
theorem d_Q_fits_40 : decode b_Q_fits 40 = .ok (.goto 11, 3) := by decide +kernel
theorem d_Q_fits_43 : decode b_Q_fits 43 = .ok (.iload_n 2, 1) := by decide +kernel
theorem d_Q_fits_44 : decode b_Q_fits 44 = .ok (.iload 4, 2) := by decide +kernel
theorem d_Q_fits_46 : decode b_Q_fits 46 = .ok (.iconst 1, 1) := by decide +kernel
theorem d_Q_fits_47 : decode b_Q_fits 47 = .ok (.isub, 1) := by decide +kernel
theorem d_Q_fits_48 : decode b_Q_fits 48 = .ok (.if_icmp .ge 5, 3) := by decide +kernel
theorem d_Q_fits_51 : decode b_Q_fits 51 = .ok (.iconst 0, 1) := by decide +kernel
theorem d_Q_fits_52 : decode b_Q_fits 52 = .ok (.ireturn, 1) := by decide +kernel
theorem d_Q_fits_53 : decode b_Q_fits 53 = .ok (.iconst 1, 1) := by decide +kernel
theorem d_Q_fits_54 : decode b_Q_fits 54 = .ok (.istore 5, 2) := by decide +kernel
theorem d_Q_fits_56 : decode b_Q_fits 56 = .ok (.iconst 0, 1) := by decide +kernel
theorem d_Q_fits_57 : decode b_Q_fits 57 = .ok (.istore 6, 2) := by decide +kernel
theorem d_Q_fits_59 : decode b_Q_fits 59 = .ok (.iload 6, 2) := by decide +kernel
theorem d_Q_fits_61 : decode b_Q_fits 61 = .ok (.iload_n 2, 1) := by decide +kernel
theorem d_Q_fits_62 : decode b_Q_fits 62 = .ok (.if_icmp .ge 44, 3) := by decide +kernel
theorem d_Q_fits_65 : decode b_Q_fits 65 = .ok (.iload 5, 2) := by decide +kernel
theorem d_Q_fits_67 : decode b_Q_fits 67 = .ok (.ifCond .eq 39, 3) := by decide +kernel
theorem d_Q_fits_70 : decode b_Q_fits 70 = .ok (.aload_n 0, 1) := by decide +kernel
theorem d_Q_fits_71 : decode b_Q_fits 71 = .ok (.aload_n 0, 1) := by decide +kernel
theorem d_Q_fits_72 : decode b_Q_fits 72 = .ok (.getfield 64, 3) := by decide +kernel
theorem d_Q_fits_75 : decode b_Q_fits 75 = .ok (.iload 6, 2) := by decide +kernel
theorem d_Q_fits_77 : decode b_Q_fits 77 = .ok (.iaload, 1) := by decide +kernel
theorem d_Q_fits_78 : decode b_Q_fits 78 = .ok (.aload_n 0, 1) := by decide +kernel
theorem d_Q_fits_79 : decode b_Q_fits 79 = .ok (.iload_n 1, 1) := by decide +kernel
theorem d_Q_fits_80 : decode b_Q_fits 80 = .ok (.iload 6, 2) := by decide +kernel
theorem d_Q_fits_82 : decode b_Q_fits 82 = .ok (.invokevirtual 135, 3) := by decide +kernel
theorem d_Q_fits_85 : decode b_Q_fits 85 = .ok (.iload_n 3, 1) := by decide +kernel
theorem d_Q_fits_86 : decode b_Q_fits 86 = .ok (.iconst 1, 1) := by decide +kernel
theorem d_Q_fits_87 : decode b_Q_fits 87 = .ok (.if_icmp .le 7, 3) := by decide +kernel
theorem d_Q_fits_90 : decode b_Q_fits 90 = .ok (.iconst 1, 1) := by decide +kernel
theorem d_Q_fits_91 : decode b_Q_fits 91 = .ok (.goto 4, 3) := by decide +kernel
theorem d_Q_fits_94 : decode b_Q_fits 94 = .ok (.iconst 0, 1) := by decide +kernel
theorem d_Q_fits_95 : decode b_Q_fits 95 = .ok (.invokevirtual 139, 3) := by decide +kernel
theorem d_Q_fits_98 : decode b_Q_fits 98 = .ok (.istore 5, 2) := by decide +kernel
theorem d_Q_fits_100 : decode b_Q_fits 100 = .ok (.iinc 6 1, 3) := by decide +kernel
theorem d_Q_fits_103 : decode b_Q_fits 103 = .ok (.goto (-44), 3) := by decide +kernel
theorem d_Q_fits_106 : decode b_Q_fits 106 = .ok (.iload 5, 2) := by decide +kernel
theorem d_Q_fits_108 : decode b_Q_fits 108 = .ok (.ireturn, 1) := by decide +kernel
abbrev rm_Q_fits : Room := { frames := 3, cells := 0, slots := 0, locals := 69 }
def st_Q_fits_L59 (n : Nat) (v1 : Int32) (v2 : Int32) (v3 : Int32) (v5 : Int32) (v6 : Int32) (S : ZQ) : Option ((Int32 × Int32 × ZQ) ⊕ (Nat × Int32 × Int32 × ZQ)) :=
  (if v2 ≤ v6 then
  some (.inr (106, v5, v6, S))
  else
  (if v5 = 0 then
    some (.inr (106, v5, v6, S))
    else
    (if zoob v6 6 then none else
      zbind (fx_Q_parameterAt n S v1 v6) (fun r_10 S_10 =>
      (if v3 ≤ (1 : Int32) then
      zbind (fx_Q_goes n S_10 ((qVl S) v6.toNatClampNeg) r_10 (0 : Int32)) (fun r_12 S_12 =>
        some (.inl (r_12, (v6 + (1 : Int32)), S_12)))
      else
      zbind (fx_Q_goes n S_10 ((qVl S) v6.toNatClampNeg) r_10 (1 : Int32)) (fun r_13 S_13 =>
        some (.inl (r_13, (v6 + (1 : Int32)), S_13))))))))

def fx_Q_fits_L59 (n : Nat) (v1 : Int32) (v2 : Int32) (v3 : Int32) (v5 : Int32) (v6 : Int32) (S : ZQ) : Option (Nat × Int32 × Int32 × ZQ) := zloop (fun (st : Int32 × Int32 × ZQ) => st_Q_fits_L59 n v1 v2 v3 st.1 st.2.1 st.2.2) n (v5, v6, S)

def jx_Q_fits_24 (n : Nat) (k0 : Int32) (k1 : Int32) (v1 : Int32) (v2 : Int32) (v3 : Int32) (v4 : Int32) (S : ZQ) : Option (Int32 × ZQ) :=
  (if k1 = k0 then
    (if (3 : Int32) ≤ v3 then
      (if (v4 - (1 : Int32)) ≤ v2 then
        zbL3 (fx_Q_fits_L59 n v1 v2 v3 (1 : Int32) (0 : Int32) S) (fun x_14 v5_14 v6_14 S_14 =>
          if x_14 = 106 then
          (if v5_14 = 0 ∨ v5_14 = 1 then some (v5_14, S_14) else none)
          else none)
        else
        some ((0 : Int32), S))
      else
      (if v4 = v2 then
        zbL3 (fx_Q_fits_L59 n v1 v2 v3 (1 : Int32) (0 : Int32) S) (fun x_17 v5_17 v6_17 S_17 =>
          if x_17 = 106 then
          (if v5_17 = 0 ∨ v5_17 = 1 then some (v5_17, S_17) else none)
          else none)
        else
        some ((0 : Int32), S)))
    else
    some ((0 : Int32), S))

def fx_Q_fits (n : Nat) (S : ZQ) (a1 : Int32) (a2 : Int32) (a3 : Int32) : Option (Int32 × ZQ) :=
  (if zoob a1 80 then none else
  (if zoob a1 80 then none else
  (if a3 = (3 : Int32) then
  jx_Q_fits_24 n (1 : Int32) ((qVa S) a1.toNatClampNeg) a1 a2 a3 ((qMa S) a1.toNatClampNeg) S
  else
  jx_Q_fits_24 n (0 : Int32) ((qVa S) a1.toNatClampNeg) a1 a2 a3 ((qMa S) a1.toNatClampNeg) S)))

set_option maxRecDepth 100000 in
set_option maxHeartbeats 4000000 in
theorem lp_Q_fits_L59 {z : zE} {B : Nat → Nat} {Rr : va_W} {p : Program} {l : Launch} {e : Env} {s : State} {m : MethodId} {args : Array Value} {below : List Frame} {meth : Method} {c : Code} {Q : State → Prop} {H0 : Heap} {A0 : Nat → Prop} (hM : zM z p s m args c b_Q_fits 7 R_Q) (hA : ∀ q : Nat, H0.size ≤ q → A0 q) (n : Nat) (v1 : Int32) (v2 : Int32) (v3 : Int32) :
    ∀ (v5 : Int32) (v6 : Int32) (S : ZQ) (r : Nat × Int32 × Int32 × ZQ), fx_Q_fits_L59 n v1 v2 v3 v5 v6 S = some r → (∀ (H : Heap) (locs : List Loc) (ls : Array Slot), va_P z.1 vwCl (qw z B r.2.2.2 ++ Rr) H → va_D A0 (qw z B r.2.2.2 ++ Rr) → va_S A0 H0 H locs → lv_has ls 7 [(0, .ref (B 0)), (1, .int v1), (2, .int v2), (3, .int v3), (5, .int r.2.1), (6, .int r.2.2.1)] → W p l e rm_Q_fits s m args below meth c H locs 0 0 Q (F0 m r.1 ls [])) →
    ∀ (H : Heap) (locs : List Loc) (ls : Array Slot), va_P z.1 vwCl (qw z B S ++ Rr) H → va_D A0 (qw z B S ++ Rr) → va_S A0 H0 H locs → lv_has ls 7 [(0, .ref (B 0)), (1, .int v1), (2, .int v2), (3, .int v3), (5, .int v5), (6, .int v6)] → W p l e rm_Q_fits s m args below meth c H locs 0 0 Q (F0 m 59 ls []) := by
  obtain ⟨hx, hb, hml, hown, hts, hK, hN⟩ := id hM
  intro v5 v6 S r h hE
  refine zz_loop (G := fun (st : Int32 × Int32 × ZQ) => ∀ (H : Heap) (locs : List Loc) (ls : Array Slot), va_P z.1 vwCl (qw z B st.2.2 ++ Rr) H → va_D A0 (qw z B st.2.2 ++ Rr) → va_S A0 H0 H locs → lv_has ls 7 [(0, .ref (B 0)), (1, .int v1), (2, .int v2), (3, .int v3), (5, .int st.1), (6, .int st.2.1)] → W p l e rm_Q_fits s m args below meth c H locs 0 0 Q (F0 m 59 ls [])) (E := fun (r : Nat × Int32 × Int32 × ZQ) => ∀ (H : Heap) (locs : List Loc) (ls : Array Slot), va_P z.1 vwCl (qw z B r.2.2.2 ++ Rr) H → va_D A0 (qw z B r.2.2.2 ++ Rr) → va_S A0 H0 H locs → lv_has ls 7 [(0, .ref (B 0)), (1, .int v1), (2, .int v2), (3, .int v3), (5, .int r.2.1), (6, .int r.2.2.1)] → W p l e rm_Q_fits s m args below meth c H locs 0 0 Q (F0 m r.1 ls [])) ?_ n (v5, v6, S) r h hE
  clear h hE r v5 v6 S
  rintro ⟨v5, v6, S⟩ o h hG hE H locs ls hP hD hS hl
  have h : st_Q_fits_L59 n v1 v2 v3 v5 v6 S = some o := h
  have hl : lv_has ls 7 [(0, .ref (B 0)), (1, .int v1), (2, .int v2), (3, .int v3), (5, .int v5), (6, .int v6)] := hl
  have hP : va_P z.1 vwCl (qw z B S ++ Rr) H := hP
  have hD : va_D A0 (qw z B S ++ Rr) := hD
  unfold st_Q_fits_L59 at h
  refine lv_iload hx hb d_Q_fits_59 (lv_at hl 5 rfl) ?_
  refine lv_iload_n hx hb d_Q_fits_61 rfl (lv_at hl 2 rfl) ?_
  refine lv_icmp_ge (tgt := 106) hx hb d_Q_fits_62 (by decide) (fun c_7 => ?_) (fun c_7 => ?_)
  · replace h := zz_t c_7 h
    exact hE _ (Option.some.inj h).symm _ _ _ hP hD hS hl
  · replace h := zz_f c_7 h
    refine lv_iload hx hb d_Q_fits_65 (lv_at hl 4 rfl) ?_
    refine lv_if_eq (tgt := 106) hx hb d_Q_fits_67 (by decide) (fun c_8 => ?_) (fun c_8 => ?_)
    · replace h := zz_t c_8 h
      exact hE _ (Option.some.inj h).symm _ _ _ hP hD hS hl
    · replace h := zz_f c_8 h
      refine lv_aload_n hx hb d_Q_fits_70 rfl (lv_at hl 0 rfl) ?_
      refine lv_aload_n hx hb d_Q_fits_71 rfl (lv_at hl 0 rfl) ?_
      refine va_get (D := z.1) (ci := 5) (v := .ref (B 17)) (C := R_Q) (T := F_Q) (N := 28) hx hb hts i_Q hown hK hP 0 rfl rfl 25 (by decide) (hts _ wq_576) (fun _ h9 => h9) rfl d_Q_fits_72 ?_
      refine lv_iload hx hb d_Q_fits_75 (lv_at hl 5 rfl) ?_
      obtain ⟨c_9, h⟩ := zz_oob h
      refine va_iald hx hb hK hP 17 0 rfl rfl c_9 d_Q_fits_77 ?_
      refine lv_aload_n hx hb d_Q_fits_78 rfl (lv_at hl 0 rfl) ?_
      refine lv_iload_n hx hb d_Q_fits_79 rfl (lv_at hl 1 rfl) ?_
      refine lv_iload hx hb d_Q_fits_80 (lv_at hl 5 rfl) ?_
      obtain ⟨r_10, S_10, e_10, h⟩ := zz_bind h
      refine zz_goI (zz_runV (As := [.int v1, .int v6]) (rest := [.int ((qVl S) v6.toNatClampNeg), .ref (B 0)]) (k_Q_parameterAt l z B Rr n _ _ _ _ _ e_10) ⟨hx, hb, hml, hown, hts⟩ (cwV 2 hts (zz_gV wq_728 wq_730 wp_32 wq_6 wq_731) rfl rfl rfl (by decide +kernel) ⟨Nat.le_of_ble_eq_true rfl, Nat.le_of_ble_eq_true rfl⟩) hK hN hP hD (va_recv hK hP (ci := 5) (q0 := 0) rfl rfl) rfl hl.1 rfl (Nat.le_of_ble_eq_true rfl) d_Q_fits_82 ⟨Nat.le_of_ble_eq_true rfl, Nat.le_of_ble_eq_true rfl⟩) hD hS hA (fun H locs hP hD hS => ?_)
      refine lv_iload_n hx hb d_Q_fits_85 rfl (lv_at hl 3 rfl) ?_
      refine lv_iconst (v := 1) hx hb d_Q_fits_86 (by decide) ?_
      refine lv_icmp_le (tgt := 94) hx hb d_Q_fits_87 (by decide) (fun c_11 => ?_) (fun c_11 => ?_)
      · replace h := zz_t c_11 h
        refine lv_iconst (v := 0) hx hb d_Q_fits_94 (by decide) ?_
        obtain ⟨r_12, S_12, e_12, h⟩ := zz_bind h
        refine zz_goI (zz_runV (As := [.int ((qVl S) v6.toNatClampNeg), .int r_10, .int (0 : Int32)]) (rest := []) (k_Q_goes l z B Rr n _ _ _ _ _ _ e_12) ⟨hx, hb, hml, hown, hts⟩ (cwV 3 hts (zz_gV wq_732 wq_734 wp_33 wq_6 wq_735) rfl rfl rfl (by decide +kernel) ⟨Nat.le_of_ble_eq_true rfl, Nat.le_of_ble_eq_true rfl⟩) hK hN hP hD (va_recv hK hP (ci := 5) (q0 := 0) rfl rfl) rfl hl.1 rfl (Nat.le_of_ble_eq_true rfl) d_Q_fits_95 ⟨Nat.le_of_ble_eq_true rfl, Nat.le_of_ble_eq_true rfl⟩) hD hS hA (fun H locs hP hD hS => ?_)
        refine lv_istore (lv' := [(5, .int r_12), (0, .ref (B 0)), (1, .int v1), (2, .int v2), (3, .int v3), (6, .int v6)]) hx hb d_Q_fits_98 hl (by decide) rfl (fun ls hl => ?_)
        refine lv_iinc (v := (v6 + (1 : Int32))) (lv' := [(6, .int (v6 + (1 : Int32))), (5, .int r_12), (0, .ref (B 0)), (1, .int v1), (2, .int v2), (3, .int v3)]) hx hb d_Q_fits_100 hl (k := 5) rfl rfl (by decide) rfl (fun ls hl => ?_)
        refine lv_goto (tgt := 59) hx hb d_Q_fits_103 (by decide) ?_
        exact hG _ (Option.some.inj h).symm _ _ _ hP hD hS (lv_sub hl [2, 3, 4, 5, 1, 0] rfl)
      · replace h := zz_f c_11 h
        refine lv_iconst (v := 1) hx hb d_Q_fits_90 (by decide) ?_
        refine lv_goto (tgt := 95) hx hb d_Q_fits_91 (by decide) ?_
        obtain ⟨r_13, S_13, e_13, h⟩ := zz_bind h
        refine zz_goI (zz_runV (As := [.int ((qVl S) v6.toNatClampNeg), .int r_10, .int (1 : Int32)]) (rest := []) (k_Q_goes l z B Rr n _ _ _ _ _ _ e_13) ⟨hx, hb, hml, hown, hts⟩ (cwV 3 hts (zz_gV wq_732 wq_734 wp_33 wq_6 wq_735) rfl rfl rfl (by decide +kernel) ⟨Nat.le_of_ble_eq_true rfl, Nat.le_of_ble_eq_true rfl⟩) hK hN hP hD (va_recv hK hP (ci := 5) (q0 := 0) rfl rfl) rfl hl.1 rfl (Nat.le_of_ble_eq_true rfl) d_Q_fits_95 ⟨Nat.le_of_ble_eq_true rfl, Nat.le_of_ble_eq_true rfl⟩) hD hS hA (fun H locs hP hD hS => ?_)
        refine lv_istore (lv' := [(5, .int r_13), (0, .ref (B 0)), (1, .int v1), (2, .int v2), (3, .int v3), (6, .int v6)]) hx hb d_Q_fits_98 hl (by decide) rfl (fun ls hl => ?_)
        refine lv_iinc (v := (v6 + (1 : Int32))) (lv' := [(6, .int (v6 + (1 : Int32))), (5, .int r_13), (0, .ref (B 0)), (1, .int v1), (2, .int v2), (3, .int v3)]) hx hb d_Q_fits_100 hl (k := 5) rfl rfl (by decide) rfl (fun ls hl => ?_)
        refine lv_goto (tgt := 59) hx hb d_Q_fits_103 (by decide) ?_
        exact hG _ (Option.some.inj h).symm _ _ _ hP hD hS (lv_sub hl [2, 3, 4, 5, 1, 0] rfl)

set_option maxRecDepth 100000 in
set_option maxHeartbeats 4000000 in
theorem k_Q_fits (l : Launch) (z : zE) (B : Nat → Nat) (Rr : va_W) (n : Nat) (S : ZQ) (a1 : Int32) (a2 : Int32) (a3 : Int32) (r0 : Int32) (S' : ZQ) (h : fx_Q_fits n S a1 a2 a3 = some (r0, S')) : zC z l y_Q_fits w_Q_fits rm_Q_fits [.ref (B 0), .int a1, .int a2, .int a3] (qw z B S ++ Rr) (some (.int r0)) (qw z B S' ++ Rr) := by
  refine zz_of (by decide) (Nat.le_of_ble_eq_true rfl) ?_
  intro p e s m args below meth c A0 ls hM hr hlocks hA hP hD hl
  have hM : zM z p s m args c b_Q_fits 7 R_Q := hM
  obtain ⟨hx, hb, hml, hown, hts, hK, hN⟩ := id hM
  have hS : va_S A0 s.heap s.heap [] := va_S.rf
  have hl : lv_has ls 7 [(0, .ref (B 0)), (1, .int a1), (2, .int a2), (3, .int a3)] := hl
  have J24 : ∀ (k0 : Int32) (k1 : Int32) (v1 : Int32) (v2 : Int32) (v3 : Int32) (v4 : Int32) (S : ZQ), jx_Q_fits_24 n k0 k1 v1 v2 v3 v4 S = some (r0, S') → ∀ (H : Heap) (locs : List Loc) (ls : Array Slot), va_P z.1 vwCl (qw z B S ++ Rr) H → va_D A0 (qw z B S ++ Rr) → va_S A0 s.heap H locs → lv_has ls 7 [(0, .ref (B 0)), (1, .int v1), (2, .int v2), (3, .int v3), (4, .int v4)] → W p l e rm_Q_fits s m args below meth c H locs 0 0 (zQ z below args s A0 (some (.int r0)) (qw z B S' ++ Rr)) (F0 m 24 ls [.int k0, .int k1]) := by
    intro k0 k1 v1 v2 v3 v4 S h H locs ls hP hD hS hl
    unfold jx_Q_fits_24 at h
    refine lv_icmp_eq (tgt := 29) hx hb d_Q_fits_24 (by decide) (fun c_4 => ?_) (fun c_4 => ?_)
    · replace h := zz_t c_4 h
      refine lv_iload_n hx hb d_Q_fits_29 rfl (lv_at hl 3 rfl) ?_
      refine lv_iconst (v := 3) hx hb d_Q_fits_30 (by decide) ?_
      refine lv_icmp_ge (tgt := 43) hx hb d_Q_fits_31 (by decide) (fun c_5 => ?_) (fun c_5 => ?_)
      · replace h := zz_t c_5 h
        refine lv_iload_n hx hb d_Q_fits_43 rfl (lv_at hl 2 rfl) ?_
        refine lv_iload hx hb d_Q_fits_44 (lv_at hl 4 rfl) ?_
        refine lv_iconst (v := 1) hx hb d_Q_fits_46 (by decide) ?_
        refine lv_isub hx hb d_Q_fits_47 ?_
        refine lv_icmp_ge (tgt := 53) hx hb d_Q_fits_48 (by decide) (fun c_6 => ?_) (fun c_6 => ?_)
        · replace h := zz_t c_6 h
          refine lv_iconst (v := 1) hx hb d_Q_fits_53 (by decide) ?_
          refine lv_istore (lv' := [(5, .int (1 : Int32)), (0, .ref (B 0)), (1, .int v1), (2, .int v2), (3, .int v3), (4, .int v4)]) hx hb d_Q_fits_54 hl (by decide) rfl (fun ls hl => ?_)
          refine lv_iconst (v := 0) hx hb d_Q_fits_56 (by decide) ?_
          refine lv_istore (lv' := [(6, .int (0 : Int32)), (5, .int (1 : Int32)), (0, .ref (B 0)), (1, .int v1), (2, .int v2), (3, .int v3), (4, .int v4)]) hx hb d_Q_fits_57 hl (by decide) rfl (fun ls hl => ?_)
          replace h := zz_bL3 h
          obtain ⟨x_14, v5_14, v6_14, S_14, e_14, h⟩ := h
          refine lp_Q_fits_L59 hM hA n v1 v2 v3 _ _ _ _ e_14 ?_ _ _ _ hP hD hS (lv_sub hl [2, 3, 4, 5, 1, 0] rfl)
          intro H locs ls hP hD hS hl
          have hl : lv_has ls 7 [(0, .ref (B 0)), (1, .int v1), (2, .int v2), (3, .int v3), (5, .int v5_14), (6, .int v6_14)] := hl
          have hP : va_P z.1 vwCl (qw z B S_14 ++ Rr) H := hP
          have hD : va_D A0 (qw z B S_14 ++ Rr) := hD
          replace h := zz_grd h
          obtain ⟨c_14, h⟩ := h
          subst c_14
          refine W.eq (g2 := F0 m 106 ls []) rfl ?_
          refine lv_iload hx hb d_Q_fits_106 (lv_at hl 4 rfl) ?_
          obtain ⟨c_15, h⟩ := zz_grd h
          exact zz_zret (fun S => qw z B S ++ Rr) hx hb hr hlocks hP hD hS (zz_bool c_15) h d_Q_fits_108
        · replace h := zz_f c_6 h
          refine lv_iconst (v := 0) hx hb d_Q_fits_51 (by decide) ?_
          exact zz_zret (fun S => qw z B S ++ Rr) hx hb hr hlocks hP hD hS rfl h d_Q_fits_52
      · replace h := zz_f c_5 h
        refine lv_iload hx hb d_Q_fits_34 (lv_at hl 4 rfl) ?_
        refine lv_iload_n hx hb d_Q_fits_36 rfl (lv_at hl 2 rfl) ?_
        refine lv_icmp_eq (tgt := 53) hx hb d_Q_fits_37 (by decide) (fun c_16 => ?_) (fun c_16 => ?_)
        · replace h := zz_t c_16 h
          refine lv_iconst (v := 1) hx hb d_Q_fits_53 (by decide) ?_
          refine lv_istore (lv' := [(5, .int (1 : Int32)), (0, .ref (B 0)), (1, .int v1), (2, .int v2), (3, .int v3), (4, .int v4)]) hx hb d_Q_fits_54 hl (by decide) rfl (fun ls hl => ?_)
          refine lv_iconst (v := 0) hx hb d_Q_fits_56 (by decide) ?_
          refine lv_istore (lv' := [(6, .int (0 : Int32)), (5, .int (1 : Int32)), (0, .ref (B 0)), (1, .int v1), (2, .int v2), (3, .int v3), (4, .int v4)]) hx hb d_Q_fits_57 hl (by decide) rfl (fun ls hl => ?_)
          replace h := zz_bL3 h
          obtain ⟨x_17, v5_17, v6_17, S_17, e_17, h⟩ := h
          refine lp_Q_fits_L59 hM hA n v1 v2 v3 _ _ _ _ e_17 ?_ _ _ _ hP hD hS (lv_sub hl [2, 3, 4, 5, 1, 0] rfl)
          intro H locs ls hP hD hS hl
          have hl : lv_has ls 7 [(0, .ref (B 0)), (1, .int v1), (2, .int v2), (3, .int v3), (5, .int v5_17), (6, .int v6_17)] := hl
          have hP : va_P z.1 vwCl (qw z B S_17 ++ Rr) H := hP
          have hD : va_D A0 (qw z B S_17 ++ Rr) := hD
          replace h := zz_grd h
          obtain ⟨c_17, h⟩ := h
          subst c_17
          refine W.eq (g2 := F0 m 106 ls []) rfl ?_
          refine lv_iload hx hb d_Q_fits_106 (lv_at hl 4 rfl) ?_
          obtain ⟨c_18, h⟩ := zz_grd h
          exact zz_zret (fun S => qw z B S ++ Rr) hx hb hr hlocks hP hD hS (zz_bool c_18) h d_Q_fits_108
        · replace h := zz_f c_16 h
          refine lv_goto (tgt := 51) hx hb d_Q_fits_40 (by decide) ?_
          refine lv_iconst (v := 0) hx hb d_Q_fits_51 (by decide) ?_
          exact zz_zret (fun S => qw z B S ++ Rr) hx hb hr hlocks hP hD hS rfl h d_Q_fits_52
    · replace h := zz_f c_4 h
      refine lv_iconst (v := 0) hx hb d_Q_fits_27 (by decide) ?_
      exact zz_zret (fun S => qw z B S ++ Rr) hx hb hr hlocks hP hD hS rfl h d_Q_fits_28
  unfold fx_Q_fits at h
  refine lv_aload_n hx hb d_Q_fits_0 rfl (lv_at hl 0 rfl) ?_
  refine va_get (D := z.1) (ci := 5) (v := .ref (B 7)) (C := R_Q) (T := F_Q) (N := 28) hx hb hts i_Q hown hK hP 0 rfl rfl 9 (by decide) (hts _ wq_560) (fun _ h9 => h9) rfl d_Q_fits_1 ?_
  refine lv_iload_n hx hb d_Q_fits_4 rfl (lv_at hl 1 rfl) ?_
  obtain ⟨c_1, h⟩ := zz_oob h
  refine va_iald hx hb hK hP 7 0 rfl rfl c_1 d_Q_fits_5 ?_
  refine lv_istore (lv' := [(4, .int ((qMa S) a1.toNatClampNeg)), (0, .ref (B 0)), (1, .int a1), (2, .int a2), (3, .int a3)]) hx hb d_Q_fits_6 hl (by decide) rfl (fun ls hl => ?_)
  refine lv_aload_n hx hb d_Q_fits_8 rfl (lv_at hl 1 rfl) ?_
  refine va_get (D := z.1) (ci := 5) (v := .ref (B 9)) (C := R_Q) (T := F_Q) (N := 28) hx hb hts i_Q hown hK hP 0 rfl rfl 11 (by decide) (hts _ wq_562) (fun _ h9 => h9) rfl d_Q_fits_9 ?_
  refine lv_iload_n hx hb d_Q_fits_12 rfl (lv_at hl 2 rfl) ?_
  obtain ⟨c_2, h⟩ := zz_oob h
  refine va_zald hx hb hK hP 9 1 rfl rfl c_2 d_Q_fits_13 ?_
  refine lv_iload_n hx hb d_Q_fits_14 rfl (lv_at hl 4 rfl) ?_
  refine lv_iconst (v := 3) hx hb d_Q_fits_15 (by decide) ?_
  refine lv_icmp_ne (tgt := 23) hx hb d_Q_fits_16 (by decide) (fun c_3 => ?_) (fun c_3 => ?_)
  · replace h := zz_f c_3 h
    refine lv_iconst (v := 0) hx hb d_Q_fits_23 (by decide) ?_
    exact J24 _ _ _ _ _ _ _ h _ _ _ hP hD hS (lv_sub hl [1, 2, 3, 4, 0] rfl)
  · replace h := zz_t c_3 h
    refine lv_iconst (v := 1) hx hb d_Q_fits_19 (by decide) ?_
    refine lv_goto (tgt := 24) hx hb d_Q_fits_20 (by decide) ?_
    exact J24 _ _ _ _ _ _ _ h _ _ _ hP hD hS (lv_sub hl [1, 2, 3, 4, 0] rfl)

abbrev b_Q_isCloser : ByteArray := prog_7_method_25_code
abbrev y_Q_isCloser : MethodName := ⟨"MemberChooserModel", "isCloser", "(II)Z"⟩
abbrev w_Q_isCloser : List Cond := Cond.code y_Q_isCloser b_Q_isCloser 6 (some .boolean) :: zTb
theorem d_Q_isCloser_0 : decode b_Q_isCloser 0 = .ok (.aload_n 0, 1) := by decide +kernel
theorem d_Q_isCloser_1 : decode b_Q_isCloser 1 = .ok (.getfield 33, 3) := by decide +kernel
theorem d_Q_isCloser_4 : decode b_Q_isCloser 4 = .ok (.iload_n 1, 1) := by decide +kernel
theorem d_Q_isCloser_5 : decode b_Q_isCloser 5 = .ok (.iaload, 1) := by decide +kernel
theorem d_Q_isCloser_6 : decode b_Q_isCloser 6 = .ok (.aload_n 0, 1) := by decide +kernel
theorem d_Q_isCloser_7 : decode b_Q_isCloser 7 = .ok (.getfield 33, 3) := by decide +kernel
theorem d_Q_isCloser_10 : decode b_Q_isCloser 10 = .ok (.iload_n 2, 1) := by decide +kernel
theorem d_Q_isCloser_11 : decode b_Q_isCloser 11 = .ok (.iaload, 1) := by decide +kernel
theorem d_Q_isCloser_12 : decode b_Q_isCloser 12 = .ok (.if_icmp .le 12, 3) := by decide +kernel
theorem d_Q_isCloser_15 : decode b_Q_isCloser 15 = .ok (.aload_n 0, 1) := by decide +kernel
theorem d_Q_isCloser_16 : decode b_Q_isCloser 16 = .ok (.getfield 33, 3) := by decide +kernel
theorem d_Q_isCloser_19 : decode b_Q_isCloser 19 = .ok (.iload_n 1, 1) := by decide +kernel
theorem d_Q_isCloser_20 : decode b_Q_isCloser 20 = .ok (.iaload, 1) := by decide +kernel
theorem d_Q_isCloser_21 : decode b_Q_isCloser 21 = .ok (.goto 9, 3) := by decide +kernel
theorem d_Q_isCloser_24 : decode b_Q_isCloser 24 = .ok (.aload_n 0, 1) := by decide +kernel
theorem d_Q_isCloser_25 : decode b_Q_isCloser 25 = .ok (.getfield 33, 3) := by decide +kernel
theorem d_Q_isCloser_28 : decode b_Q_isCloser 28 = .ok (.iload_n 2, 1) := by decide +kernel
theorem d_Q_isCloser_29 : decode b_Q_isCloser 29 = .ok (.iaload, 1) := by decide +kernel
theorem d_Q_isCloser_30 : decode b_Q_isCloser 30 = .ok (.istore_n 3, 1) := by decide +kernel
theorem d_Q_isCloser_31 : decode b_Q_isCloser 31 = .ok (.iconst 1, 1) := by decide +kernel
theorem d_Q_isCloser_32 : decode b_Q_isCloser 32 = .ok (.istore 4, 2) := by decide +kernel
theorem d_Q_isCloser_34 : decode b_Q_isCloser 34 = .ok (.iconst 0, 1) := by decide +kernel
theorem d_Q_isCloser_35 : decode b_Q_isCloser 35 = .ok (.istore 5, 2) := by decide +kernel
theorem d_Q_isCloser_37 : decode b_Q_isCloser 37 = .ok (.iload 5, 2) := by decide +kernel
theorem d_Q_isCloser_39 : decode b_Q_isCloser 39 = .ok (.iload_n 3, 1) := by decide +kernel
theorem d_Q_isCloser_40 : decode b_Q_isCloser 40 = .ok (.if_icmp .ge 34, 3) := by decide +kernel
theorem d_Q_isCloser_43 : decode b_Q_isCloser 43 = .ok (.iload 4, 2) := by decide +kernel
theorem d_Q_isCloser_45 : decode b_Q_isCloser 45 = .ok (.ifCond .eq 29, 3) := by decide +kernel
theorem d_Q_isCloser_48 : decode b_Q_isCloser 48 = .ok (.aload_n 0, 1) := by decide +kernel
theorem d_Q_isCloser_49 : decode b_Q_isCloser 49 = .ok (.aload_n 0, 1) := by decide +kernel
theorem d_Q_isCloser_50 : decode b_Q_isCloser 50 = .ok (.iload_n 1, 1) := by decide +kernel
theorem d_Q_isCloser_51 : decode b_Q_isCloser 51 = .ok (.iload 5, 2) := by decide +kernel
theorem d_Q_isCloser_53 : decode b_Q_isCloser 53 = .ok (.invokevirtual 135, 3) := by decide +kernel
theorem d_Q_isCloser_56 : decode b_Q_isCloser 56 = .ok (.aload_n 0, 1) := by decide +kernel
theorem d_Q_isCloser_57 : decode b_Q_isCloser 57 = .ok (.iload_n 2, 1) := by decide +kernel
theorem d_Q_isCloser_58 : decode b_Q_isCloser 58 = .ok (.iload 5, 2) := by decide +kernel
theorem d_Q_isCloser_60 : decode b_Q_isCloser 60 = .ok (.invokevirtual 135, 3) := by decide +kernel
theorem d_Q_isCloser_63 : decode b_Q_isCloser 63 = .ok (.invokevirtual 91, 3) := by decide +kernel
theorem d_Q_isCloser_66 : decode b_Q_isCloser 66 = .ok (.istore 4, 2) := by decide +kernel
theorem d_Q_isCloser_68 : decode b_Q_isCloser 68 = .ok (.iinc 5 1, 3) := by decide +kernel
theorem d_Q_isCloser_71 : decode b_Q_isCloser 71 = .ok (.goto (-34), 3) := by decide +kernel
theorem d_Q_isCloser_74 : decode b_Q_isCloser 74 = .ok (.iload 4, 2) := by decide +kernel
theorem d_Q_isCloser_76 : decode b_Q_isCloser 76 = .ok (.ireturn, 1) := by decide +kernel
abbrev rm_Q_isCloser : Room := { frames := 2, cells := 0, slots := 0, locals := 46 }
def st_Q_isCloser_L37 (n : Nat) (v1 : Int32) (v2 : Int32) (v3 : Int32) (v4 : Int32) (v5 : Int32) (S : ZQ) : Option ((Int32 × Int32 × ZQ) ⊕ (Nat × Int32 × Int32 × ZQ)) :=
  (if v3 ≤ v5 then
  some (.inr (74, v4, v5, S))
  else
  (if v4 = 0 then
    some (.inr (74, v4, v5, S))
    else
    zbind (fx_Q_parameterAt n S v1 v5) (fun r_7 S_7 =>
      zbind (fx_Q_parameterAt n S_7 v2 v5) (fun r_8 S_8 =>
      zbind (fx_Q_isUnder n S_8 r_7 r_8) (fun r_9 S_9 =>
      some (.inl (r_9, (v5 + (1 : Int32)), S_9)))))))

def fx_Q_isCloser_L37 (n : Nat) (v1 : Int32) (v2 : Int32) (v3 : Int32) (v4 : Int32) (v5 : Int32) (S : ZQ) : Option (Nat × Int32 × Int32 × ZQ) := zloop (fun (st : Int32 × Int32 × ZQ) => st_Q_isCloser_L37 n v1 v2 v3 st.1 st.2.1 st.2.2) n (v4, v5, S)

def fx_Q_isCloser (n : Nat) (S : ZQ) (a1 : Int32) (a2 : Int32) : Option (Int32 × ZQ) :=
  (if zoob a1 80 then none else
  (if zoob a2 80 then none else
  (if ((qMa S) a1.toNatClampNeg) ≤ ((qMa S) a2.toNatClampNeg) then
  (if zoob a2 80 then none else
    zbL3 (fx_Q_isCloser_L37 n a1 a2 ((qMa S) a2.toNatClampNeg) (1 : Int32) (0 : Int32) S) (fun x_10 v4_10 v5_10 S_10 =>
    if x_10 = 74 then
    (if v4_10 = 0 ∨ v4_10 = 1 then some (v4_10, S_10) else none)
    else none))
  else
  (if zoob a1 80 then none else
    zbL3 (fx_Q_isCloser_L37 n a1 a2 ((qMa S) a1.toNatClampNeg) (1 : Int32) (0 : Int32) S) (fun x_13 v4_13 v5_13 S_13 =>
    if x_13 = 74 then
    (if v4_13 = 0 ∨ v4_13 = 1 then some (v4_13, S_13) else none)
    else none)))))

set_option maxRecDepth 100000 in
set_option maxHeartbeats 4000000 in
theorem lp_Q_isCloser_L37 {z : zE} {B : Nat → Nat} {Rr : va_W} {p : Program} {l : Launch} {e : Env} {s : State} {m : MethodId} {args : Array Value} {below : List Frame} {meth : Method} {c : Code} {Q : State → Prop} {H0 : Heap} {A0 : Nat → Prop} (hM : zM z p s m args c b_Q_isCloser 6 R_Q) (hA : ∀ q : Nat, H0.size ≤ q → A0 q) (n : Nat) (v1 : Int32) (v2 : Int32) (v3 : Int32) :
    ∀ (v4 : Int32) (v5 : Int32) (S : ZQ) (r : Nat × Int32 × Int32 × ZQ), fx_Q_isCloser_L37 n v1 v2 v3 v4 v5 S = some r → (∀ (H : Heap) (locs : List Loc) (ls : Array Slot), va_P z.1 vwCl (qw z B r.2.2.2 ++ Rr) H → va_D A0 (qw z B r.2.2.2 ++ Rr) → va_S A0 H0 H locs → lv_has ls 6 [(0, .ref (B 0)), (1, .int v1), (2, .int v2), (3, .int v3), (4, .int r.2.1), (5, .int r.2.2.1)] → W p l e rm_Q_isCloser s m args below meth c H locs 0 0 Q (F0 m r.1 ls [])) →
    ∀ (H : Heap) (locs : List Loc) (ls : Array Slot), va_P z.1 vwCl (qw z B S ++ Rr) H → va_D A0 (qw z B S ++ Rr) → va_S A0 H0 H locs → lv_has ls 6 [(0, .ref (B 0)), (1, .int v1), (2, .int v2), (3, .int v3), (4, .int v4), (5, .int v5)] → W p l e rm_Q_isCloser s m args below meth c H locs 0 0 Q (F0 m 37 ls []) := by
  obtain ⟨hx, hb, hml, hown, hts, hK, hN⟩ := id hM
  intro v4 v5 S r h hE
  refine zz_loop (G := fun (st : Int32 × Int32 × ZQ) => ∀ (H : Heap) (locs : List Loc) (ls : Array Slot), va_P z.1 vwCl (qw z B st.2.2 ++ Rr) H → va_D A0 (qw z B st.2.2 ++ Rr) → va_S A0 H0 H locs → lv_has ls 6 [(0, .ref (B 0)), (1, .int v1), (2, .int v2), (3, .int v3), (4, .int st.1), (5, .int st.2.1)] → W p l e rm_Q_isCloser s m args below meth c H locs 0 0 Q (F0 m 37 ls [])) (E := fun (r : Nat × Int32 × Int32 × ZQ) => ∀ (H : Heap) (locs : List Loc) (ls : Array Slot), va_P z.1 vwCl (qw z B r.2.2.2 ++ Rr) H → va_D A0 (qw z B r.2.2.2 ++ Rr) → va_S A0 H0 H locs → lv_has ls 6 [(0, .ref (B 0)), (1, .int v1), (2, .int v2), (3, .int v3), (4, .int r.2.1), (5, .int r.2.2.1)] → W p l e rm_Q_isCloser s m args below meth c H locs 0 0 Q (F0 m r.1 ls [])) ?_ n (v4, v5, S) r h hE
  clear h hE r v4 v5 S
  rintro ⟨v4, v5, S⟩ o h hG hE H locs ls hP hD hS hl
  have h : st_Q_isCloser_L37 n v1 v2 v3 v4 v5 S = some o := h
  have hl : lv_has ls 6 [(0, .ref (B 0)), (1, .int v1), (2, .int v2), (3, .int v3), (4, .int v4), (5, .int v5)] := hl
  have hP : va_P z.1 vwCl (qw z B S ++ Rr) H := hP
  have hD : va_D A0 (qw z B S ++ Rr) := hD
  unfold st_Q_isCloser_L37 at h
  refine lv_iload hx hb d_Q_isCloser_37 (lv_at hl 5 rfl) ?_
  refine lv_iload_n hx hb d_Q_isCloser_39 rfl (lv_at hl 3 rfl) ?_
  refine lv_icmp_ge (tgt := 74) hx hb d_Q_isCloser_40 (by decide) (fun c_5 => ?_) (fun c_5 => ?_)
  · replace h := zz_t c_5 h
    exact hE _ (Option.some.inj h).symm _ _ _ hP hD hS hl
  · replace h := zz_f c_5 h
    refine lv_iload hx hb d_Q_isCloser_43 (lv_at hl 4 rfl) ?_
    refine lv_if_eq (tgt := 74) hx hb d_Q_isCloser_45 (by decide) (fun c_6 => ?_) (fun c_6 => ?_)
    · replace h := zz_t c_6 h
      exact hE _ (Option.some.inj h).symm _ _ _ hP hD hS hl
    · replace h := zz_f c_6 h
      refine lv_aload_n hx hb d_Q_isCloser_48 rfl (lv_at hl 0 rfl) ?_
      refine lv_aload_n hx hb d_Q_isCloser_49 rfl (lv_at hl 0 rfl) ?_
      refine lv_iload_n hx hb d_Q_isCloser_50 rfl (lv_at hl 1 rfl) ?_
      refine lv_iload hx hb d_Q_isCloser_51 (lv_at hl 5 rfl) ?_
      obtain ⟨r_7, S_7, e_7, h⟩ := zz_bind h
      refine zz_goI (zz_runV (As := [.int v1, .int v5]) (rest := [.ref (B 0)]) (k_Q_parameterAt l z B Rr n _ _ _ _ _ e_7) ⟨hx, hb, hml, hown, hts⟩ (cwV 2 hts (zz_gV wq_728 wq_730 wp_32 wq_6 wq_731) rfl rfl rfl (by decide +kernel) ⟨Nat.le_of_ble_eq_true rfl, Nat.le_of_ble_eq_true rfl⟩) hK hN hP hD (va_recv hK hP (ci := 5) (q0 := 0) rfl rfl) rfl hl.1 rfl (Nat.le_of_ble_eq_true rfl) d_Q_isCloser_53 ⟨Nat.le_of_ble_eq_true rfl, Nat.le_of_ble_eq_true rfl⟩) hD hS hA (fun H locs hP hD hS => ?_)
      refine lv_aload_n hx hb d_Q_isCloser_56 rfl (lv_at hl 0 rfl) ?_
      refine lv_iload_n hx hb d_Q_isCloser_57 rfl (lv_at hl 2 rfl) ?_
      refine lv_iload hx hb d_Q_isCloser_58 (lv_at hl 5 rfl) ?_
      obtain ⟨r_8, S_8, e_8, h⟩ := zz_bind h
      refine zz_goI (zz_runV (As := [.int v2, .int v5]) (rest := [.int r_7, .ref (B 0)]) (k_Q_parameterAt l z B Rr n _ _ _ _ _ e_8) ⟨hx, hb, hml, hown, hts⟩ (cwV 2 hts (zz_gV wq_728 wq_730 wp_32 wq_6 wq_731) rfl rfl rfl (by decide +kernel) ⟨Nat.le_of_ble_eq_true rfl, Nat.le_of_ble_eq_true rfl⟩) hK hN hP hD (va_recv hK hP (ci := 5) (q0 := 0) rfl rfl) rfl hl.1 rfl (Nat.le_of_ble_eq_true rfl) d_Q_isCloser_60 ⟨Nat.le_of_ble_eq_true rfl, Nat.le_of_ble_eq_true rfl⟩) hD hS hA (fun H locs hP hD hS => ?_)
      obtain ⟨r_9, S_9, e_9, h⟩ := zz_bind h
      refine zz_goI (zz_runV (As := [.int r_7, .int r_8]) (rest := []) (k_Q_isUnder l z B Rr n _ _ _ _ _ e_9) ⟨hx, hb, hml, hown, hts⟩ (cwV 2 hts (zz_gV wq_664 wq_666 wp_21 wq_6 wq_667) rfl rfl rfl (by decide +kernel) ⟨Nat.le_of_ble_eq_true rfl, Nat.le_of_ble_eq_true rfl⟩) hK hN hP hD (va_recv hK hP (ci := 5) (q0 := 0) rfl rfl) rfl hl.1 rfl (Nat.le_of_ble_eq_true rfl) d_Q_isCloser_63 ⟨Nat.le_of_ble_eq_true rfl, Nat.le_of_ble_eq_true rfl⟩) hD hS hA (fun H locs hP hD hS => ?_)
      refine lv_istore (lv' := [(4, .int r_9), (0, .ref (B 0)), (1, .int v1), (2, .int v2), (3, .int v3), (5, .int v5)]) hx hb d_Q_isCloser_66 hl (by decide) rfl (fun ls hl => ?_)
      refine lv_iinc (v := (v5 + (1 : Int32))) (lv' := [(5, .int (v5 + (1 : Int32))), (4, .int r_9), (0, .ref (B 0)), (1, .int v1), (2, .int v2), (3, .int v3)]) hx hb d_Q_isCloser_68 hl (k := 5) rfl rfl (by decide) rfl (fun ls hl => ?_)
      refine lv_goto (tgt := 37) hx hb d_Q_isCloser_71 (by decide) ?_
      exact hG _ (Option.some.inj h).symm _ _ _ hP hD hS (lv_sub hl [2, 3, 4, 5, 1, 0] rfl)

set_option maxRecDepth 100000 in
set_option maxHeartbeats 4000000 in
theorem k_Q_isCloser (l : Launch) (z : zE) (B : Nat → Nat) (Rr : va_W) (n : Nat) (S : ZQ) (a1 : Int32) (a2 : Int32) (r0 : Int32) (S' : ZQ) (h : fx_Q_isCloser n S a1 a2 = some (r0, S')) : zC z l y_Q_isCloser w_Q_isCloser rm_Q_isCloser [.ref (B 0), .int a1, .int a2] (qw z B S ++ Rr) (some (.int r0)) (qw z B S' ++ Rr) := by
  refine zz_of (by decide) (Nat.le_of_ble_eq_true rfl) ?_
  intro p e s m args below meth c A0 ls hM hr hlocks hA hP hD hl
  have hM : zM z p s m args c b_Q_isCloser 6 R_Q := hM
  obtain ⟨hx, hb, hml, hown, hts, hK, hN⟩ := id hM
  have hS : va_S A0 s.heap s.heap [] := va_S.rf
  have hl : lv_has ls 6 [(0, .ref (B 0)), (1, .int a1), (2, .int a2)] := hl
  unfold fx_Q_isCloser at h
  refine lv_aload_n hx hb d_Q_isCloser_0 rfl (lv_at hl 0 rfl) ?_
  refine va_get (D := z.1) (ci := 5) (v := .ref (B 7)) (C := R_Q) (T := F_Q) (N := 28) hx hb hts i_Q hown hK hP 0 rfl rfl 9 (by decide) (hts _ wq_560) (fun _ h9 => h9) rfl d_Q_isCloser_1 ?_
  refine lv_iload_n hx hb d_Q_isCloser_4 rfl (lv_at hl 1 rfl) ?_
  obtain ⟨c_1, h⟩ := zz_oob h
  refine va_iald hx hb hK hP 7 0 rfl rfl c_1 d_Q_isCloser_5 ?_
  refine lv_aload_n hx hb d_Q_isCloser_6 rfl (lv_at hl 0 rfl) ?_
  refine va_get (D := z.1) (ci := 5) (v := .ref (B 7)) (C := R_Q) (T := F_Q) (N := 28) hx hb hts i_Q hown hK hP 0 rfl rfl 9 (by decide) (hts _ wq_560) (fun _ h9 => h9) rfl d_Q_isCloser_7 ?_
  refine lv_iload_n hx hb d_Q_isCloser_10 rfl (lv_at hl 2 rfl) ?_
  obtain ⟨c_2, h⟩ := zz_oob h
  refine va_iald hx hb hK hP 7 0 rfl rfl c_2 d_Q_isCloser_11 ?_
  refine lv_icmp_le (tgt := 24) hx hb d_Q_isCloser_12 (by decide) (fun c_3 => ?_) (fun c_3 => ?_)
  · replace h := zz_t c_3 h
    refine lv_aload_n hx hb d_Q_isCloser_24 rfl (lv_at hl 0 rfl) ?_
    refine va_get (D := z.1) (ci := 5) (v := .ref (B 7)) (C := R_Q) (T := F_Q) (N := 28) hx hb hts i_Q hown hK hP 0 rfl rfl 9 (by decide) (hts _ wq_560) (fun _ h9 => h9) rfl d_Q_isCloser_25 ?_
    refine lv_iload_n hx hb d_Q_isCloser_28 rfl (lv_at hl 2 rfl) ?_
    obtain ⟨c_4, h⟩ := zz_oob h
    refine va_iald hx hb hK hP 7 0 rfl rfl c_4 d_Q_isCloser_29 ?_
    refine lv_istore_n (lv' := [(3, .int ((qMa S) a2.toNatClampNeg)), (0, .ref (B 0)), (1, .int a1), (2, .int a2)]) hx hb d_Q_isCloser_30 rfl hl (by decide) rfl (fun ls hl => ?_)
    refine lv_iconst (v := 1) hx hb d_Q_isCloser_31 (by decide) ?_
    refine lv_istore (lv' := [(4, .int (1 : Int32)), (3, .int ((qMa S) a2.toNatClampNeg)), (0, .ref (B 0)), (1, .int a1), (2, .int a2)]) hx hb d_Q_isCloser_32 hl (by decide) rfl (fun ls hl => ?_)
    refine lv_iconst (v := 0) hx hb d_Q_isCloser_34 (by decide) ?_
    refine lv_istore (lv' := [(5, .int (0 : Int32)), (4, .int (1 : Int32)), (3, .int ((qMa S) a2.toNatClampNeg)), (0, .ref (B 0)), (1, .int a1), (2, .int a2)]) hx hb d_Q_isCloser_35 hl (by decide) rfl (fun ls hl => ?_)
    replace h := zz_bL3 h
    obtain ⟨x_10, v4_10, v5_10, S_10, e_10, h⟩ := h
    refine lp_Q_isCloser_L37 hM hA n a1 a2 ((qMa S) a2.toNatClampNeg) _ _ _ _ e_10 ?_ _ _ _ hP hD hS (lv_sub hl [3, 4, 5, 2, 1, 0] rfl)
    intro H locs ls hP hD hS hl
    have hl : lv_has ls 6 [(0, .ref (B 0)), (1, .int a1), (2, .int a2), (3, .int ((qMa S) a2.toNatClampNeg)), (4, .int v4_10), (5, .int v5_10)] := hl
    have hP : va_P z.1 vwCl (qw z B S_10 ++ Rr) H := hP
    have hD : va_D A0 (qw z B S_10 ++ Rr) := hD
    replace h := zz_grd h
    obtain ⟨c_10, h⟩ := h
    subst c_10
    refine W.eq (g2 := F0 m 74 ls []) rfl ?_
    refine lv_iload hx hb d_Q_isCloser_74 (lv_at hl 4 rfl) ?_
    obtain ⟨c_11, h⟩ := zz_grd h
    exact zz_zret (fun S => qw z B S ++ Rr) hx hb hr hlocks hP hD hS (zz_bool c_11) h d_Q_isCloser_76
  · replace h := zz_f c_3 h
    refine lv_aload_n hx hb d_Q_isCloser_15 rfl (lv_at hl 0 rfl) ?_
    refine va_get (D := z.1) (ci := 5) (v := .ref (B 7)) (C := R_Q) (T := F_Q) (N := 28) hx hb hts i_Q hown hK hP 0 rfl rfl 9 (by decide) (hts _ wq_560) (fun _ h9 => h9) rfl d_Q_isCloser_16 ?_
    refine lv_iload_n hx hb d_Q_isCloser_19 rfl (lv_at hl 1 rfl) ?_
    obtain ⟨c_12, h⟩ := zz_oob h
    refine va_iald hx hb hK hP 7 0 rfl rfl c_12 d_Q_isCloser_20 ?_
    refine lv_goto (tgt := 30) hx hb d_Q_isCloser_21 (by decide) ?_
    refine lv_istore_n (lv' := [(3, .int ((qMa S) a1.toNatClampNeg)), (0, .ref (B 0)), (1, .int a1), (2, .int a2)]) hx hb d_Q_isCloser_30 rfl hl (by decide) rfl (fun ls hl => ?_)
    refine lv_iconst (v := 1) hx hb d_Q_isCloser_31 (by decide) ?_
    refine lv_istore (lv' := [(4, .int (1 : Int32)), (3, .int ((qMa S) a1.toNatClampNeg)), (0, .ref (B 0)), (1, .int a1), (2, .int a2)]) hx hb d_Q_isCloser_32 hl (by decide) rfl (fun ls hl => ?_)
    refine lv_iconst (v := 0) hx hb d_Q_isCloser_34 (by decide) ?_
    refine lv_istore (lv' := [(5, .int (0 : Int32)), (4, .int (1 : Int32)), (3, .int ((qMa S) a1.toNatClampNeg)), (0, .ref (B 0)), (1, .int a1), (2, .int a2)]) hx hb d_Q_isCloser_35 hl (by decide) rfl (fun ls hl => ?_)
    replace h := zz_bL3 h
    obtain ⟨x_13, v4_13, v5_13, S_13, e_13, h⟩ := h
    refine lp_Q_isCloser_L37 hM hA n a1 a2 ((qMa S) a1.toNatClampNeg) _ _ _ _ e_13 ?_ _ _ _ hP hD hS (lv_sub hl [3, 4, 5, 2, 1, 0] rfl)
    intro H locs ls hP hD hS hl
    have hl : lv_has ls 6 [(0, .ref (B 0)), (1, .int a1), (2, .int a2), (3, .int ((qMa S) a1.toNatClampNeg)), (4, .int v4_13), (5, .int v5_13)] := hl
    have hP : va_P z.1 vwCl (qw z B S_13 ++ Rr) H := hP
    have hD : va_D A0 (qw z B S_13 ++ Rr) := hD
    replace h := zz_grd h
    obtain ⟨c_13, h⟩ := h
    subst c_13
    refine W.eq (g2 := F0 m 74 ls []) rfl ?_
    refine lv_iload hx hb d_Q_isCloser_74 (lv_at hl 4 rfl) ?_
    obtain ⟨c_14, h⟩ := zz_grd h
    exact zz_zret (fun S => qw z B S ++ Rr) hx hb hr hlocks hP hD hS (zz_bool c_14) h d_Q_isCloser_76

abbrev b_Q_workOut : ByteArray := prog_7_method_26_code
abbrev y_Q_workOut : MethodName := ⟨"MemberChooserModel", "workOut", "(III)I"⟩
abbrev w_Q_workOut : List Cond := Cond.code y_Q_workOut b_Q_workOut 10 (some .int) :: zTb
theorem d_Q_workOut_0 : decode b_Q_workOut 0 = .ok (.aload_n 0, 1) := by decide +kernel
theorem d_Q_workOut_1 : decode b_Q_workOut 1 = .ok (.iload_n 1, 1) := by decide +kernel
theorem d_Q_workOut_2 : decode b_Q_workOut 2 = .ok (.iload_n 2, 1) := by decide +kernel
theorem d_Q_workOut_3 : decode b_Q_workOut 3 = .ok (.invokevirtual 132, 3) := by decide +kernel
theorem d_Q_workOut_6 : decode b_Q_workOut 6 = .ok (.aload_n 0, 1) := by decide +kernel
theorem d_Q_workOut_7 : decode b_Q_workOut 7 = .ok (.iconst 1, 1) := by decide +kernel
theorem d_Q_workOut_8 : decode b_Q_workOut 8 = .ok (.putfield 143, 3) := by decide +kernel
theorem d_Q_workOut_11 : decode b_Q_workOut 11 = .ok (.aload_n 0, 1) := by decide +kernel
theorem d_Q_workOut_12 : decode b_Q_workOut 12 = .ok (.getfield 143, 3) := by decide +kernel
theorem d_Q_workOut_15 : decode b_Q_workOut 15 = .ok (.iconst 4, 1) := by decide +kernel
theorem d_Q_workOut_16 : decode b_Q_workOut 16 = .ok (.if_icmp .ge 188, 3) := by decide +kernel
theorem d_Q_workOut_19 : decode b_Q_workOut 19 = .ok (.iconst 0, 1) := by decide +kernel
theorem d_Q_workOut_20 : decode b_Q_workOut 20 = .ok (.istore 4, 2) := by decide +kernel
theorem d_Q_workOut_22 : decode b_Q_workOut 22 = .ok (.iconst 0, 1) := by decide +kernel
theorem d_Q_workOut_23 : decode b_Q_workOut 23 = .ok (.istore 5, 2) := by decide +kernel
theorem d_Q_workOut_25 : decode b_Q_workOut 25 = .ok (.bipush (-2), 2) := by decide +kernel
theorem d_Q_workOut_27 : decode b_Q_workOut 27 = .ok (.istore 6, 2) := by decide +kernel
theorem d_Q_workOut_29 : decode b_Q_workOut 29 = .ok (.iconst 0, 1) := by decide +kernel
theorem d_Q_workOut_30 : decode b_Q_workOut 30 = .ok (.istore 7, 2) := by decide +kernel
theorem d_Q_workOut_32 : decode b_Q_workOut 32 = .ok (.iload 7, 2) := by decide +kernel
theorem d_Q_workOut_34 : decode b_Q_workOut 34 = .ok (.aload_n 0, 1) := by decide +kernel
theorem d_Q_workOut_35 : decode b_Q_workOut 35 = .ok (.getfield 126, 3) := by decide +kernel
theorem d_Q_workOut_38 : decode b_Q_workOut 38 = .ok (.if_icmp .ge 134, 3) := by decide +kernel
theorem d_Q_workOut_41 : decode b_Q_workOut 41 = .ok (.aload_n 0, 1) := by decide +kernel
theorem d_Q_workOut_42 : decode b_Q_workOut 42 = .ok (.aload_n 0, 1) := by decide +kernel
theorem d_Q_workOut_43 : decode b_Q_workOut 43 = .ok (.getfield 61, 3) := by decide +kernel
theorem d_Q_workOut_46 : decode b_Q_workOut 46 = .ok (.iload 7, 2) := by decide +kernel
theorem d_Q_workOut_48 : decode b_Q_workOut 48 = .ok (.iaload, 1) := by decide +kernel
theorem d_Q_workOut_49 : decode b_Q_workOut 49 = .ok (.iload_n 3, 1) := by decide +kernel
theorem d_Q_workOut_50 : decode b_Q_workOut 50 = .ok (.aload_n 0, 1) := by decide +kernel
theorem d_Q_workOut_51 : decode b_Q_workOut 51 = .ok (.getfield 143, 3) := by decide +kernel
theorem d_Q_workOut_54 : decode b_Q_workOut 54 = .ok (.invokevirtual 146, 3) := by decide +kernel
theorem d_Q_workOut_57 : decode b_Q_workOut 57 = .ok (.ifCond .ne 6, 3) := by decide +kernel
theorem d_Q_workOut_60 : decode b_Q_workOut 60 = .ok (.goto 106, 3) := by decide +kernel
theorem d_Q_workOut_63 : decode b_Q_workOut 63 = .ok (.iinc 4 1, 3) := by decide +kernel
theorem d_Q_workOut_66 : decode b_Q_workOut 66 = .ok (.iconst 1, 1) := by decide +kernel
theorem d_Q_workOut_67 : decode b_Q_workOut 67 = .ok (.istore 8, 2) := by decide +kernel
theorem d_Q_workOut_69 : decode b_Q_workOut 69 = .ok (.iconst 0, 1) := by decide +kernel
theorem d_Q_workOut_70 : decode b_Q_workOut 70 = .ok (.istore 9, 2) := by decide +kernel
theorem d_Q_workOut_72 : decode b_Q_workOut 72 = .ok (.iload 9, 2) := by decide +kernel
theorem d_Q_workOut_74 : decode b_Q_workOut 74 = .ok (.aload_n 0, 1) := by decide +kernel
theorem d_Q_workOut_75 : decode b_Q_workOut 75 = .ok (.getfield 126, 3) := by decide +kernel
theorem d_Q_workOut_78 : decode b_Q_workOut 78 = .ok (.if_icmp .ge 68, 3) := by decide +kernel
theorem d_Q_workOut_81 : decode b_Q_workOut 81 = .ok (.iload 8, 2) := by decide +kernel
theorem d_Q_workOut_83 : decode b_Q_workOut 83 = .ok (.ifCond .eq 63, 3) := by decide +kernel
theorem d_Q_workOut_86 : decode b_Q_workOut 86 = .ok (.iload 9, 2) := by decide +kernel
theorem d_Q_workOut_88 : decode b_Q_workOut 88 = .ok (.iload 7, 2) := by decide +kernel
theorem d_Q_workOut_90 : decode b_Q_workOut 90 = .ok (.if_icmp .eq 43, 3) := by decide +kernel
theorem d_Q_workOut_93 : decode b_Q_workOut 93 = .ok (.aload_n 0, 1) := by decide +kernel
theorem d_Q_workOut_94 : decode b_Q_workOut 94 = .ok (.aload_n 0, 1) := by decide +kernel
theorem d_Q_workOut_95 : decode b_Q_workOut 95 = .ok (.getfield 61, 3) := by decide +kernel
theorem d_Q_workOut_98 : decode b_Q_workOut 98 = .ok (.iload 9, 2) := by decide +kernel
theorem d_Q_workOut_100 : decode b_Q_workOut 100 = .ok (.iaload, 1) := by decide +kernel
theorem d_Q_workOut_101 : decode b_Q_workOut 101 = .ok (.iload_n 3, 1) := by decide +kernel
theorem d_Q_workOut_102 : decode b_Q_workOut 102 = .ok (.aload_n 0, 1) := by decide +kernel
theorem d_Q_workOut_103 : decode b_Q_workOut 103 = .ok (.getfield 143, 3) := by decide +kernel
theorem d_Q_workOut_106 : decode b_Q_workOut 106 = .ok (.invokevirtual 146, 3) := by decide +kernel
theorem d_Q_workOut_109 : decode b_Q_workOut 109 = .ok (.ifCond .eq 24, 3) := by decide +kernel
theorem d_Q_workOut_112 : decode b_Q_workOut 112 = .ok (.aload_n 0, 1) := by decide +kernel
theorem d_Q_workOut_113 : decode b_Q_workOut 113 = .ok (.aload_n 0, 1) := by decide +kernel
theorem d_Q_workOut_114 : decode b_Q_workOut 114 = .ok (.getfield 61, 3) := by decide +kernel
theorem d_Q_workOut_117 : decode b_Q_workOut 117 = .ok (.iload 7, 2) := by decide +kernel
theorem d_Q_workOut_119 : decode b_Q_workOut 119 = .ok (.iaload, 1) := by decide +kernel
theorem d_Q_workOut_120 : decode b_Q_workOut 120 = .ok (.aload_n 0, 1) := by decide +kernel
theorem d_Q_workOut_121 : decode b_Q_workOut 121 = .ok (.getfield 61, 3) := by decide +kernel
theorem d_Q_workOut_124 : decode b_Q_workOut 124 = .ok (.iload 9, 2) := by decide +kernel
theorem d_Q_workOut_126 : decode b_Q_workOut 126 = .ok (.iaload, 1) := by decide +kernel
theorem d_Q_workOut_127 : decode b_Q_workOut 127 = .ok (.invokevirtual 150, 3) := by decide +kernel
theorem d_Q_workOut_130 : decode b_Q_workOut 130 = .ok (.ifCond .eq 7, 3) := by decide +kernel
theorem d_Q_workOut_133 : decode b_Q_workOut 133 = .ok (.iconst 1, 1) := by decide +kernel
theorem d_Q_workOut_134 : decode b_Q_workOut 134 = .ok (.goto 4, 3) := by decide +kernel
theorem d_Q_workOut_137 : decode b_Q_workOut 137 = .ok (.iconst 0, 1) := by decide +kernel
theorem d_Q_workOut_138 : decode b_Q_workOut 138 = .ok (.istore 8, 2) := by decide +kernel
theorem d_Q_workOut_140 : decode b_Q_workOut 140 = .ok (.iinc 9 1, 3) := by decide +kernel
theorem d_Q_workOut_143 : decode b_Q_workOut 143 = .ok (.goto (-71), 3) := by decide +kernel
theorem d_Q_workOut_146 : decode b_Q_workOut 146 = .ok (.iload 8, 2) := by decide +kernel
theorem d_Q_workOut_148 : decode b_Q_workOut 148 = .ok (.ifCond .ne 6, 3) := by decide +kernel
theorem d_Q_workOut_151 : decode b_Q_workOut 151 = .ok (.goto 15, 3) := by decide +kernel
theorem d_Q_workOut_154 : decode b_Q_workOut 154 = .ok (.iinc 5 1, 3) := by decide +kernel
theorem d_Q_workOut_157 : decode b_Q_workOut 157 = .ok (.aload_n 0, 1) := by decide +kernel
theorem d_Q_workOut_158 : decode b_Q_workOut 158 = .ok (.getfield 61, 3) := by decide +kernel
theorem d_Q_workOut_161 : decode b_Q_workOut 161 = .ok (.iload 7, 2) := by decide +kernel
theorem d_Q_workOut_163 : decode b_Q_workOut 163 = .ok (.iaload, 1) := by decide +kernel
theorem d_Q_workOut_164 : decode b_Q_workOut 164 = .ok (.istore 6, 2) := by decide +kernel
theorem d_Q_workOut_166 : decode b_Q_workOut 166 = .ok (.iinc 7 1, 3) := by decide +kernel
theorem d_Q_workOut_169 : decode b_Q_workOut 169 = .ok (.goto (-137), 3) := by decide +kernel
theorem d_Q_workOut_172 : decode b_Q_workOut 172 = .ok (.iload 4, 2) := by decide +kernel
theorem d_Q_workOut_174 : decode b_Q_workOut 174 = .ok (.ifCond .le 17, 3) := by decide +kernel
theorem d_Q_workOut_177 : decode b_Q_workOut 177 = .ok (.iload 5, 2) := by decide +kernel
theorem d_Q_workOut_179 : decode b_Q_workOut 179 = .ok (.iconst 1, 1) := by decide +kernel
theorem d_Q_workOut_180 : decode b_Q_workOut 180 = .ok (.if_icmp .ne 8, 3) := by decide +kernel
theorem d_Q_workOut_183 : decode b_Q_workOut 183 = .ok (.iload 6, 2) := by decide +kernel
theorem d_Q_workOut_185 : decode b_Q_workOut 185 = .ok (.goto 5, 3) := by decide +kernel
theorem d_Q_workOut_188 : decode b_Q_workOut 188 = .ok (.bipush (-2), 2) := by decide +kernel
theorem d_Q_workOut_190 : decode b_Q_workOut 190 = .ok (.ireturn, 1) := by decide +kernel
theorem d_Q_workOut_191 : decode b_Q_workOut 191 = .ok (.aload_n 0, 1) := by decide +kernel
theorem d_Q_workOut_192 : decode b_Q_workOut 192 = .ok (.dup, 1) := by decide +kernel
theorem d_Q_workOut_193 : decode b_Q_workOut 193 = .ok (.getfield 143, 3) := by decide +kernel
theorem d_Q_workOut_196 : decode b_Q_workOut 196 = .ok (.iconst 1, 1) := by decide +kernel
theorem d_Q_workOut_197 : decode b_Q_workOut 197 = .ok (.iadd, 1) := by decide +kernel
theorem d_Q_workOut_198 : decode b_Q_workOut 198 = .ok (.putfield 143, 3) := by decide +kernel
theorem d_Q_workOut_201 : decode b_Q_workOut 201 = .ok (.goto (-190), 3) := by decide +kernel
theorem d_Q_workOut_204 : decode b_Q_workOut 204 = .ok (.aload_n 0, 1) := by decide +kernel
theorem d_Q_workOut_205 : decode b_Q_workOut 205 = .ok (.iconst 0, 1) := by decide +kernel
theorem d_Q_workOut_206 : decode b_Q_workOut 206 = .ok (.putfield 143, 3) := by decide +kernel
theorem d_Q_workOut_209 : decode b_Q_workOut 209 = .ok (.bipush (-3), 2) := by decide +kernel
theorem d_Q_workOut_211 : decode b_Q_workOut 211 = .ok (.ireturn, 1) := by decide +kernel
abbrev rm_Q_workOut : Room := { frames := 4, cells := 0, slots := 0, locals := 95 }
def st_Q_workOut_L72 (n : Nat) (v3 : Int32) (v4 : Int32) (v5 : Int32) (v6 : Int32) (v7 : Int32) (v8 : Int32) (v9 : Int32) (S : ZQ) : Option ((Int32 × Int32 × ZQ) ⊕ (Nat × Int32 × Int32 × ZQ)) :=
  (if (qMm S) ≤ v9 then
  some (.inr (146, v8, v9, S))
  else
  (if v8 = 0 then
    some (.inr (146, v8, v9, S))
    else
    (if v9 = v7 then
      some (.inl ((1 : Int32), (v9 + (1 : Int32)), S))
      else
      (if zoob v9 80 then none else
        zbind (fx_Q_fits n S ((qMt S) v9.toNatClampNeg) v3 (qPh S)) (fun r_12 S_12 =>
        (if r_12 = 0 then
        some (.inl ((1 : Int32), (v9 + (1 : Int32)), S_12))
        else
        (if zoob v7 80 then none else
          (if zoob v9 80 then none else
          zbind (fx_Q_isCloser n S_12 ((qMt S_12) v7.toNatClampNeg) ((qMt S_12) v9.toNatClampNeg)) (fun r_16 S_16 =>
          (if r_16 = 0 then
          some (.inl ((0 : Int32), (v9 + (1 : Int32)), S_16))
          else
          some (.inl ((1 : Int32), (v9 + (1 : Int32)), S_16))))))))))))

def fx_Q_workOut_L72 (n : Nat) (v3 : Int32) (v4 : Int32) (v5 : Int32) (v6 : Int32) (v7 : Int32) (v8 : Int32) (v9 : Int32) (S : ZQ) : Option (Nat × Int32 × Int32 × ZQ) := zloop (fun (st : Int32 × Int32 × ZQ) => st_Q_workOut_L72 n v3 v4 v5 v6 v7 st.1 st.2.1 st.2.2) n (v8, v9, S)

def st_Q_workOut_L32 (n : Nat) (v3 : Int32) (v4 : Int32) (v5 : Int32) (v6 : Int32) (v7 : Int32) (S : ZQ) : Option ((Int32 × Int32 × Int32 × Int32 × ZQ) ⊕ (Nat × Int32 × Int32 × Int32 × Int32 × ZQ)) :=
  (if (qMm S) ≤ v7 then
  some (.inr (172, v4, v5, v6, v7, S))
  else
  (if zoob v7 80 then none else
    zbind (fx_Q_fits n S ((qMt S) v7.toNatClampNeg) v3 (qPh S)) (fun r_6 S_6 =>
    (if r_6 = 0 then
    some (.inl (v4, v5, v6, (v7 + (1 : Int32)), S_6))
    else
    zbL3 (fx_Q_workOut_L72 n v3 (v4 + (1 : Int32)) v5 v6 v7 (1 : Int32) (0 : Int32) S_6) (fun x_18 v8_18 v9_18 S_18 =>
      if x_18 = 146 then
      (if v8_18 = 0 then
      some (.inl ((v4 + (1 : Int32)), v5, v6, (v7 + (1 : Int32)), S_18))
      else
      (if zoob v7 80 then none else
        some (.inl ((v4 + (1 : Int32)), (v5 + (1 : Int32)), ((qMt S_18) v7.toNatClampNeg), (v7 + (1 : Int32)), S_18))))
      else none)))))

def fx_Q_workOut_L32 (n : Nat) (v3 : Int32) (v4 : Int32) (v5 : Int32) (v6 : Int32) (v7 : Int32) (S : ZQ) : Option (Nat × Int32 × Int32 × Int32 × Int32 × ZQ) := zloop (fun (st : Int32 × Int32 × Int32 × Int32 × ZQ) => st_Q_workOut_L32 n v3 st.1 st.2.1 st.2.2.1 st.2.2.2.1 st.2.2.2.2) n (v4, v5, v6, v7, S)

def st_Q_workOut_L11 (n : Nat) (v3 : Int32) (S : ZQ) : Option ((ZQ) ⊕ (Nat × Int32 × Int32 × ZQ)) :=
  (if (4 : Int32) ≤ (qPh S) then
  some (.inr (204, 0, 0, S))
  else
  zbL5 (fx_Q_workOut_L32 n v3 (0 : Int32) (0 : Int32) (-2 : Int32) (0 : Int32) S) (fun x_21 v4_21 v5_21 v6_21 v7_21 S_21 =>
    if x_21 = 172 then
    (if v4_21 ≤ 0 then
    zlet (qPh' S_21 ((qPh S_21) + (1 : Int32))) (fun S_23 =>
      some (.inl (S_23)))
    else
    some (.inr (177, v5_21, v6_21, S_21)))
    else none))

def fx_Q_workOut_L11 (n : Nat) (v3 : Int32) (S : ZQ) : Option (Nat × Int32 × Int32 × ZQ) := zloop (fun (st : ZQ) => st_Q_workOut_L11 n v3 st) n (S)

def fx_Q_workOut (n : Nat) (S : ZQ) (a1 : Int32) (a2 : Int32) (a3 : Int32) : Option (Int32 × ZQ) :=
  zbind1 (fx_Q_means n S a1 a2) (fun S_1 =>
  zlet (qPh' S_1 (1 : Int32)) (fun S_2 =>
  zbL3 (fx_Q_workOut_L11 n a3  S_2) (fun x_24 v5_24 v6_24 S_24 =>
  if x_24 = 177 then
  (if v5_24 = (1 : Int32) then
    some (v6_24, S_24)
    else
    some ((-2 : Int32), S_24))
  else if x_24 = 204 then
  zlet (qPh' S_24 (0 : Int32)) (fun S_26 =>
  some ((-3 : Int32), S_26))
  else none)))

set_option maxRecDepth 100000 in
set_option maxHeartbeats 4000000 in
theorem lp_Q_workOut_L72 {z : zE} {B : Nat → Nat} {Rr : va_W} {p : Program} {l : Launch} {e : Env} {s : State} {m : MethodId} {args : Array Value} {below : List Frame} {meth : Method} {c : Code} {Q : State → Prop} {H0 : Heap} {A0 : Nat → Prop} (hM : zM z p s m args c b_Q_workOut 10 R_Q) (hA : ∀ q : Nat, H0.size ≤ q → A0 q) (n : Nat) (v3 : Int32) (v4 : Int32) (v5 : Int32) (v6 : Int32) (v7 : Int32) :
    ∀ (v8 : Int32) (v9 : Int32) (S : ZQ) (r : Nat × Int32 × Int32 × ZQ), fx_Q_workOut_L72 n v3 v4 v5 v6 v7 v8 v9 S = some r → (∀ (H : Heap) (locs : List Loc) (ls : Array Slot), va_P z.1 vwCl (qw z B r.2.2.2 ++ Rr) H → va_D A0 (qw z B r.2.2.2 ++ Rr) → va_S A0 H0 H locs → lv_has ls 10 [(0, .ref (B 0)), (3, .int v3), (4, .int v4), (5, .int v5), (6, .int v6), (7, .int v7), (8, .int r.2.1), (9, .int r.2.2.1)] → W p l e rm_Q_workOut s m args below meth c H locs 0 0 Q (F0 m r.1 ls [])) →
    ∀ (H : Heap) (locs : List Loc) (ls : Array Slot), va_P z.1 vwCl (qw z B S ++ Rr) H → va_D A0 (qw z B S ++ Rr) → va_S A0 H0 H locs → lv_has ls 10 [(0, .ref (B 0)), (3, .int v3), (4, .int v4), (5, .int v5), (6, .int v6), (7, .int v7), (8, .int v8), (9, .int v9)] → W p l e rm_Q_workOut s m args below meth c H locs 0 0 Q (F0 m 72 ls []) := by
  obtain ⟨hx, hb, hml, hown, hts, hK, hN⟩ := id hM
  intro v8 v9 S r h hE
  refine zz_loop (G := fun (st : Int32 × Int32 × ZQ) => ∀ (H : Heap) (locs : List Loc) (ls : Array Slot), va_P z.1 vwCl (qw z B st.2.2 ++ Rr) H → va_D A0 (qw z B st.2.2 ++ Rr) → va_S A0 H0 H locs → lv_has ls 10 [(0, .ref (B 0)), (3, .int v3), (4, .int v4), (5, .int v5), (6, .int v6), (7, .int v7), (8, .int st.1), (9, .int st.2.1)] → W p l e rm_Q_workOut s m args below meth c H locs 0 0 Q (F0 m 72 ls [])) (E := fun (r : Nat × Int32 × Int32 × ZQ) => ∀ (H : Heap) (locs : List Loc) (ls : Array Slot), va_P z.1 vwCl (qw z B r.2.2.2 ++ Rr) H → va_D A0 (qw z B r.2.2.2 ++ Rr) → va_S A0 H0 H locs → lv_has ls 10 [(0, .ref (B 0)), (3, .int v3), (4, .int v4), (5, .int v5), (6, .int v6), (7, .int v7), (8, .int r.2.1), (9, .int r.2.2.1)] → W p l e rm_Q_workOut s m args below meth c H locs 0 0 Q (F0 m r.1 ls [])) ?_ n (v8, v9, S) r h hE
  clear h hE r v8 v9 S
  rintro ⟨v8, v9, S⟩ o h hG hE H locs ls hP hD hS hl
  have h : st_Q_workOut_L72 n v3 v4 v5 v6 v7 v8 v9 S = some o := h
  have hl : lv_has ls 10 [(0, .ref (B 0)), (3, .int v3), (4, .int v4), (5, .int v5), (6, .int v6), (7, .int v7), (8, .int v8), (9, .int v9)] := hl
  have hP : va_P z.1 vwCl (qw z B S ++ Rr) H := hP
  have hD : va_D A0 (qw z B S ++ Rr) := hD
  unfold st_Q_workOut_L72 at h
  refine lv_iload hx hb d_Q_workOut_72 (lv_at hl 7 rfl) ?_
  refine lv_aload_n hx hb d_Q_workOut_74 rfl (lv_at hl 0 rfl) ?_
  refine va_get (D := z.1) (ci := 5) (v := .int (qMm S)) (C := R_Q) (T := F_Q) (N := 28) hx hb hts i_Q hown hK hP 0 rfl rfl 24 (by decide) (hts _ wq_575) (fun _ h9 => h9) rfl d_Q_workOut_75 ?_
  refine lv_icmp_ge (tgt := 146) hx hb d_Q_workOut_78 (by decide) (fun c_8 => ?_) (fun c_8 => ?_)
  · replace h := zz_t c_8 h
    exact hE _ (Option.some.inj h).symm _ _ _ hP hD hS hl
  · replace h := zz_f c_8 h
    refine lv_iload hx hb d_Q_workOut_81 (lv_at hl 6 rfl) ?_
    refine lv_if_eq (tgt := 146) hx hb d_Q_workOut_83 (by decide) (fun c_9 => ?_) (fun c_9 => ?_)
    · replace h := zz_t c_9 h
      exact hE _ (Option.some.inj h).symm _ _ _ hP hD hS hl
    · replace h := zz_f c_9 h
      refine lv_iload hx hb d_Q_workOut_86 (lv_at hl 7 rfl) ?_
      refine lv_iload hx hb d_Q_workOut_88 (lv_at hl 5 rfl) ?_
      refine lv_icmp_eq (tgt := 133) hx hb d_Q_workOut_90 (by decide) (fun c_10 => ?_) (fun c_10 => ?_)
      · replace h := zz_t c_10 h
        refine lv_iconst (v := 1) hx hb d_Q_workOut_133 (by decide) ?_
        refine lv_goto (tgt := 138) hx hb d_Q_workOut_134 (by decide) ?_
        refine lv_istore (lv' := [(8, .int (1 : Int32)), (0, .ref (B 0)), (3, .int v3), (4, .int v4), (5, .int v5), (6, .int v6), (7, .int v7), (9, .int v9)]) hx hb d_Q_workOut_138 hl (by decide) rfl (fun ls hl => ?_)
        refine lv_iinc (v := (v9 + (1 : Int32))) (lv' := [(9, .int (v9 + (1 : Int32))), (8, .int (1 : Int32)), (0, .ref (B 0)), (3, .int v3), (4, .int v4), (5, .int v5), (6, .int v6), (7, .int v7)]) hx hb d_Q_workOut_140 hl (k := 7) rfl rfl (by decide) rfl (fun ls hl => ?_)
        refine lv_goto (tgt := 72) hx hb d_Q_workOut_143 (by decide) ?_
        exact hG _ (Option.some.inj h).symm _ _ _ hP hD hS (lv_sub hl [2, 3, 4, 5, 6, 7, 1, 0] rfl)
      · replace h := zz_f c_10 h
        refine lv_aload_n hx hb d_Q_workOut_93 rfl (lv_at hl 0 rfl) ?_
        refine lv_aload_n hx hb d_Q_workOut_94 rfl (lv_at hl 0 rfl) ?_
        refine va_get (D := z.1) (ci := 5) (v := .ref (B 16)) (C := R_Q) (T := F_Q) (N := 28) hx hb hts i_Q hown hK hP 0 rfl rfl 23 (by decide) (hts _ wq_574) (fun _ h9 => h9) rfl d_Q_workOut_95 ?_
        refine lv_iload hx hb d_Q_workOut_98 (lv_at hl 7 rfl) ?_
        obtain ⟨c_11, h⟩ := zz_oob h
        refine va_iald hx hb hK hP 16 0 rfl rfl c_11 d_Q_workOut_100 ?_
        refine lv_iload_n hx hb d_Q_workOut_101 rfl (lv_at hl 1 rfl) ?_
        refine lv_aload_n hx hb d_Q_workOut_102 rfl (lv_at hl 0 rfl) ?_
        refine va_get (D := z.1) (ci := 5) (v := .int (qPh S)) (C := R_Q) (T := F_Q) (N := 28) hx hb hts i_Q hown hK hP 0 rfl rfl 20 (by decide) (hts _ wq_571) (fun _ h9 => h9) rfl d_Q_workOut_103 ?_
        obtain ⟨r_12, S_12, e_12, h⟩ := zz_bind h
        refine zz_goI (zz_runV (As := [.int ((qMt S) v9.toNatClampNeg), .int v3, .int (qPh S)]) (rest := []) (k_Q_fits l z B Rr n _ _ _ _ _ _ e_12) ⟨hx, hb, hml, hown, hts⟩ (cwV 3 hts (zz_gV wq_724 wq_726 wp_31 wq_6 wq_727) rfl rfl rfl (by decide +kernel) ⟨Nat.le_of_ble_eq_true rfl, Nat.le_of_ble_eq_true rfl⟩) hK hN hP hD (va_recv hK hP (ci := 5) (q0 := 0) rfl rfl) rfl hl.1 rfl (Nat.le_of_ble_eq_true rfl) d_Q_workOut_106 ⟨Nat.le_of_ble_eq_true rfl, Nat.le_of_ble_eq_true rfl⟩) hD hS hA (fun H locs hP hD hS => ?_)
        refine lv_if_eq (tgt := 133) hx hb d_Q_workOut_109 (by decide) (fun c_13 => ?_) (fun c_13 => ?_)
        · replace h := zz_t c_13 h
          refine lv_iconst (v := 1) hx hb d_Q_workOut_133 (by decide) ?_
          refine lv_goto (tgt := 138) hx hb d_Q_workOut_134 (by decide) ?_
          refine lv_istore (lv' := [(8, .int (1 : Int32)), (0, .ref (B 0)), (3, .int v3), (4, .int v4), (5, .int v5), (6, .int v6), (7, .int v7), (9, .int v9)]) hx hb d_Q_workOut_138 hl (by decide) rfl (fun ls hl => ?_)
          refine lv_iinc (v := (v9 + (1 : Int32))) (lv' := [(9, .int (v9 + (1 : Int32))), (8, .int (1 : Int32)), (0, .ref (B 0)), (3, .int v3), (4, .int v4), (5, .int v5), (6, .int v6), (7, .int v7)]) hx hb d_Q_workOut_140 hl (k := 7) rfl rfl (by decide) rfl (fun ls hl => ?_)
          refine lv_goto (tgt := 72) hx hb d_Q_workOut_143 (by decide) ?_
          exact hG _ (Option.some.inj h).symm _ _ _ hP hD hS (lv_sub hl [2, 3, 4, 5, 6, 7, 1, 0] rfl)
        · replace h := zz_f c_13 h
          refine lv_aload_n hx hb d_Q_workOut_112 rfl (lv_at hl 0 rfl) ?_
          refine lv_aload_n hx hb d_Q_workOut_113 rfl (lv_at hl 0 rfl) ?_
          refine va_get (D := z.1) (ci := 5) (v := .ref (B 16)) (C := R_Q) (T := F_Q) (N := 28) hx hb hts i_Q hown hK hP 0 rfl rfl 23 (by decide) (hts _ wq_574) (fun _ h9 => h9) rfl d_Q_workOut_114 ?_
          refine lv_iload hx hb d_Q_workOut_117 (lv_at hl 5 rfl) ?_
          obtain ⟨c_14, h⟩ := zz_oob h
          refine va_iald hx hb hK hP 16 0 rfl rfl c_14 d_Q_workOut_119 ?_
          refine lv_aload_n hx hb d_Q_workOut_120 rfl (lv_at hl 0 rfl) ?_
          refine va_get (D := z.1) (ci := 5) (v := .ref (B 16)) (C := R_Q) (T := F_Q) (N := 28) hx hb hts i_Q hown hK hP 0 rfl rfl 23 (by decide) (hts _ wq_574) (fun _ h9 => h9) rfl d_Q_workOut_121 ?_
          refine lv_iload hx hb d_Q_workOut_124 (lv_at hl 7 rfl) ?_
          obtain ⟨c_15, h⟩ := zz_oob h
          refine va_iald hx hb hK hP 16 0 rfl rfl c_15 d_Q_workOut_126 ?_
          obtain ⟨r_16, S_16, e_16, h⟩ := zz_bind h
          refine zz_goI (zz_runV (As := [.int ((qMt S_12) v7.toNatClampNeg), .int ((qMt S_12) v9.toNatClampNeg)]) (rest := []) (k_Q_isCloser l z B Rr n _ _ _ _ _ e_16) ⟨hx, hb, hml, hown, hts⟩ (cwV 2 hts (zz_gV wq_736 wq_738 wp_34 wq_6 wq_739) rfl rfl rfl (by decide +kernel) ⟨Nat.le_of_ble_eq_true rfl, Nat.le_of_ble_eq_true rfl⟩) hK hN hP hD (va_recv hK hP (ci := 5) (q0 := 0) rfl rfl) rfl hl.1 rfl (Nat.le_of_ble_eq_true rfl) d_Q_workOut_127 ⟨Nat.le_of_ble_eq_true rfl, Nat.le_of_ble_eq_true rfl⟩) hD hS hA (fun H locs hP hD hS => ?_)
          refine lv_if_eq (tgt := 137) hx hb d_Q_workOut_130 (by decide) (fun c_17 => ?_) (fun c_17 => ?_)
          · replace h := zz_t c_17 h
            refine lv_iconst (v := 0) hx hb d_Q_workOut_137 (by decide) ?_
            refine lv_istore (lv' := [(8, .int (0 : Int32)), (0, .ref (B 0)), (3, .int v3), (4, .int v4), (5, .int v5), (6, .int v6), (7, .int v7), (9, .int v9)]) hx hb d_Q_workOut_138 hl (by decide) rfl (fun ls hl => ?_)
            refine lv_iinc (v := (v9 + (1 : Int32))) (lv' := [(9, .int (v9 + (1 : Int32))), (8, .int (0 : Int32)), (0, .ref (B 0)), (3, .int v3), (4, .int v4), (5, .int v5), (6, .int v6), (7, .int v7)]) hx hb d_Q_workOut_140 hl (k := 7) rfl rfl (by decide) rfl (fun ls hl => ?_)
            refine lv_goto (tgt := 72) hx hb d_Q_workOut_143 (by decide) ?_
            exact hG _ (Option.some.inj h).symm _ _ _ hP hD hS (lv_sub hl [2, 3, 4, 5, 6, 7, 1, 0] rfl)
          · replace h := zz_f c_17 h
            refine lv_iconst (v := 1) hx hb d_Q_workOut_133 (by decide) ?_
            refine lv_goto (tgt := 138) hx hb d_Q_workOut_134 (by decide) ?_
            refine lv_istore (lv' := [(8, .int (1 : Int32)), (0, .ref (B 0)), (3, .int v3), (4, .int v4), (5, .int v5), (6, .int v6), (7, .int v7), (9, .int v9)]) hx hb d_Q_workOut_138 hl (by decide) rfl (fun ls hl => ?_)
            refine lv_iinc (v := (v9 + (1 : Int32))) (lv' := [(9, .int (v9 + (1 : Int32))), (8, .int (1 : Int32)), (0, .ref (B 0)), (3, .int v3), (4, .int v4), (5, .int v5), (6, .int v6), (7, .int v7)]) hx hb d_Q_workOut_140 hl (k := 7) rfl rfl (by decide) rfl (fun ls hl => ?_)
            refine lv_goto (tgt := 72) hx hb d_Q_workOut_143 (by decide) ?_
            exact hG _ (Option.some.inj h).symm _ _ _ hP hD hS (lv_sub hl [2, 3, 4, 5, 6, 7, 1, 0] rfl)

set_option maxRecDepth 100000 in
set_option maxHeartbeats 4000000 in
theorem lp_Q_workOut_L32 {z : zE} {B : Nat → Nat} {Rr : va_W} {p : Program} {l : Launch} {e : Env} {s : State} {m : MethodId} {args : Array Value} {below : List Frame} {meth : Method} {c : Code} {Q : State → Prop} {H0 : Heap} {A0 : Nat → Prop} (hM : zM z p s m args c b_Q_workOut 10 R_Q) (hA : ∀ q : Nat, H0.size ≤ q → A0 q) (n : Nat) (v3 : Int32) :
    ∀ (v4 : Int32) (v5 : Int32) (v6 : Int32) (v7 : Int32) (S : ZQ) (r : Nat × Int32 × Int32 × Int32 × Int32 × ZQ), fx_Q_workOut_L32 n v3 v4 v5 v6 v7 S = some r → (∀ (H : Heap) (locs : List Loc) (ls : Array Slot), va_P z.1 vwCl (qw z B r.2.2.2.2.2 ++ Rr) H → va_D A0 (qw z B r.2.2.2.2.2 ++ Rr) → va_S A0 H0 H locs → lv_has ls 10 [(0, .ref (B 0)), (3, .int v3), (4, .int r.2.1), (5, .int r.2.2.1), (6, .int r.2.2.2.1), (7, .int r.2.2.2.2.1)] → W p l e rm_Q_workOut s m args below meth c H locs 0 0 Q (F0 m r.1 ls [])) →
    ∀ (H : Heap) (locs : List Loc) (ls : Array Slot), va_P z.1 vwCl (qw z B S ++ Rr) H → va_D A0 (qw z B S ++ Rr) → va_S A0 H0 H locs → lv_has ls 10 [(0, .ref (B 0)), (3, .int v3), (4, .int v4), (5, .int v5), (6, .int v6), (7, .int v7)] → W p l e rm_Q_workOut s m args below meth c H locs 0 0 Q (F0 m 32 ls []) := by
  obtain ⟨hx, hb, hml, hown, hts, hK, hN⟩ := id hM
  intro v4 v5 v6 v7 S r h hE
  refine zz_loop (G := fun (st : Int32 × Int32 × Int32 × Int32 × ZQ) => ∀ (H : Heap) (locs : List Loc) (ls : Array Slot), va_P z.1 vwCl (qw z B st.2.2.2.2 ++ Rr) H → va_D A0 (qw z B st.2.2.2.2 ++ Rr) → va_S A0 H0 H locs → lv_has ls 10 [(0, .ref (B 0)), (3, .int v3), (4, .int st.1), (5, .int st.2.1), (6, .int st.2.2.1), (7, .int st.2.2.2.1)] → W p l e rm_Q_workOut s m args below meth c H locs 0 0 Q (F0 m 32 ls [])) (E := fun (r : Nat × Int32 × Int32 × Int32 × Int32 × ZQ) => ∀ (H : Heap) (locs : List Loc) (ls : Array Slot), va_P z.1 vwCl (qw z B r.2.2.2.2.2 ++ Rr) H → va_D A0 (qw z B r.2.2.2.2.2 ++ Rr) → va_S A0 H0 H locs → lv_has ls 10 [(0, .ref (B 0)), (3, .int v3), (4, .int r.2.1), (5, .int r.2.2.1), (6, .int r.2.2.2.1), (7, .int r.2.2.2.2.1)] → W p l e rm_Q_workOut s m args below meth c H locs 0 0 Q (F0 m r.1 ls [])) ?_ n (v4, v5, v6, v7, S) r h hE
  clear h hE r v4 v5 v6 v7 S
  rintro ⟨v4, v5, v6, v7, S⟩ o h hG hE H locs ls hP hD hS hl
  have h : st_Q_workOut_L32 n v3 v4 v5 v6 v7 S = some o := h
  have hl : lv_has ls 10 [(0, .ref (B 0)), (3, .int v3), (4, .int v4), (5, .int v5), (6, .int v6), (7, .int v7)] := hl
  have hP : va_P z.1 vwCl (qw z B S ++ Rr) H := hP
  have hD : va_D A0 (qw z B S ++ Rr) := hD
  unfold st_Q_workOut_L32 at h
  refine lv_iload hx hb d_Q_workOut_32 (lv_at hl 5 rfl) ?_
  refine lv_aload_n hx hb d_Q_workOut_34 rfl (lv_at hl 0 rfl) ?_
  refine va_get (D := z.1) (ci := 5) (v := .int (qMm S)) (C := R_Q) (T := F_Q) (N := 28) hx hb hts i_Q hown hK hP 0 rfl rfl 24 (by decide) (hts _ wq_575) (fun _ h9 => h9) rfl d_Q_workOut_35 ?_
  refine lv_icmp_ge (tgt := 172) hx hb d_Q_workOut_38 (by decide) (fun c_4 => ?_) (fun c_4 => ?_)
  · replace h := zz_t c_4 h
    exact hE _ (Option.some.inj h).symm _ _ _ hP hD hS hl
  · replace h := zz_f c_4 h
    refine lv_aload_n hx hb d_Q_workOut_41 rfl (lv_at hl 0 rfl) ?_
    refine lv_aload_n hx hb d_Q_workOut_42 rfl (lv_at hl 0 rfl) ?_
    refine va_get (D := z.1) (ci := 5) (v := .ref (B 16)) (C := R_Q) (T := F_Q) (N := 28) hx hb hts i_Q hown hK hP 0 rfl rfl 23 (by decide) (hts _ wq_574) (fun _ h9 => h9) rfl d_Q_workOut_43 ?_
    refine lv_iload hx hb d_Q_workOut_46 (lv_at hl 5 rfl) ?_
    obtain ⟨c_5, h⟩ := zz_oob h
    refine va_iald hx hb hK hP 16 0 rfl rfl c_5 d_Q_workOut_48 ?_
    refine lv_iload_n hx hb d_Q_workOut_49 rfl (lv_at hl 1 rfl) ?_
    refine lv_aload_n hx hb d_Q_workOut_50 rfl (lv_at hl 0 rfl) ?_
    refine va_get (D := z.1) (ci := 5) (v := .int (qPh S)) (C := R_Q) (T := F_Q) (N := 28) hx hb hts i_Q hown hK hP 0 rfl rfl 20 (by decide) (hts _ wq_571) (fun _ h9 => h9) rfl d_Q_workOut_51 ?_
    obtain ⟨r_6, S_6, e_6, h⟩ := zz_bind h
    refine zz_goI (zz_runV (As := [.int ((qMt S) v7.toNatClampNeg), .int v3, .int (qPh S)]) (rest := []) (k_Q_fits l z B Rr n _ _ _ _ _ _ e_6) ⟨hx, hb, hml, hown, hts⟩ (cwV 3 hts (zz_gV wq_724 wq_726 wp_31 wq_6 wq_727) rfl rfl rfl (by decide +kernel) ⟨Nat.le_of_ble_eq_true rfl, Nat.le_of_ble_eq_true rfl⟩) hK hN hP hD (va_recv hK hP (ci := 5) (q0 := 0) rfl rfl) rfl hl.1 rfl (Nat.le_of_ble_eq_true rfl) d_Q_workOut_54 ⟨Nat.le_of_ble_eq_true rfl, Nat.le_of_ble_eq_true rfl⟩) hD hS hA (fun H locs hP hD hS => ?_)
    refine lv_if_ne (tgt := 63) hx hb d_Q_workOut_57 (by decide) (fun c_7 => ?_) (fun c_7 => ?_)
    · replace h := zz_f c_7 h
      refine lv_iinc (v := (v4 + (1 : Int32))) (lv' := [(4, .int (v4 + (1 : Int32))), (0, .ref (B 0)), (3, .int v3), (5, .int v5), (6, .int v6), (7, .int v7)]) hx hb d_Q_workOut_63 hl (k := 2) rfl rfl (by decide) rfl (fun ls hl => ?_)
      refine lv_iconst (v := 1) hx hb d_Q_workOut_66 (by decide) ?_
      refine lv_istore (lv' := [(8, .int (1 : Int32)), (4, .int (v4 + (1 : Int32))), (0, .ref (B 0)), (3, .int v3), (5, .int v5), (6, .int v6), (7, .int v7)]) hx hb d_Q_workOut_67 hl (by decide) rfl (fun ls hl => ?_)
      refine lv_iconst (v := 0) hx hb d_Q_workOut_69 (by decide) ?_
      refine lv_istore (lv' := [(9, .int (0 : Int32)), (8, .int (1 : Int32)), (4, .int (v4 + (1 : Int32))), (0, .ref (B 0)), (3, .int v3), (5, .int v5), (6, .int v6), (7, .int v7)]) hx hb d_Q_workOut_70 hl (by decide) rfl (fun ls hl => ?_)
      replace h := zz_bL3 h
      obtain ⟨x_18, v8_18, v9_18, S_18, e_18, h⟩ := h
      refine lp_Q_workOut_L72 hM hA n v3 (v4 + (1 : Int32)) v5 v6 v7 _ _ _ _ e_18 ?_ _ _ _ hP hD hS (lv_sub hl [3, 4, 2, 5, 6, 7, 1, 0] rfl)
      intro H locs ls hP hD hS hl
      have hl : lv_has ls 10 [(0, .ref (B 0)), (3, .int v3), (4, .int (v4 + (1 : Int32))), (5, .int v5), (6, .int v6), (7, .int v7), (8, .int v8_18), (9, .int v9_18)] := hl
      have hP : va_P z.1 vwCl (qw z B S_18 ++ Rr) H := hP
      have hD : va_D A0 (qw z B S_18 ++ Rr) := hD
      replace h := zz_grd h
      obtain ⟨c_18, h⟩ := h
      subst c_18
      refine W.eq (g2 := F0 m 146 ls []) rfl ?_
      refine lv_iload hx hb d_Q_workOut_146 (lv_at hl 6 rfl) ?_
      refine lv_if_ne (tgt := 154) hx hb d_Q_workOut_148 (by decide) (fun c_19 => ?_) (fun c_19 => ?_)
      · replace h := zz_f c_19 h
        refine lv_iinc (v := (v5 + (1 : Int32))) (lv' := [(5, .int (v5 + (1 : Int32))), (0, .ref (B 0)), (3, .int v3), (4, .int (v4 + (1 : Int32))), (6, .int v6), (7, .int v7), (8, .int v8_18), (9, .int v9_18)]) hx hb d_Q_workOut_154 hl (k := 3) rfl rfl (by decide) rfl (fun ls hl => ?_)
        refine lv_aload_n hx hb d_Q_workOut_157 rfl (lv_at hl 1 rfl) ?_
        refine va_get (D := z.1) (ci := 5) (v := .ref (B 16)) (C := R_Q) (T := F_Q) (N := 28) hx hb hts i_Q hown hK hP 0 rfl rfl 23 (by decide) (hts _ wq_574) (fun _ h9 => h9) rfl d_Q_workOut_158 ?_
        refine lv_iload hx hb d_Q_workOut_161 (lv_at hl 5 rfl) ?_
        obtain ⟨c_20, h⟩ := zz_oob h
        refine va_iald hx hb hK hP 16 0 rfl rfl c_20 d_Q_workOut_163 ?_
        refine lv_istore (lv' := [(6, .int ((qMt S_18) v7.toNatClampNeg)), (5, .int (v5 + (1 : Int32))), (0, .ref (B 0)), (3, .int v3), (4, .int (v4 + (1 : Int32))), (7, .int v7), (8, .int v8_18), (9, .int v9_18)]) hx hb d_Q_workOut_164 hl (by decide) rfl (fun ls hl => ?_)
        refine lv_iinc (v := (v7 + (1 : Int32))) (lv' := [(7, .int (v7 + (1 : Int32))), (6, .int ((qMt S_18) v7.toNatClampNeg)), (5, .int (v5 + (1 : Int32))), (0, .ref (B 0)), (3, .int v3), (4, .int (v4 + (1 : Int32))), (8, .int v8_18), (9, .int v9_18)]) hx hb d_Q_workOut_166 hl (k := 5) rfl rfl (by decide) rfl (fun ls hl => ?_)
        refine lv_goto (tgt := 32) hx hb d_Q_workOut_169 (by decide) ?_
        exact hG _ (Option.some.inj h).symm _ _ _ hP hD hS (lv_sub hl [3, 4, 5, 2, 1, 0] rfl)
      · replace h := zz_t c_19 h
        refine lv_goto (tgt := 166) hx hb d_Q_workOut_151 (by decide) ?_
        refine lv_iinc (v := (v7 + (1 : Int32))) (lv' := [(7, .int (v7 + (1 : Int32))), (0, .ref (B 0)), (3, .int v3), (4, .int (v4 + (1 : Int32))), (5, .int v5), (6, .int v6), (8, .int v8_18), (9, .int v9_18)]) hx hb d_Q_workOut_166 hl (k := 5) rfl rfl (by decide) rfl (fun ls hl => ?_)
        refine lv_goto (tgt := 32) hx hb d_Q_workOut_169 (by decide) ?_
        exact hG _ (Option.some.inj h).symm _ _ _ hP hD hS (lv_sub hl [1, 2, 3, 4, 5, 0] rfl)
    · replace h := zz_t c_7 h
      refine lv_goto (tgt := 166) hx hb d_Q_workOut_60 (by decide) ?_
      refine lv_iinc (v := (v7 + (1 : Int32))) (lv' := [(7, .int (v7 + (1 : Int32))), (0, .ref (B 0)), (3, .int v3), (4, .int v4), (5, .int v5), (6, .int v6)]) hx hb d_Q_workOut_166 hl (k := 5) rfl rfl (by decide) rfl (fun ls hl => ?_)
      refine lv_goto (tgt := 32) hx hb d_Q_workOut_169 (by decide) ?_
      exact hG _ (Option.some.inj h).symm _ _ _ hP hD hS (lv_sub hl [1, 2, 3, 4, 5, 0] rfl)

set_option maxRecDepth 100000 in
set_option maxHeartbeats 4000000 in
theorem lp_Q_workOut_L11 {z : zE} {B : Nat → Nat} {Rr : va_W} {p : Program} {l : Launch} {e : Env} {s : State} {m : MethodId} {args : Array Value} {below : List Frame} {meth : Method} {c : Code} {Q : State → Prop} {H0 : Heap} {A0 : Nat → Prop} (hM : zM z p s m args c b_Q_workOut 10 R_Q) (hA : ∀ q : Nat, H0.size ≤ q → A0 q) (n : Nat) (v3 : Int32) :
    ∀ (S : ZQ) (r : Nat × Int32 × Int32 × ZQ), fx_Q_workOut_L11 n v3 S = some r → (∀ (H : Heap) (locs : List Loc) (ls : Array Slot), va_P z.1 vwCl (qw z B r.2.2.2 ++ Rr) H → va_D A0 (qw z B r.2.2.2 ++ Rr) → va_S A0 H0 H locs → lv_has ls 10 (if r.1 = 177 then [(0, .ref (B 0)), (3, .int v3), (5, .int r.2.1), (6, .int r.2.2.1)] else [(0, .ref (B 0)), (3, .int v3)]) → W p l e rm_Q_workOut s m args below meth c H locs 0 0 Q (F0 m r.1 ls [])) →
    ∀ (H : Heap) (locs : List Loc) (ls : Array Slot), va_P z.1 vwCl (qw z B S ++ Rr) H → va_D A0 (qw z B S ++ Rr) → va_S A0 H0 H locs → lv_has ls 10 [(0, .ref (B 0)), (3, .int v3)] → W p l e rm_Q_workOut s m args below meth c H locs 0 0 Q (F0 m 11 ls []) := by
  obtain ⟨hx, hb, hml, hown, hts, hK, hN⟩ := id hM
  intro S r h hE
  refine zz_loop (G := fun (st : ZQ) => ∀ (H : Heap) (locs : List Loc) (ls : Array Slot), va_P z.1 vwCl (qw z B st ++ Rr) H → va_D A0 (qw z B st ++ Rr) → va_S A0 H0 H locs → lv_has ls 10 [(0, .ref (B 0)), (3, .int v3)] → W p l e rm_Q_workOut s m args below meth c H locs 0 0 Q (F0 m 11 ls [])) (E := fun (r : Nat × Int32 × Int32 × ZQ) => ∀ (H : Heap) (locs : List Loc) (ls : Array Slot), va_P z.1 vwCl (qw z B r.2.2.2 ++ Rr) H → va_D A0 (qw z B r.2.2.2 ++ Rr) → va_S A0 H0 H locs → lv_has ls 10 (if r.1 = 177 then [(0, .ref (B 0)), (3, .int v3), (5, .int r.2.1), (6, .int r.2.2.1)] else [(0, .ref (B 0)), (3, .int v3)]) → W p l e rm_Q_workOut s m args below meth c H locs 0 0 Q (F0 m r.1 ls [])) ?_ n (S) r h hE
  clear h hE r S
  intro S o h hG hE H locs ls hP hD hS hl
  have h : st_Q_workOut_L11 n v3 S = some o := h
  have hl : lv_has ls 10 [(0, .ref (B 0)), (3, .int v3)] := hl
  have hP : va_P z.1 vwCl (qw z B S ++ Rr) H := hP
  have hD : va_D A0 (qw z B S ++ Rr) := hD
  unfold st_Q_workOut_L11 at h
  refine lv_aload_n hx hb d_Q_workOut_11 rfl (lv_at hl 0 rfl) ?_
  refine va_get (D := z.1) (ci := 5) (v := .int (qPh S)) (C := R_Q) (T := F_Q) (N := 28) hx hb hts i_Q hown hK hP 0 rfl rfl 20 (by decide) (hts _ wq_571) (fun _ h9 => h9) rfl d_Q_workOut_12 ?_
  refine lv_iconst (v := 4) hx hb d_Q_workOut_15 (by decide) ?_
  refine lv_icmp_ge (tgt := 204) hx hb d_Q_workOut_16 (by decide) (fun c_3 => ?_) (fun c_3 => ?_)
  · replace h := zz_t c_3 h
    exact hE _ (Option.some.inj h).symm _ _ _ hP hD hS hl
  · replace h := zz_f c_3 h
    refine lv_iconst (v := 0) hx hb d_Q_workOut_19 (by decide) ?_
    refine lv_istore (lv' := [(4, .int (0 : Int32)), (0, .ref (B 0)), (3, .int v3)]) hx hb d_Q_workOut_20 hl (by decide) rfl (fun ls hl => ?_)
    refine lv_iconst (v := 0) hx hb d_Q_workOut_22 (by decide) ?_
    refine lv_istore (lv' := [(5, .int (0 : Int32)), (4, .int (0 : Int32)), (0, .ref (B 0)), (3, .int v3)]) hx hb d_Q_workOut_23 hl (by decide) rfl (fun ls hl => ?_)
    refine lv_bipush (v := -2) hx hb d_Q_workOut_25 (by decide) ?_
    refine lv_istore (lv' := [(6, .int (-2 : Int32)), (5, .int (0 : Int32)), (4, .int (0 : Int32)), (0, .ref (B 0)), (3, .int v3)]) hx hb d_Q_workOut_27 hl (by decide) rfl (fun ls hl => ?_)
    refine lv_iconst (v := 0) hx hb d_Q_workOut_29 (by decide) ?_
    refine lv_istore (lv' := [(7, .int (0 : Int32)), (6, .int (-2 : Int32)), (5, .int (0 : Int32)), (4, .int (0 : Int32)), (0, .ref (B 0)), (3, .int v3)]) hx hb d_Q_workOut_30 hl (by decide) rfl (fun ls hl => ?_)
    replace h := zz_bL5 h
    obtain ⟨x_21, v4_21, v5_21, v6_21, v7_21, S_21, e_21, h⟩ := h
    refine lp_Q_workOut_L32 hM hA n v3 _ _ _ _ _ _ e_21 ?_ _ _ _ hP hD hS (lv_sub hl [4, 5, 3, 2, 1, 0] rfl)
    intro H locs ls hP hD hS hl
    have hl : lv_has ls 10 [(0, .ref (B 0)), (3, .int v3), (4, .int v4_21), (5, .int v5_21), (6, .int v6_21), (7, .int v7_21)] := hl
    have hP : va_P z.1 vwCl (qw z B S_21 ++ Rr) H := hP
    have hD : va_D A0 (qw z B S_21 ++ Rr) := hD
    replace h := zz_grd h
    obtain ⟨c_21, h⟩ := h
    subst c_21
    refine W.eq (g2 := F0 m 172 ls []) rfl ?_
    refine lv_iload hx hb d_Q_workOut_172 (lv_at hl 2 rfl) ?_
    refine lv_if_le (tgt := 191) hx hb d_Q_workOut_174 (by decide) (fun c_22 => ?_) (fun c_22 => ?_)
    · replace h := zz_t c_22 h
      refine lv_aload_n hx hb d_Q_workOut_191 rfl (lv_at hl 0 rfl) ?_
      refine lv_dup hx hb d_Q_workOut_192 rfl ?_
      refine va_get (D := z.1) (ci := 5) (v := .int (qPh S_21)) (C := R_Q) (T := F_Q) (N := 28) hx hb hts i_Q hown hK hP 0 rfl rfl 20 (by decide) (hts _ wq_571) (fun _ h9 => h9) rfl d_Q_workOut_193 ?_
      refine lv_iconst (v := 1) hx hb d_Q_workOut_196 (by decide) ?_
      refine lv_iadd hx hb d_Q_workOut_197 ?_
      obtain ⟨S_23, e_23, h⟩ := zz_let h
      refine va_put (D := z.1) (ci := 5) (v := .int ((qPh S_21) + (1 : Int32))) (ty := .int) (C := R_Q) (T := F_Q) (N := 28) hx hb hts i_Q ty_Q ty_Q_ok n_Q hown hK hP hD hS 0 rfl rfl 20 (by decide) (hts _ wq_571) (fun _ h9 => h9) rfl (by decide +kernel) rfl rfl (Nat.le_of_ble_eq_true rfl) d_Q_workOut_198 (fun H locs hP hD hS => ?_)
      have hP : va_P z.1 vwCl (qw z B S_23 ++ Rr) H := by rw [e_23]; exact hP
      have hD : va_D A0 (qw z B S_23 ++ Rr) := by rw [e_23]; exact hD
      refine lv_goto (tgt := 11) hx hb d_Q_workOut_201 (by decide) ?_
      exact hG _ (Option.some.inj h).symm _ _ _ hP hD hS (lv_sub hl [0, 1] rfl)
    · replace h := zz_f c_22 h
      exact hE _ (Option.some.inj h).symm _ _ _ hP hD hS (lv_sub hl [0, 1, 3, 4] rfl)

set_option maxRecDepth 100000 in
set_option maxHeartbeats 4000000 in
theorem k_Q_workOut (l : Launch) (z : zE) (B : Nat → Nat) (Rr : va_W) (n : Nat) (S : ZQ) (a1 : Int32) (a2 : Int32) (a3 : Int32) (r0 : Int32) (S' : ZQ) (h : fx_Q_workOut n S a1 a2 a3 = some (r0, S')) : zC z l y_Q_workOut w_Q_workOut rm_Q_workOut [.ref (B 0), .int a1, .int a2, .int a3] (qw z B S ++ Rr) (some (.int r0)) (qw z B S' ++ Rr) := by
  refine zz_of (by decide) (Nat.le_of_ble_eq_true rfl) ?_
  intro p e s m args below meth c A0 ls hM hr hlocks hA hP hD hl
  have hM : zM z p s m args c b_Q_workOut 10 R_Q := hM
  obtain ⟨hx, hb, hml, hown, hts, hK, hN⟩ := id hM
  have hS : va_S A0 s.heap s.heap [] := va_S.rf
  have hl : lv_has ls 10 [(0, .ref (B 0)), (1, .int a1), (2, .int a2), (3, .int a3)] := hl
  unfold fx_Q_workOut at h
  refine lv_aload_n hx hb d_Q_workOut_0 rfl (lv_at hl 0 rfl) ?_
  refine lv_iload_n hx hb d_Q_workOut_1 rfl (lv_at hl 1 rfl) ?_
  refine lv_iload_n hx hb d_Q_workOut_2 rfl (lv_at hl 2 rfl) ?_
  obtain ⟨S_1, e_1, h⟩ := zz_bind1 h
  refine zz_goV (zz_runV (As := [.int a1, .int a2]) (rest := []) (k_Q_means l z B Rr n _ _ _ _ e_1) ⟨hx, hb, hml, hown, hts⟩ (cwV 2 hts (zz_gV wq_696 wq_698 wp_25 wq_6 wq_699) rfl rfl rfl (by decide +kernel) ⟨Nat.le_of_ble_eq_true rfl, Nat.le_of_ble_eq_true rfl⟩) hK hN hP hD (va_recv hK hP (ci := 5) (q0 := 0) rfl rfl) rfl hl.1 rfl (Nat.le_of_ble_eq_true rfl) d_Q_workOut_3 ⟨Nat.le_of_ble_eq_true rfl, Nat.le_of_ble_eq_true rfl⟩) hD hS hA (fun H locs hP hD hS => ?_)
  refine lv_aload_n hx hb d_Q_workOut_6 rfl (lv_at hl 0 rfl) ?_
  refine lv_iconst (v := 1) hx hb d_Q_workOut_7 (by decide) ?_
  obtain ⟨S_2, e_2, h⟩ := zz_let h
  refine va_put (D := z.1) (ci := 5) (v := .int (1 : Int32)) (ty := .int) (C := R_Q) (T := F_Q) (N := 28) hx hb hts i_Q ty_Q ty_Q_ok n_Q hown hK hP hD hS 0 rfl rfl 20 (by decide) (hts _ wq_571) (fun _ h9 => h9) rfl (by decide +kernel) rfl rfl (Nat.le_of_ble_eq_true rfl) d_Q_workOut_8 (fun H locs hP hD hS => ?_)
  have hP : va_P z.1 vwCl (qw z B S_2 ++ Rr) H := by rw [e_2]; exact hP
  have hD : va_D A0 (qw z B S_2 ++ Rr) := by rw [e_2]; exact hD
  replace h := zz_bL3 h
  obtain ⟨x_24, v5_24, v6_24, S_24, e_24, h⟩ := h
  refine lp_Q_workOut_L11 hM hA n a3 _ _ e_24 ?_ _ _ _ hP hD hS (lv_sub hl [0, 3] rfl)
  intro H locs ls hP hD hS hl
  have hP : va_P z.1 vwCl (qw z B S_24 ++ Rr) H := hP
  have hD : va_D A0 (qw z B S_24 ++ Rr) := hD
  by_cases c_24 : x_24 = 177
  · replace h := zz_t c_24 h
    subst c_24
    refine W.eq (g2 := F0 m 177 ls []) rfl ?_
    have hl : lv_has ls 10 [(0, .ref (B 0)), (3, .int a3), (5, .int v5_24), (6, .int v6_24)] := hl
    refine lv_iload hx hb d_Q_workOut_177 (lv_at hl 2 rfl) ?_
    refine lv_iconst (v := 1) hx hb d_Q_workOut_179 (by decide) ?_
    refine lv_icmp_ne (tgt := 188) hx hb d_Q_workOut_180 (by decide) (fun c_25 => ?_) (fun c_25 => ?_)
    · replace h := zz_f c_25 h
      refine lv_bipush (v := -2) hx hb d_Q_workOut_188 (by decide) ?_
      exact zz_iret (fun S => qw z B S ++ Rr) hx hb hr hlocks hP hD hS h d_Q_workOut_190
    · replace h := zz_t c_25 h
      refine lv_iload hx hb d_Q_workOut_183 (lv_at hl 3 rfl) ?_
      refine lv_goto (tgt := 190) hx hb d_Q_workOut_185 (by decide) ?_
      exact zz_iret (fun S => qw z B S ++ Rr) hx hb hr hlocks hP hD hS h d_Q_workOut_190
  replace h := zz_f c_24 h
  replace h := zz_grd h
  obtain ⟨c_24, h⟩ := h
  subst c_24
  refine W.eq (g2 := F0 m 204 ls []) rfl ?_
  have hl : lv_has ls 10 [(0, .ref (B 0)), (3, .int a3)] := hl
  refine lv_aload_n hx hb d_Q_workOut_204 rfl (lv_at hl 0 rfl) ?_
  refine lv_iconst (v := 0) hx hb d_Q_workOut_205 (by decide) ?_
  obtain ⟨S_26, e_26, h⟩ := zz_let h
  refine va_put (D := z.1) (ci := 5) (v := .int (0 : Int32)) (ty := .int) (C := R_Q) (T := F_Q) (N := 28) hx hb hts i_Q ty_Q ty_Q_ok n_Q hown hK hP hD hS 0 rfl rfl 20 (by decide) (hts _ wq_571) (fun _ h9 => h9) rfl (by decide +kernel) rfl rfl (Nat.le_of_ble_eq_true rfl) d_Q_workOut_206 (fun H locs hP hD hS => ?_)
  have hP : va_P z.1 vwCl (qw z B S_26 ++ Rr) H := by rw [e_26]; exact hP
  have hD : va_D A0 (qw z B S_26 ++ Rr) := by rw [e_26]; exact hD
  refine lv_bipush (v := -3) hx hb d_Q_workOut_209 (by decide) ?_
  exact zz_iret (fun S => qw z B S ++ Rr) hx hb hr hlocks hP hD hS h d_Q_workOut_211

