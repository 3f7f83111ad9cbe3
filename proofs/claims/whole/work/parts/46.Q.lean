abbrev b_Q_above : ByteArray := prog_7_method_30_code
abbrev y_Q_above : MethodName := ⟨"MemberChooserModel", "above", "(II)I"⟩
abbrev w_Q_above : List Cond := Cond.code y_Q_above b_Q_above 5 (some .int) :: zTb
theorem d_Q_above_0 : decode b_Q_above 0 = .ok (.aload_n 0, 1) := by decide +kernel
theorem d_Q_above_1 : decode b_Q_above 1 = .ok (.iconst 0, 1) := by decide +kernel
theorem d_Q_above_2 : decode b_Q_above 2 = .ok (.putfield 73, 3) := by decide +kernel
theorem d_Q_above_5 : decode b_Q_above 5 = .ok (.aload_n 0, 1) := by decide +kernel
theorem d_Q_above_6 : decode b_Q_above 6 = .ok (.iload_n 1, 1) := by decide +kernel
theorem d_Q_above_7 : decode b_Q_above 7 = .ok (.invokevirtual 76, 3) := by decide +kernel
theorem d_Q_above_10 : decode b_Q_above 10 = .ok (.ifCond .ne 5, 3) := by decide +kernel
theorem d_Q_above_13 : decode b_Q_above 13 = .ok (.iconst (-1), 1) := by decide +kernel
theorem d_Q_above_14 : decode b_Q_above 14 = .ok (.ireturn, 1) := by decide +kernel
theorem d_Q_above_15 : decode b_Q_above 15 = .ok (.aload_n 0, 1) := by decide +kernel
theorem d_Q_above_16 : decode b_Q_above 16 = .ok (.iload_n 1, 1) := by decide +kernel
theorem d_Q_above_17 : decode b_Q_above 17 = .ok (.invokevirtual 84, 3) := by decide +kernel
theorem d_Q_above_20 : decode b_Q_above 20 = .ok (.iconst 0, 1) := by decide +kernel
theorem d_Q_above_21 : decode b_Q_above 21 = .ok (.istore_n 3, 1) := by decide +kernel
theorem d_Q_above_22 : decode b_Q_above 22 = .ok (.iconst 0, 1) := by decide +kernel
theorem d_Q_above_23 : decode b_Q_above 23 = .ok (.istore 4, 2) := by decide +kernel
theorem d_Q_above_25 : decode b_Q_above 25 = .ok (.iload 4, 2) := by decide +kernel
theorem d_Q_above_27 : decode b_Q_above 27 = .ok (.aload_n 0, 1) := by decide +kernel
theorem d_Q_above_28 : decode b_Q_above 28 = .ok (.getfield 9, 3) := by decide +kernel
theorem d_Q_above_31 : decode b_Q_above 31 = .ok (.if_icmp .ge 27, 3) := by decide +kernel
theorem d_Q_above_34 : decode b_Q_above 34 = .ok (.iload_n 3, 1) := by decide +kernel
theorem d_Q_above_35 : decode b_Q_above 35 = .ok (.aload_n 0, 1) := by decide +kernel
theorem d_Q_above_36 : decode b_Q_above 36 = .ok (.getfield 67, 3) := by decide +kernel
theorem d_Q_above_39 : decode b_Q_above 39 = .ok (.iload 4, 2) := by decide +kernel
theorem d_Q_above_41 : decode b_Q_above 41 = .ok (.baload, 1) := by decide +kernel
theorem d_Q_above_42 : decode b_Q_above 42 = .ok (.ifCond .eq 7, 3) := by decide +kernel
theorem d_Q_above_45 : decode b_Q_above 45 = .ok (.iconst 1, 1) := by decide +kernel
theorem d_Q_above_46 : decode b_Q_above 46 = .ok (.goto 4, 3) := by decide +kernel
theorem d_Q_above_49 : decode b_Q_above 49 = .ok (.iconst 0, 1) := by decide +kernel
theorem d_Q_above_50 : decode b_Q_above 50 = .ok (.iadd, 1) := by decide +kernel
theorem d_Q_above_51 : decode b_Q_above 51 = .ok (.istore_n 3, 1) := by decide +kernel
theorem d_Q_above_52 : decode b_Q_above 52 = .ok (.iinc 4 1, 3) := by decide +kernel
theorem d_Q_above_55 : decode b_Q_above 55 = .ok (.goto (-30), 3) := by decide +kernel
theorem d_Q_above_58 : decode b_Q_above 58 = .ok (.iload_n 2, 1) := by decide +kernel
theorem d_Q_above_59 : decode b_Q_above 59 = .ok (.ifCond .ne 20, 3) := by decide +kernel
theorem d_Q_above_62 : decode b_Q_above 62 = .ok (.aload_n 0, 1) := by decide +kernel
theorem d_Q_above_63 : decode b_Q_above 63 = .ok (.getfield 13, 3) := by decide +kernel
theorem d_Q_above_66 : decode b_Q_above 66 = .ok (.iload_n 1, 1) := by decide +kernel
theorem d_Q_above_67 : decode b_Q_above 67 = .ok (.baload, 1) := by decide +kernel
theorem d_Q_above_68 : decode b_Q_above 68 = .ok (.ifCond .eq 7, 3) := by decide +kernel
theorem d_Q_above_71 : decode b_Q_above 71 = .ok (.iconst 1, 1) := by decide +kernel
theorem d_Q_above_72 : decode b_Q_above 72 = .ok (.goto 45, 3) := by decide +kernel
theorem d_Q_above_75 : decode b_Q_above 75 = .ok (.iconst 0, 1) := by decide +kernel
theorem d_Q_above_76 : decode b_Q_above 76 = .ok (.goto 41, 3) := by decide +kernel
theorem d_Q_above_79 : decode b_Q_above 79 = .ok (.iload_n 2, 1) := by decide +kernel
theorem d_Q_above_80 : decode b_Q_above 80 = .ok (.iconst 1, 1) := by decide +kernel
theorem d_Q_above_81 : decode b_Q_above 81 = .ok (.if_icmp .ne 12, 3) := by decide +kernel
theorem d_Q_above_84 : decode b_Q_above 84 = .ok (.aload_n 0, 1) := by decide +kernel
theorem d_Q_above_85 : decode b_Q_above 85 = .ok (.getfield 17, 3) := by decide +kernel
theorem d_Q_above_88 : decode b_Q_above 88 = .ok (.iload_n 1, 1) := by decide +kernel
theorem d_Q_above_89 : decode b_Q_above 89 = .ok (.iaload, 1) := by decide +kernel
theorem d_Q_above_90 : decode b_Q_above 90 = .ok (.goto 27, 3) := by decide +kernel
theorem d_Q_above_93 : decode b_Q_above 93 = .ok (.iload_n 2, 1) := by decide +kernel
theorem d_Q_above_94 : decode b_Q_above 94 = .ok (.iconst 2, 1) := by decide +kernel
theorem d_Q_above_95 : decode b_Q_above 95 = .ok (.if_icmp .ne 12, 3) := by decide +kernel
theorem d_Q_above_98 : decode b_Q_above 98 = .ok (.aload_n 0, 1) := by decide +kernel
theorem d_Q_above_99 : decode b_Q_above 99 = .ok (.getfield 21, 3) := by decide +kernel
theorem d_Q_above_102 : decode b_Q_above 102 = .ok (.iload_n 1, 1) := by decide +kernel
theorem d_Q_above_103 : decode b_Q_above 103 = .ok (.iaload, 1) := by decide +kernel
theorem d_Q_above_104 : decode b_Q_above 104 = .ok (.goto 13, 3) := by decide +kernel
theorem d_Q_above_107 : decode b_Q_above 107 = .ok (.iload_n 2, 1) := by decide +kernel
theorem d_Q_above_108 : decode b_Q_above 108 = .ok (.iconst 3, 1) := by decide +kernel
theorem d_Q_above_109 : decode b_Q_above 109 = .ok (.if_icmp .ne 7, 3) := by decide +kernel
theorem d_Q_above_112 : decode b_Q_above 112 = .ok (.iload_n 3, 1) := by decide +kernel
theorem d_Q_above_113 : decode b_Q_above 113 = .ok (.goto 4, 3) := by decide +kernel
theorem d_Q_above_116 : decode b_Q_above 116 = .ok (.iconst (-1), 1) := by decide +kernel
theorem d_Q_above_117 : decode b_Q_above 117 = .ok (.ireturn, 1) := by decide +kernel
abbrev rm_Q_above : Room := { frames := 1, cells := 0, slots := 0, locals := 24 }
def st_Q_above_L25 (n : Nat) (v1 : Int32) (v2 : Int32) (v3 : Int32) (v4 : Int32) (S : ZQ) : Option ((Int32 × Int32 × ZQ) ⊕ (Nat × Int32 × Int32 × ZQ)) :=
  (if (qTy S) ≤ v4 then
  some (.inr (58, v3, v4, S))
  else
  (if zoob v4 32 then none else
    (if ((qIo S) v4.toNatClampNeg) = 0 then
    some (.inl ((v3 + (0 : Int32)), (v4 + (1 : Int32)), S))
    else
    some (.inl ((v3 + (1 : Int32)), (v4 + (1 : Int32)), S)))))

def fx_Q_above_L25 (n : Nat) (v1 : Int32) (v2 : Int32) (v3 : Int32) (v4 : Int32) (S : ZQ) : Option (Nat × Int32 × Int32 × ZQ) := zloop (fun (st : Int32 × Int32 × ZQ) => st_Q_above_L25 n v1 v2 st.1 st.2.1 st.2.2) n (v3, v4, S)

def fx_Q_above (n : Nat) (S : ZQ) (a1 : Int32) (a2 : Int32) : Option (Int32 × ZQ) :=
  zlet (qTh' S (0 : Int32)) (fun S_1 =>
  zbind (fx_Q_isOwn n S_1 a1) (fun r_2 S_2 =>
  (if r_2 = 0 then
  some ((-1 : Int32), S_2)
  else
  zbind1 (fx_Q_mark n S_2 a1) (fun S_4 =>
    zbL3 (fx_Q_above_L25 n a1 a2 (0 : Int32) (0 : Int32) S_4) (fun x_8 v3_8 v4_8 S_8 =>
    if x_8 = 58 then
    (if a2 = 0 then
    (if zoob a1 32 then none else
      (if ((qIf S_8) a1.toNatClampNeg) = 0 then
      some ((0 : Int32), S_8)
      else
      some ((1 : Int32), S_8)))
    else
    (if a2 = (1 : Int32) then
      (if zoob a1 32 then none else
        some (((qAb S_8) a1.toNatClampNeg), S_8))
      else
      (if a2 = (2 : Int32) then
        (if zoob a1 32 then none else
          some (((qFm S_8) a1.toNatClampNeg), S_8))
        else
        (if a2 = (3 : Int32) then
          some (v3_8, S_8)
          else
          some ((-1 : Int32), S_8)))))
    else none)))))

set_option maxRecDepth 100000 in
set_option maxHeartbeats 4000000 in
theorem lp_Q_above_L25 {z : zE} {B : Nat → Nat} {Rr : va_W} {p : Program} {l : Launch} {e : Env} {s : State} {m : MethodId} {args : Array Value} {below : List Frame} {meth : Method} {c : Code} {Q : State → Prop} {H0 : Heap} {A0 : Nat → Prop} (hM : zM z p s m args c b_Q_above 5 R_Q) (hA : ∀ q : Nat, H0.size ≤ q → A0 q) (n : Nat) (v1 : Int32) (v2 : Int32) :
    ∀ (v3 : Int32) (v4 : Int32) (S : ZQ) (r : Nat × Int32 × Int32 × ZQ), fx_Q_above_L25 n v1 v2 v3 v4 S = some r → (∀ (H : Heap) (locs : List Loc) (ls : Array Slot), va_P z.1 vwCl (qw z B r.2.2.2 ++ Rr) H → va_D A0 (qw z B r.2.2.2 ++ Rr) → va_S A0 H0 H locs → lv_has ls 5 [(0, .ref (B 0)), (1, .int v1), (2, .int v2), (3, .int r.2.1), (4, .int r.2.2.1)] → W p l e rm_Q_above s m args below meth c H locs 0 0 Q (F0 m r.1 ls [])) →
    ∀ (H : Heap) (locs : List Loc) (ls : Array Slot), va_P z.1 vwCl (qw z B S ++ Rr) H → va_D A0 (qw z B S ++ Rr) → va_S A0 H0 H locs → lv_has ls 5 [(0, .ref (B 0)), (1, .int v1), (2, .int v2), (3, .int v3), (4, .int v4)] → W p l e rm_Q_above s m args below meth c H locs 0 0 Q (F0 m 25 ls []) := by
  obtain ⟨hx, hb, hml, hown, hts, hK, hN⟩ := id hM
  intro v3 v4 S r h hE
  refine zz_loop (G := fun (st : Int32 × Int32 × ZQ) => ∀ (H : Heap) (locs : List Loc) (ls : Array Slot), va_P z.1 vwCl (qw z B st.2.2 ++ Rr) H → va_D A0 (qw z B st.2.2 ++ Rr) → va_S A0 H0 H locs → lv_has ls 5 [(0, .ref (B 0)), (1, .int v1), (2, .int v2), (3, .int st.1), (4, .int st.2.1)] → W p l e rm_Q_above s m args below meth c H locs 0 0 Q (F0 m 25 ls [])) (E := fun (r : Nat × Int32 × Int32 × ZQ) => ∀ (H : Heap) (locs : List Loc) (ls : Array Slot), va_P z.1 vwCl (qw z B r.2.2.2 ++ Rr) H → va_D A0 (qw z B r.2.2.2 ++ Rr) → va_S A0 H0 H locs → lv_has ls 5 [(0, .ref (B 0)), (1, .int v1), (2, .int v2), (3, .int r.2.1), (4, .int r.2.2.1)] → W p l e rm_Q_above s m args below meth c H locs 0 0 Q (F0 m r.1 ls [])) ?_ n (v3, v4, S) r h hE
  clear h hE r v3 v4 S
  rintro ⟨v3, v4, S⟩ o h hG hE H locs ls hP hD hS hl
  have h : st_Q_above_L25 n v1 v2 v3 v4 S = some o := h
  have hl : lv_has ls 5 [(0, .ref (B 0)), (1, .int v1), (2, .int v2), (3, .int v3), (4, .int v4)] := hl
  have hP : va_P z.1 vwCl (qw z B S ++ Rr) H := hP
  have hD : va_D A0 (qw z B S ++ Rr) := hD
  unfold st_Q_above_L25 at h
  refine lv_iload hx hb d_Q_above_25 (lv_at hl 4 rfl) ?_
  refine lv_aload_n hx hb d_Q_above_27 rfl (lv_at hl 0 rfl) ?_
  refine va_get (D := z.1) (ci := 5) (v := .int (qTy S)) (C := R_Q) (T := F_Q) (N := 28) hx hb hts i_Q hown hK hP 0 rfl rfl 1 (by decide) (hts _ wq_552) (fun _ h9 => h9) rfl d_Q_above_28 ?_
  refine lv_icmp_ge (tgt := 58) hx hb d_Q_above_31 (by decide) (fun c_5 => ?_) (fun c_5 => ?_)
  · replace h := zz_t c_5 h
    exact hE _ (Option.some.inj h).symm _ _ _ hP hD hS hl
  · replace h := zz_f c_5 h
    refine lv_iload_n hx hb d_Q_above_34 rfl (lv_at hl 3 rfl) ?_
    refine lv_aload_n hx hb d_Q_above_35 rfl (lv_at hl 0 rfl) ?_
    refine va_get (D := z.1) (ci := 5) (v := .ref (B 18)) (C := R_Q) (T := F_Q) (N := 28) hx hb hts i_Q hown hK hP 0 rfl rfl 26 (by decide) (hts _ wq_577) (fun _ h9 => h9) rfl d_Q_above_36 ?_
    refine lv_iload hx hb d_Q_above_39 (lv_at hl 4 rfl) ?_
    obtain ⟨c_6, h⟩ := zz_oob h
    refine va_zald hx hb hK hP 18 1 rfl rfl c_6 d_Q_above_41 ?_
    refine lv_if_eq (tgt := 49) hx hb d_Q_above_42 (by decide) (fun c_7 => ?_) (fun c_7 => ?_)
    · replace h := zz_t c_7 h
      refine lv_iconst (v := 0) hx hb d_Q_above_49 (by decide) ?_
      refine lv_iadd hx hb d_Q_above_50 ?_
      refine lv_istore_n (lv' := [(3, .int (v3 + (0 : Int32))), (0, .ref (B 0)), (1, .int v1), (2, .int v2), (4, .int v4)]) hx hb d_Q_above_51 rfl hl (by decide) rfl (fun ls hl => ?_)
      refine lv_iinc (v := (v4 + (1 : Int32))) (lv' := [(4, .int (v4 + (1 : Int32))), (3, .int (v3 + (0 : Int32))), (0, .ref (B 0)), (1, .int v1), (2, .int v2)]) hx hb d_Q_above_52 hl (k := 4) rfl rfl (by decide) rfl (fun ls hl => ?_)
      refine lv_goto (tgt := 25) hx hb d_Q_above_55 (by decide) ?_
      exact hG _ (Option.some.inj h).symm _ _ _ hP hD hS (lv_sub hl [2, 3, 4, 1, 0] rfl)
    · replace h := zz_f c_7 h
      refine lv_iconst (v := 1) hx hb d_Q_above_45 (by decide) ?_
      refine lv_goto (tgt := 50) hx hb d_Q_above_46 (by decide) ?_
      refine lv_iadd hx hb d_Q_above_50 ?_
      refine lv_istore_n (lv' := [(3, .int (v3 + (1 : Int32))), (0, .ref (B 0)), (1, .int v1), (2, .int v2), (4, .int v4)]) hx hb d_Q_above_51 rfl hl (by decide) rfl (fun ls hl => ?_)
      refine lv_iinc (v := (v4 + (1 : Int32))) (lv' := [(4, .int (v4 + (1 : Int32))), (3, .int (v3 + (1 : Int32))), (0, .ref (B 0)), (1, .int v1), (2, .int v2)]) hx hb d_Q_above_52 hl (k := 4) rfl rfl (by decide) rfl (fun ls hl => ?_)
      refine lv_goto (tgt := 25) hx hb d_Q_above_55 (by decide) ?_
      exact hG _ (Option.some.inj h).symm _ _ _ hP hD hS (lv_sub hl [2, 3, 4, 1, 0] rfl)

set_option maxRecDepth 100000 in
set_option maxHeartbeats 4000000 in
theorem k_Q_above (l : Launch) (z : zE) (B : Nat → Nat) (Rr : va_W) (n : Nat) (S : ZQ) (a1 : Int32) (a2 : Int32) (r0 : Int32) (S' : ZQ) (h : fx_Q_above n S a1 a2 = some (r0, S')) : zC z l y_Q_above w_Q_above rm_Q_above [.ref (B 0), .int a1, .int a2] (qw z B S ++ Rr) (some (.int r0)) (qw z B S' ++ Rr) := by
  refine zz_of (by decide) (Nat.le_of_ble_eq_true rfl) ?_
  intro p e s m args below meth c A0 ls hM hr hlocks hA hP hD hl
  have hM : zM z p s m args c b_Q_above 5 R_Q := hM
  obtain ⟨hx, hb, hml, hown, hts, hK, hN⟩ := id hM
  have hS : va_S A0 s.heap s.heap [] := va_S.rf
  have hl : lv_has ls 5 [(0, .ref (B 0)), (1, .int a1), (2, .int a2)] := hl
  unfold fx_Q_above at h
  refine lv_aload_n hx hb d_Q_above_0 rfl (lv_at hl 0 rfl) ?_
  refine lv_iconst (v := 0) hx hb d_Q_above_1 (by decide) ?_
  obtain ⟨S_1, e_1, h⟩ := zz_let h
  refine va_put (D := z.1) (ci := 5) (v := .int (0 : Int32)) (ty := .int) (C := R_Q) (T := F_Q) (N := 28) hx hb hts i_Q ty_Q ty_Q_ok n_Q hown hK hP hD hS 0 rfl rfl 0 (by decide) (hts _ wq_551) (fun _ h9 => h9) rfl (by decide +kernel) rfl rfl (Nat.le_of_ble_eq_true rfl) d_Q_above_2 (fun H locs hP hD hS => ?_)
  have hP : va_P z.1 vwCl (qw z B S_1 ++ Rr) H := by rw [e_1]; exact hP
  have hD : va_D A0 (qw z B S_1 ++ Rr) := by rw [e_1]; exact hD
  refine lv_aload_n hx hb d_Q_above_5 rfl (lv_at hl 0 rfl) ?_
  refine lv_iload_n hx hb d_Q_above_6 rfl (lv_at hl 1 rfl) ?_
  obtain ⟨r_2, S_2, e_2, h⟩ := zz_bind h
  refine zz_goI (zz_runV (As := [.int a1]) (rest := []) (k_Q_isOwn l z B Rr n _ _ _ _ e_2) ⟨hx, hb, hml, hown, hts⟩ (cwV 1 hts (zz_gV wq_644 wq_646 wp_18 wq_6 wq_647) rfl rfl rfl (by decide +kernel) ⟨Nat.le_of_ble_eq_true rfl, Nat.le_of_ble_eq_true rfl⟩) hK hN hP hD (va_recv hK hP (ci := 5) (q0 := 0) rfl rfl) rfl hl.1 rfl (Nat.le_of_ble_eq_true rfl) d_Q_above_7 ⟨Nat.le_of_ble_eq_true rfl, Nat.le_of_ble_eq_true rfl⟩) hD hS hA (fun H locs hP hD hS => ?_)
  refine lv_if_ne (tgt := 15) hx hb d_Q_above_10 (by decide) (fun c_3 => ?_) (fun c_3 => ?_)
  · replace h := zz_f c_3 h
    refine lv_aload_n hx hb d_Q_above_15 rfl (lv_at hl 0 rfl) ?_
    refine lv_iload_n hx hb d_Q_above_16 rfl (lv_at hl 1 rfl) ?_
    obtain ⟨S_4, e_4, h⟩ := zz_bind1 h
    refine zz_goV (zz_runV (As := [.int a1]) (rest := []) (k_Q_mark l z B Rr n _ _ _ e_4) ⟨hx, hb, hml, hown, hts⟩ (cwV 1 hts (zz_gV wq_668 wq_670 wp_22 wq_6 wq_671) rfl rfl rfl (by decide +kernel) ⟨Nat.le_of_ble_eq_true rfl, Nat.le_of_ble_eq_true rfl⟩) hK hN hP hD (va_recv hK hP (ci := 5) (q0 := 0) rfl rfl) rfl hl.1 rfl (Nat.le_of_ble_eq_true rfl) d_Q_above_17 ⟨Nat.le_of_ble_eq_true rfl, Nat.le_of_ble_eq_true rfl⟩) hD hS hA (fun H locs hP hD hS => ?_)
    refine lv_iconst (v := 0) hx hb d_Q_above_20 (by decide) ?_
    refine lv_istore_n (lv' := [(3, .int (0 : Int32)), (0, .ref (B 0)), (1, .int a1), (2, .int a2)]) hx hb d_Q_above_21 rfl hl (by decide) rfl (fun ls hl => ?_)
    refine lv_iconst (v := 0) hx hb d_Q_above_22 (by decide) ?_
    refine lv_istore (lv' := [(4, .int (0 : Int32)), (3, .int (0 : Int32)), (0, .ref (B 0)), (1, .int a1), (2, .int a2)]) hx hb d_Q_above_23 hl (by decide) rfl (fun ls hl => ?_)
    replace h := zz_bL3 h
    obtain ⟨x_8, v3_8, v4_8, S_8, e_8, h⟩ := h
    refine lp_Q_above_L25 hM hA n a1 a2 _ _ _ _ e_8 ?_ _ _ _ hP hD hS (lv_sub hl [2, 3, 4, 1, 0] rfl)
    intro H locs ls hP hD hS hl
    have hl : lv_has ls 5 [(0, .ref (B 0)), (1, .int a1), (2, .int a2), (3, .int v3_8), (4, .int v4_8)] := hl
    have hP : va_P z.1 vwCl (qw z B S_8 ++ Rr) H := hP
    have hD : va_D A0 (qw z B S_8 ++ Rr) := hD
    replace h := zz_grd h
    obtain ⟨c_8, h⟩ := h
    subst c_8
    refine W.eq (g2 := F0 m 58 ls []) rfl ?_
    refine lv_iload_n hx hb d_Q_above_58 rfl (lv_at hl 2 rfl) ?_
    refine lv_if_ne (tgt := 79) hx hb d_Q_above_59 (by decide) (fun c_9 => ?_) (fun c_9 => ?_)
    · replace h := zz_f c_9 h
      refine lv_iload_n hx hb d_Q_above_79 rfl (lv_at hl 2 rfl) ?_
      refine lv_iconst (v := 1) hx hb d_Q_above_80 (by decide) ?_
      refine lv_icmp_ne (tgt := 93) hx hb d_Q_above_81 (by decide) (fun c_10 => ?_) (fun c_10 => ?_)
      · replace h := zz_f c_10 h
        refine lv_iload_n hx hb d_Q_above_93 rfl (lv_at hl 2 rfl) ?_
        refine lv_iconst (v := 2) hx hb d_Q_above_94 (by decide) ?_
        refine lv_icmp_ne (tgt := 107) hx hb d_Q_above_95 (by decide) (fun c_11 => ?_) (fun c_11 => ?_)
        · replace h := zz_f c_11 h
          refine lv_iload_n hx hb d_Q_above_107 rfl (lv_at hl 2 rfl) ?_
          refine lv_iconst (v := 3) hx hb d_Q_above_108 (by decide) ?_
          refine lv_icmp_ne (tgt := 116) hx hb d_Q_above_109 (by decide) (fun c_12 => ?_) (fun c_12 => ?_)
          · replace h := zz_f c_12 h
            refine lv_iconst (v := -1) hx hb d_Q_above_116 (by decide) ?_
            exact zz_iret (fun S => qw z B S ++ Rr) hx hb hr hlocks hP hD hS h d_Q_above_117
          · replace h := zz_t c_12 h
            refine lv_iload_n hx hb d_Q_above_112 rfl (lv_at hl 3 rfl) ?_
            refine lv_goto (tgt := 117) hx hb d_Q_above_113 (by decide) ?_
            exact zz_iret (fun S => qw z B S ++ Rr) hx hb hr hlocks hP hD hS h d_Q_above_117
        · replace h := zz_t c_11 h
          refine lv_aload_n hx hb d_Q_above_98 rfl (lv_at hl 0 rfl) ?_
          refine va_get (D := z.1) (ci := 5) (v := .ref (B 3)) (C := R_Q) (T := F_Q) (N := 28) hx hb hts i_Q hown hK hP 0 rfl rfl 4 (by decide) (hts _ wq_555) (fun _ h9 => h9) rfl d_Q_above_99 ?_
          refine lv_iload_n hx hb d_Q_above_102 rfl (lv_at hl 1 rfl) ?_
          obtain ⟨c_13, h⟩ := zz_oob h
          refine va_iald hx hb hK hP 3 0 rfl rfl c_13 d_Q_above_103 ?_
          refine lv_goto (tgt := 117) hx hb d_Q_above_104 (by decide) ?_
          exact zz_iret (fun S => qw z B S ++ Rr) hx hb hr hlocks hP hD hS h d_Q_above_117
      · replace h := zz_t c_10 h
        refine lv_aload_n hx hb d_Q_above_84 rfl (lv_at hl 0 rfl) ?_
        refine va_get (D := z.1) (ci := 5) (v := .ref (B 2)) (C := R_Q) (T := F_Q) (N := 28) hx hb hts i_Q hown hK hP 0 rfl rfl 3 (by decide) (hts _ wq_554) (fun _ h9 => h9) rfl d_Q_above_85 ?_
        refine lv_iload_n hx hb d_Q_above_88 rfl (lv_at hl 1 rfl) ?_
        obtain ⟨c_14, h⟩ := zz_oob h
        refine va_iald hx hb hK hP 2 0 rfl rfl c_14 d_Q_above_89 ?_
        refine lv_goto (tgt := 117) hx hb d_Q_above_90 (by decide) ?_
        exact zz_iret (fun S => qw z B S ++ Rr) hx hb hr hlocks hP hD hS h d_Q_above_117
    · replace h := zz_t c_9 h
      refine lv_aload_n hx hb d_Q_above_62 rfl (lv_at hl 0 rfl) ?_
      refine va_get (D := z.1) (ci := 5) (v := .ref (B 1)) (C := R_Q) (T := F_Q) (N := 28) hx hb hts i_Q hown hK hP 0 rfl rfl 2 (by decide) (hts _ wq_553) (fun _ h9 => h9) rfl d_Q_above_63 ?_
      refine lv_iload_n hx hb d_Q_above_66 rfl (lv_at hl 1 rfl) ?_
      obtain ⟨c_15, h⟩ := zz_oob h
      refine va_zald hx hb hK hP 1 1 rfl rfl c_15 d_Q_above_67 ?_
      refine lv_if_eq (tgt := 75) hx hb d_Q_above_68 (by decide) (fun c_16 => ?_) (fun c_16 => ?_)
      · replace h := zz_t c_16 h
        refine lv_iconst (v := 0) hx hb d_Q_above_75 (by decide) ?_
        refine lv_goto (tgt := 117) hx hb d_Q_above_76 (by decide) ?_
        exact zz_iret (fun S => qw z B S ++ Rr) hx hb hr hlocks hP hD hS h d_Q_above_117
      · replace h := zz_f c_16 h
        refine lv_iconst (v := 1) hx hb d_Q_above_71 (by decide) ?_
        refine lv_goto (tgt := 117) hx hb d_Q_above_72 (by decide) ?_
        exact zz_iret (fun S => qw z B S ++ Rr) hx hb hr hlocks hP hD hS h d_Q_above_117
  · replace h := zz_t c_3 h
    refine lv_iconst (v := -1) hx hb d_Q_above_13 (by decide) ?_
    exact zz_iret (fun S => qw z B S ++ Rr) hx hb hr hlocks hP hD hS h d_Q_above_14

abbrev b_Q_count : ByteArray := prog_7_method_31_code
abbrev y_Q_count : MethodName := ⟨"MemberChooserModel", "count", "(I)I"⟩
abbrev w_Q_count : List Cond := Cond.code y_Q_count b_Q_count 2 (some .int) :: zTb
theorem d_Q_count_0 : decode b_Q_count 0 = .ok (.aload_n 0, 1) := by decide +kernel
theorem d_Q_count_1 : decode b_Q_count 1 = .ok (.iconst 0, 1) := by decide +kernel
theorem d_Q_count_2 : decode b_Q_count 2 = .ok (.putfield 73, 3) := by decide +kernel
theorem d_Q_count_5 : decode b_Q_count 5 = .ok (.iload_n 1, 1) := by decide +kernel
theorem d_Q_count_6 : decode b_Q_count 6 = .ok (.ifCond .ne 13, 3) := by decide +kernel
theorem d_Q_count_9 : decode b_Q_count 9 = .ok (.aload_n 0, 1) := by decide +kernel
theorem d_Q_count_10 : decode b_Q_count 10 = .ok (.getfield 9, 3) := by decide +kernel
theorem d_Q_count_13 : decode b_Q_count 13 = .ok (.bipush 8, 2) := by decide +kernel
theorem d_Q_count_15 : decode b_Q_count 15 = .ok (.isub, 1) := by decide +kernel
theorem d_Q_count_16 : decode b_Q_count 16 = .ok (.goto 64, 3) := by decide +kernel
theorem d_Q_count_19 : decode b_Q_count 19 = .ok (.iload_n 1, 1) := by decide +kernel
theorem d_Q_count_20 : decode b_Q_count 20 = .ok (.iconst 1, 1) := by decide +kernel
theorem d_Q_count_21 : decode b_Q_count 21 = .ok (.if_icmp .ne 10, 3) := by decide +kernel
theorem d_Q_count_24 : decode b_Q_count 24 = .ok (.aload_n 0, 1) := by decide +kernel
theorem d_Q_count_25 : decode b_Q_count 25 = .ok (.getfield 104, 3) := by decide +kernel
theorem d_Q_count_28 : decode b_Q_count 28 = .ok (.goto 52, 3) := by decide +kernel
theorem d_Q_count_31 : decode b_Q_count 31 = .ok (.iload_n 1, 1) := by decide +kernel
theorem d_Q_count_32 : decode b_Q_count 32 = .ok (.iconst 2, 1) := by decide +kernel
theorem d_Q_count_33 : decode b_Q_count 33 = .ok (.if_icmp .ne 10, 3) := by decide +kernel
theorem d_Q_count_36 : decode b_Q_count 36 = .ok (.aload_n 0, 1) := by decide +kernel
theorem d_Q_count_37 : decode b_Q_count 37 = .ok (.getfield 95, 3) := by decide +kernel
theorem d_Q_count_40 : decode b_Q_count 40 = .ok (.goto 40, 3) := by decide +kernel
theorem d_Q_count_43 : decode b_Q_count 43 = .ok (.iload_n 1, 1) := by decide +kernel
theorem d_Q_count_44 : decode b_Q_count 44 = .ok (.iconst 3, 1) := by decide +kernel
theorem d_Q_count_45 : decode b_Q_count 45 = .ok (.if_icmp .ne 10, 3) := by decide +kernel
theorem d_Q_count_48 : decode b_Q_count 48 = .ok (.aload_n 0, 1) := by decide +kernel
theorem d_Q_count_49 : decode b_Q_count 49 = .ok (.getfield 160, 3) := by decide +kernel
theorem d_Q_count_52 : decode b_Q_count 52 = .ok (.goto 28, 3) := by decide +kernel
theorem d_Q_count_55 : decode b_Q_count 55 = .ok (.iload_n 1, 1) := by decide +kernel
theorem d_Q_count_56 : decode b_Q_count 56 = .ok (.iconst 4, 1) := by decide +kernel
theorem d_Q_count_57 : decode b_Q_count 57 = .ok (.if_icmp .ne 10, 3) := by decide +kernel
theorem d_Q_count_60 : decode b_Q_count 60 = .ok (.aload_n 0, 1) := by decide +kernel
theorem d_Q_count_61 : decode b_Q_count 61 = .ok (.getfield 153, 3) := by decide +kernel
theorem d_Q_count_64 : decode b_Q_count 64 = .ok (.goto 16, 3) := by decide +kernel
theorem d_Q_count_67 : decode b_Q_count 67 = .ok (.iload_n 1, 1) := by decide +kernel
theorem d_Q_count_68 : decode b_Q_count 68 = .ok (.iconst 5, 1) := by decide +kernel
theorem d_Q_count_69 : decode b_Q_count 69 = .ok (.if_icmp .ne 10, 3) := by decide +kernel
theorem d_Q_count_72 : decode b_Q_count 72 = .ok (.aload_n 0, 1) := by decide +kernel
theorem d_Q_count_73 : decode b_Q_count 73 = .ok (.getfield 143, 3) := by decide +kernel
theorem d_Q_count_76 : decode b_Q_count 76 = .ok (.goto 4, 3) := by decide +kernel
theorem d_Q_count_79 : decode b_Q_count 79 = .ok (.iconst (-1), 1) := by decide +kernel
theorem d_Q_count_80 : decode b_Q_count 80 = .ok (.ireturn, 1) := by decide +kernel
abbrev rm_Q_count : Room := { frames := 0, cells := 0, slots := 0, locals := 0 }
def fx_Q_count (n : Nat) (S : ZQ) (a1 : Int32) : Option (Int32 × ZQ) :=
  zlet (qTh' S (0 : Int32)) (fun S_1 =>
  (if a1 = 0 then
  some (((qTy S_1) - (8 : Int32)), S_1)
  else
  (if a1 = (1 : Int32) then
    some ((qMe S_1), S_1)
    else
    (if a1 = (2 : Int32) then
      some ((qKe S_1), S_1)
      else
      (if a1 = (3 : Int32) then
        some ((qWo S_1), S_1)
        else
        (if a1 = (4 : Int32) then
          some ((qHa S_1), S_1)
          else
          (if a1 = (5 : Int32) then
            some ((qPh S_1), S_1)
            else
            some ((-1 : Int32), S_1))))))))

set_option maxRecDepth 100000 in
set_option maxHeartbeats 4000000 in
theorem k_Q_count (l : Launch) (z : zE) (B : Nat → Nat) (Rr : va_W) (n : Nat) (S : ZQ) (a1 : Int32) (r0 : Int32) (S' : ZQ) (h : fx_Q_count n S a1 = some (r0, S')) : zC z l y_Q_count w_Q_count rm_Q_count [.ref (B 0), .int a1] (qw z B S ++ Rr) (some (.int r0)) (qw z B S' ++ Rr) := by
  refine zz_of (by decide) (Nat.le_of_ble_eq_true rfl) ?_
  intro p e s m args below meth c A0 ls hM hr hlocks hA hP hD hl
  have hM : zM z p s m args c b_Q_count 2 R_Q := hM
  obtain ⟨hx, hb, hml, hown, hts, hK, hN⟩ := id hM
  have hS : va_S A0 s.heap s.heap [] := va_S.rf
  have hl : lv_has ls 2 [(0, .ref (B 0)), (1, .int a1)] := hl
  unfold fx_Q_count at h
  refine lv_aload_n hx hb d_Q_count_0 rfl (lv_at hl 0 rfl) ?_
  refine lv_iconst (v := 0) hx hb d_Q_count_1 (by decide) ?_
  obtain ⟨S_1, e_1, h⟩ := zz_let h
  refine va_put (D := z.1) (ci := 5) (v := .int (0 : Int32)) (ty := .int) (C := R_Q) (T := F_Q) (N := 28) hx hb hts i_Q ty_Q ty_Q_ok n_Q hown hK hP hD hS 0 rfl rfl 0 (by decide) (hts _ wq_551) (fun _ h9 => h9) rfl (by decide +kernel) rfl rfl (Nat.le_of_ble_eq_true rfl) d_Q_count_2 (fun H locs hP hD hS => ?_)
  have hP : va_P z.1 vwCl (qw z B S_1 ++ Rr) H := by rw [e_1]; exact hP
  have hD : va_D A0 (qw z B S_1 ++ Rr) := by rw [e_1]; exact hD
  refine lv_iload_n hx hb d_Q_count_5 rfl (lv_at hl 1 rfl) ?_
  refine lv_if_ne (tgt := 19) hx hb d_Q_count_6 (by decide) (fun c_2 => ?_) (fun c_2 => ?_)
  · replace h := zz_f c_2 h
    refine lv_iload_n hx hb d_Q_count_19 rfl (lv_at hl 1 rfl) ?_
    refine lv_iconst (v := 1) hx hb d_Q_count_20 (by decide) ?_
    refine lv_icmp_ne (tgt := 31) hx hb d_Q_count_21 (by decide) (fun c_3 => ?_) (fun c_3 => ?_)
    · replace h := zz_f c_3 h
      refine lv_iload_n hx hb d_Q_count_31 rfl (lv_at hl 1 rfl) ?_
      refine lv_iconst (v := 2) hx hb d_Q_count_32 (by decide) ?_
      refine lv_icmp_ne (tgt := 43) hx hb d_Q_count_33 (by decide) (fun c_4 => ?_) (fun c_4 => ?_)
      · replace h := zz_f c_4 h
        refine lv_iload_n hx hb d_Q_count_43 rfl (lv_at hl 1 rfl) ?_
        refine lv_iconst (v := 3) hx hb d_Q_count_44 (by decide) ?_
        refine lv_icmp_ne (tgt := 55) hx hb d_Q_count_45 (by decide) (fun c_5 => ?_) (fun c_5 => ?_)
        · replace h := zz_f c_5 h
          refine lv_iload_n hx hb d_Q_count_55 rfl (lv_at hl 1 rfl) ?_
          refine lv_iconst (v := 4) hx hb d_Q_count_56 (by decide) ?_
          refine lv_icmp_ne (tgt := 67) hx hb d_Q_count_57 (by decide) (fun c_6 => ?_) (fun c_6 => ?_)
          · replace h := zz_f c_6 h
            refine lv_iload_n hx hb d_Q_count_67 rfl (lv_at hl 1 rfl) ?_
            refine lv_iconst (v := 5) hx hb d_Q_count_68 (by decide) ?_
            refine lv_icmp_ne (tgt := 79) hx hb d_Q_count_69 (by decide) (fun c_7 => ?_) (fun c_7 => ?_)
            · replace h := zz_f c_7 h
              refine lv_iconst (v := -1) hx hb d_Q_count_79 (by decide) ?_
              exact zz_iret (fun S => qw z B S ++ Rr) hx hb hr hlocks hP hD hS h d_Q_count_80
            · replace h := zz_t c_7 h
              refine lv_aload_n hx hb d_Q_count_72 rfl (lv_at hl 0 rfl) ?_
              refine va_get (D := z.1) (ci := 5) (v := .int (qPh S_1)) (C := R_Q) (T := F_Q) (N := 28) hx hb hts i_Q hown hK hP 0 rfl rfl 20 (by decide) (hts _ wq_571) (fun _ h9 => h9) rfl d_Q_count_73 ?_
              refine lv_goto (tgt := 80) hx hb d_Q_count_76 (by decide) ?_
              exact zz_iret (fun S => qw z B S ++ Rr) hx hb hr hlocks hP hD hS h d_Q_count_80
          · replace h := zz_t c_6 h
            refine lv_aload_n hx hb d_Q_count_60 rfl (lv_at hl 0 rfl) ?_
            refine va_get (D := z.1) (ci := 5) (v := .int (qHa S_1)) (C := R_Q) (T := F_Q) (N := 28) hx hb hts i_Q hown hK hP 0 rfl rfl 19 (by decide) (hts _ wq_570) (fun _ h9 => h9) rfl d_Q_count_61 ?_
            refine lv_goto (tgt := 80) hx hb d_Q_count_64 (by decide) ?_
            exact zz_iret (fun S => qw z B S ++ Rr) hx hb hr hlocks hP hD hS h d_Q_count_80
        · replace h := zz_t c_5 h
          refine lv_aload_n hx hb d_Q_count_48 rfl (lv_at hl 0 rfl) ?_
          refine va_get (D := z.1) (ci := 5) (v := .int (qWo S_1)) (C := R_Q) (T := F_Q) (N := 28) hx hb hts i_Q hown hK hP 0 rfl rfl 18 (by decide) (hts _ wq_569) (fun _ h9 => h9) rfl d_Q_count_49 ?_
          refine lv_goto (tgt := 80) hx hb d_Q_count_52 (by decide) ?_
          exact zz_iret (fun S => qw z B S ++ Rr) hx hb hr hlocks hP hD hS h d_Q_count_80
      · replace h := zz_t c_4 h
        refine lv_aload_n hx hb d_Q_count_36 rfl (lv_at hl 0 rfl) ?_
        refine va_get (D := z.1) (ci := 5) (v := .int (qKe S_1)) (C := R_Q) (T := F_Q) (N := 28) hx hb hts i_Q hown hK hP 0 rfl rfl 12 (by decide) (hts _ wq_563) (fun _ h9 => h9) rfl d_Q_count_37 ?_
        refine lv_goto (tgt := 80) hx hb d_Q_count_40 (by decide) ?_
        exact zz_iret (fun S => qw z B S ++ Rr) hx hb hr hlocks hP hD hS h d_Q_count_80
    · replace h := zz_t c_3 h
      refine lv_aload_n hx hb d_Q_count_24 rfl (lv_at hl 0 rfl) ?_
      refine va_get (D := z.1) (ci := 5) (v := .int (qMe S_1)) (C := R_Q) (T := F_Q) (N := 28) hx hb hts i_Q hown hK hP 0 rfl rfl 6 (by decide) (hts _ wq_557) (fun _ h9 => h9) rfl d_Q_count_25 ?_
      refine lv_goto (tgt := 80) hx hb d_Q_count_28 (by decide) ?_
      exact zz_iret (fun S => qw z B S ++ Rr) hx hb hr hlocks hP hD hS h d_Q_count_80
  · replace h := zz_t c_2 h
    refine lv_aload_n hx hb d_Q_count_9 rfl (lv_at hl 0 rfl) ?_
    refine va_get (D := z.1) (ci := 5) (v := .int (qTy S_1)) (C := R_Q) (T := F_Q) (N := 28) hx hb hts i_Q hown hK hP 0 rfl rfl 1 (by decide) (hts _ wq_552) (fun _ h9 => h9) rfl d_Q_count_10 ?_
    refine lv_bipush (v := 8) hx hb d_Q_count_13 (by decide) ?_
    refine lv_isub hx hb d_Q_count_15 ?_
    refine lv_goto (tgt := 80) hx hb d_Q_count_16 (by decide) ?_
    exact zz_iret (fun S => qw z B S ++ Rr) hx hb hr hlocks hP hD hS h d_Q_count_80

