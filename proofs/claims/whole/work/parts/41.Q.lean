abbrev b_Q_join : ByteArray := prog_7_method_11_code
abbrev y_Q_join : MethodName := ⟨"MemberChooserModel", "join", "(II)Z"⟩
abbrev w_Q_join : List Cond := Cond.code y_Q_join b_Q_join 4 (some .boolean) :: zTb
theorem d_Q_join_0 : decode b_Q_join 0 = .ok (.aload_n 0, 1) := by decide +kernel
theorem d_Q_join_1 : decode b_Q_join 1 = .ok (.iconst 0, 1) := by decide +kernel
theorem d_Q_join_2 : decode b_Q_join 2 = .ok (.putfield 73, 3) := by decide +kernel
theorem d_Q_join_5 : decode b_Q_join 5 = .ok (.aload_n 0, 1) := by decide +kernel
theorem d_Q_join_6 : decode b_Q_join 6 = .ok (.iload_n 1, 1) := by decide +kernel
theorem d_Q_join_7 : decode b_Q_join 7 = .ok (.invokevirtual 76, 3) := by decide +kernel
theorem d_Q_join_10 : decode b_Q_join 10 = .ok (.ifCond .eq 29, 3) := by decide +kernel
theorem d_Q_join_13 : decode b_Q_join 13 = .ok (.aload_n 0, 1) := by decide +kernel
theorem d_Q_join_14 : decode b_Q_join 14 = .ok (.iload_n 2, 1) := by decide +kernel
theorem d_Q_join_15 : decode b_Q_join 15 = .ok (.invokevirtual 76, 3) := by decide +kernel
theorem d_Q_join_18 : decode b_Q_join 18 = .ok (.ifCond .eq 21, 3) := by decide +kernel
theorem d_Q_join_21 : decode b_Q_join 21 = .ok (.aload_n 0, 1) := by decide +kernel
theorem d_Q_join_22 : decode b_Q_join 22 = .ok (.getfield 13, 3) := by decide +kernel
theorem d_Q_join_25 : decode b_Q_join 25 = .ok (.iload_n 2, 1) := by decide +kernel
theorem d_Q_join_26 : decode b_Q_join 26 = .ok (.baload, 1) := by decide +kernel
theorem d_Q_join_27 : decode b_Q_join 27 = .ok (.ifCond .eq 12, 3) := by decide +kernel
theorem d_Q_join_30 : decode b_Q_join 30 = .ok (.aload_n 0, 1) := by decide +kernel
theorem d_Q_join_31 : decode b_Q_join 31 = .ok (.iload_n 2, 1) := by decide +kernel
theorem d_Q_join_32 : decode b_Q_join 32 = .ok (.iload_n 1, 1) := by decide +kernel
theorem d_Q_join_33 : decode b_Q_join 33 = .ok (.invokevirtual 91, 3) := by decide +kernel
theorem d_Q_join_36 : decode b_Q_join 36 = .ok (.ifCond .eq 5, 3) := by decide +kernel
theorem d_Q_join_39 : decode b_Q_join 39 = .ok (.iconst 0, 1) := by decide +kernel
theorem d_Q_join_40 : decode b_Q_join 40 = .ok (.ireturn, 1) := by decide +kernel
theorem d_Q_join_41 : decode b_Q_join 41 = .ok (.iconst 0, 1) := by decide +kernel
theorem d_Q_join_42 : decode b_Q_join 42 = .ok (.istore_n 3, 1) := by decide +kernel
theorem d_Q_join_43 : decode b_Q_join 43 = .ok (.iload_n 3, 1) := by decide +kernel
theorem d_Q_join_44 : decode b_Q_join 44 = .ok (.aload_n 0, 1) := by decide +kernel
theorem d_Q_join_45 : decode b_Q_join 45 = .ok (.getfield 21, 3) := by decide +kernel
theorem d_Q_join_48 : decode b_Q_join 48 = .ok (.iload_n 1, 1) := by decide +kernel
theorem d_Q_join_49 : decode b_Q_join 49 = .ok (.iaload, 1) := by decide +kernel
theorem d_Q_join_50 : decode b_Q_join 50 = .ok (.if_icmp .ge 26, 3) := by decide +kernel
theorem d_Q_join_53 : decode b_Q_join 53 = .ok (.aload_n 0, 1) := by decide +kernel
theorem d_Q_join_54 : decode b_Q_join 54 = .ok (.getfield 24, 3) := by decide +kernel
theorem d_Q_join_57 : decode b_Q_join 57 = .ok (.bipush 32, 2) := by decide +kernel
theorem d_Q_join_59 : decode b_Q_join 59 = .ok (.iload_n 1, 1) := by decide +kernel
theorem d_Q_join_60 : decode b_Q_join 60 = .ok (.imul, 1) := by decide +kernel
theorem d_Q_join_61 : decode b_Q_join 61 = .ok (.iload_n 3, 1) := by decide +kernel
theorem d_Q_join_62 : decode b_Q_join 62 = .ok (.iadd, 1) := by decide +kernel
theorem d_Q_join_63 : decode b_Q_join 63 = .ok (.iaload, 1) := by decide +kernel
theorem d_Q_join_64 : decode b_Q_join 64 = .ok (.iload_n 2, 1) := by decide +kernel
theorem d_Q_join_65 : decode b_Q_join 65 = .ok (.if_icmp .ne 5, 3) := by decide +kernel
theorem d_Q_join_68 : decode b_Q_join 68 = .ok (.iconst 0, 1) := by decide +kernel
theorem d_Q_join_69 : decode b_Q_join 69 = .ok (.ireturn, 1) := by decide +kernel
theorem d_Q_join_70 : decode b_Q_join 70 = .ok (.iinc 3 1, 3) := by decide +kernel
theorem d_Q_join_73 : decode b_Q_join 73 = .ok (.goto (-30), 3) := by decide +kernel
theorem d_Q_join_76 : decode b_Q_join 76 = .ok (.aload_n 0, 1) := by decide +kernel
theorem d_Q_join_77 : decode b_Q_join 77 = .ok (.getfield 24, 3) := by decide +kernel
theorem d_Q_join_80 : decode b_Q_join 80 = .ok (.bipush 32, 2) := by decide +kernel
theorem d_Q_join_82 : decode b_Q_join 82 = .ok (.iload_n 1, 1) := by decide +kernel
theorem d_Q_join_83 : decode b_Q_join 83 = .ok (.imul, 1) := by decide +kernel
theorem d_Q_join_84 : decode b_Q_join 84 = .ok (.aload_n 0, 1) := by decide +kernel
theorem d_Q_join_85 : decode b_Q_join 85 = .ok (.getfield 21, 3) := by decide +kernel
theorem d_Q_join_88 : decode b_Q_join 88 = .ok (.iload_n 1, 1) := by decide +kernel
theorem d_Q_join_89 : decode b_Q_join 89 = .ok (.iaload, 1) := by decide +kernel
theorem d_Q_join_90 : decode b_Q_join 90 = .ok (.iadd, 1) := by decide +kernel
theorem d_Q_join_91 : decode b_Q_join 91 = .ok (.iload_n 2, 1) := by decide +kernel
theorem d_Q_join_92 : decode b_Q_join 92 = .ok (.iastore, 1) := by decide +kernel
theorem d_Q_join_93 : decode b_Q_join 93 = .ok (.aload_n 0, 1) := by decide +kernel
theorem d_Q_join_94 : decode b_Q_join 94 = .ok (.getfield 21, 3) := by decide +kernel
theorem d_Q_join_97 : decode b_Q_join 97 = .ok (.iload_n 1, 1) := by decide +kernel
theorem d_Q_join_98 : decode b_Q_join 98 = .ok (.dup2, 1) := by decide +kernel
theorem d_Q_join_99 : decode b_Q_join 99 = .ok (.iaload, 1) := by decide +kernel
theorem d_Q_join_100 : decode b_Q_join 100 = .ok (.iconst 1, 1) := by decide +kernel
theorem d_Q_join_101 : decode b_Q_join 101 = .ok (.iadd, 1) := by decide +kernel
theorem d_Q_join_102 : decode b_Q_join 102 = .ok (.iastore, 1) := by decide +kernel
theorem d_Q_join_103 : decode b_Q_join 103 = .ok (.aload_n 0, 1) := by decide +kernel
theorem d_Q_join_104 : decode b_Q_join 104 = .ok (.iconst 0, 1) := by decide +kernel
theorem d_Q_join_105 : decode b_Q_join 105 = .ok (.putfield 95, 3) := by decide +kernel
theorem d_Q_join_108 : decode b_Q_join 108 = .ok (.iconst 1, 1) := by decide +kernel
theorem d_Q_join_109 : decode b_Q_join 109 = .ok (.ireturn, 1) := by decide +kernel
abbrev rm_Q_join : Room := { frames := 2, cells := 0, slots := 0, locals := 46 }
def st_Q_join_L43 (n : Nat) (v1 : Int32) (v2 : Int32) (v3 : Int32) (S : ZQ) : Option ((Int32 × ZQ) ⊕ (Nat × Int32 × ZQ)) :=
  (if zoob v1 32 then none else
  (if ((qFm S) v1.toNatClampNeg) ≤ v3 then
  some (.inr (76, v3, S))
  else
  (if zoob (((32 : Int32) * v1) + v3) 1024 then none else
    (if ((qFa S) (((32 : Int32) * v1) + v3).toNatClampNeg) = v2 then
    some (.inr (68, v3, S))
    else
    some (.inl ((v3 + (1 : Int32)), S))))))

def fx_Q_join_L43 (n : Nat) (v1 : Int32) (v2 : Int32) (v3 : Int32) (S : ZQ) : Option (Nat × Int32 × ZQ) := zloop (fun (st : Int32 × ZQ) => st_Q_join_L43 n v1 v2 st.1 st.2) n (v3, S)

def fx_Q_join (n : Nat) (S : ZQ) (a1 : Int32) (a2 : Int32) : Option (Int32 × ZQ) :=
  zlet (qTh' S (0 : Int32)) (fun S_1 =>
  zbind (fx_Q_isOwn n S_1 a1) (fun r_2 S_2 =>
  (if r_2 = 0 then
  some ((0 : Int32), S_2)
  else
  zbind (fx_Q_isOwn n S_2 a2) (fun r_4 S_4 =>
    (if r_4 = 0 then
    some ((0 : Int32), S_4)
    else
    (if zoob a2 32 then none else
      (if ((qIf S_4) a2.toNatClampNeg) = 0 then
      some ((0 : Int32), S_4)
      else
      zbind (fx_Q_isUnder n S_4 a2 a1) (fun r_8 S_8 =>
        (if r_8 = 0 then
        zbL2 (fx_Q_join_L43 n a1 a2 (0 : Int32) S_8) (fun x_14 v3_14 S_14 =>
          if x_14 = 68 then
          some ((0 : Int32), S_14)
          else if x_14 = 76 then
          (if zoob a1 32 then none else
          (if zoob (((32 : Int32) * a1) + ((qFm S_14) a1.toNatClampNeg)) 1024 then none else
          zlet (qFa' S_14 (upd (qFa S_14) (((32 : Int32) * a1) + ((qFm S_14) a1.toNatClampNeg)).toNatClampNeg a2)) (fun S_17 =>
          (if zoob a1 32 then none else
          (if zoob a1 32 then none else
          zlet (qFm' S_17 (upd (qFm S_17) a1.toNatClampNeg (((qFm S_17) a1.toNatClampNeg) + (1 : Int32)))) (fun S_20 =>
          zlet (qKe' S_20 (0 : Int32)) (fun S_21 =>
          some ((1 : Int32), S_21))))))))
          else none)
        else
        some ((0 : Int32), S_8))))))))))

set_option maxRecDepth 100000 in
set_option maxHeartbeats 4000000 in
theorem lp_Q_join_L43 {z : zE} {B : Nat → Nat} {Rr : va_W} {p : Program} {l : Launch} {e : Env} {s : State} {m : MethodId} {args : Array Value} {below : List Frame} {meth : Method} {c : Code} {Q : State → Prop} {H0 : Heap} {A0 : Nat → Prop} (hM : zM z p s m args c b_Q_join 4 R_Q) (hA : ∀ q : Nat, H0.size ≤ q → A0 q) (n : Nat) (v1 : Int32) (v2 : Int32) :
    ∀ (v3 : Int32) (S : ZQ) (r : Nat × Int32 × ZQ), fx_Q_join_L43 n v1 v2 v3 S = some r → (∀ (H : Heap) (locs : List Loc) (ls : Array Slot), va_P z.1 vwCl (qw z B r.2.2 ++ Rr) H → va_D A0 (qw z B r.2.2 ++ Rr) → va_S A0 H0 H locs → lv_has ls 4 [(0, .ref (B 0)), (1, .int v1), (2, .int v2), (3, .int r.2.1)] → W p l e rm_Q_join s m args below meth c H locs 0 0 Q (F0 m r.1 ls [])) →
    ∀ (H : Heap) (locs : List Loc) (ls : Array Slot), va_P z.1 vwCl (qw z B S ++ Rr) H → va_D A0 (qw z B S ++ Rr) → va_S A0 H0 H locs → lv_has ls 4 [(0, .ref (B 0)), (1, .int v1), (2, .int v2), (3, .int v3)] → W p l e rm_Q_join s m args below meth c H locs 0 0 Q (F0 m 43 ls []) := by
  obtain ⟨hx, hb, hml, hown, hts, hK, hN⟩ := id hM
  intro v3 S r h hE
  refine zz_loop (G := fun (st : Int32 × ZQ) => ∀ (H : Heap) (locs : List Loc) (ls : Array Slot), va_P z.1 vwCl (qw z B st.2 ++ Rr) H → va_D A0 (qw z B st.2 ++ Rr) → va_S A0 H0 H locs → lv_has ls 4 [(0, .ref (B 0)), (1, .int v1), (2, .int v2), (3, .int st.1)] → W p l e rm_Q_join s m args below meth c H locs 0 0 Q (F0 m 43 ls [])) (E := fun (r : Nat × Int32 × ZQ) => ∀ (H : Heap) (locs : List Loc) (ls : Array Slot), va_P z.1 vwCl (qw z B r.2.2 ++ Rr) H → va_D A0 (qw z B r.2.2 ++ Rr) → va_S A0 H0 H locs → lv_has ls 4 [(0, .ref (B 0)), (1, .int v1), (2, .int v2), (3, .int r.2.1)] → W p l e rm_Q_join s m args below meth c H locs 0 0 Q (F0 m r.1 ls [])) ?_ n (v3, S) r h hE
  clear h hE r v3 S
  rintro ⟨v3, S⟩ o h hG hE H locs ls hP hD hS hl
  have h : st_Q_join_L43 n v1 v2 v3 S = some o := h
  have hl : lv_has ls 4 [(0, .ref (B 0)), (1, .int v1), (2, .int v2), (3, .int v3)] := hl
  have hP : va_P z.1 vwCl (qw z B S ++ Rr) H := hP
  have hD : va_D A0 (qw z B S ++ Rr) := hD
  unfold st_Q_join_L43 at h
  refine lv_iload_n hx hb d_Q_join_43 rfl (lv_at hl 3 rfl) ?_
  refine lv_aload_n hx hb d_Q_join_44 rfl (lv_at hl 0 rfl) ?_
  refine va_get (D := z.1) (ci := 5) (v := .ref (B 3)) (C := R_Q) (T := F_Q) (N := 28) hx hb hts i_Q hown hK hP 0 rfl rfl 4 (by decide) (hts _ wq_555) (fun _ h9 => h9) rfl d_Q_join_45 ?_
  refine lv_iload_n hx hb d_Q_join_48 rfl (lv_at hl 1 rfl) ?_
  obtain ⟨c_10, h⟩ := zz_oob h
  refine va_iald hx hb hK hP 3 0 rfl rfl c_10 d_Q_join_49 ?_
  refine lv_icmp_ge (tgt := 76) hx hb d_Q_join_50 (by decide) (fun c_11 => ?_) (fun c_11 => ?_)
  · replace h := zz_t c_11 h
    exact hE _ (Option.some.inj h).symm _ _ _ hP hD hS hl
  · replace h := zz_f c_11 h
    refine lv_aload_n hx hb d_Q_join_53 rfl (lv_at hl 0 rfl) ?_
    refine va_get (D := z.1) (ci := 5) (v := .ref (B 4)) (C := R_Q) (T := F_Q) (N := 28) hx hb hts i_Q hown hK hP 0 rfl rfl 5 (by decide) (hts _ wq_556) (fun _ h9 => h9) rfl d_Q_join_54 ?_
    refine lv_bipush (v := 32) hx hb d_Q_join_57 (by decide) ?_
    refine lv_iload_n hx hb d_Q_join_59 rfl (lv_at hl 1 rfl) ?_
    refine lv_imul hx hb d_Q_join_60 ?_
    refine lv_iload_n hx hb d_Q_join_61 rfl (lv_at hl 3 rfl) ?_
    refine lv_iadd hx hb d_Q_join_62 ?_
    obtain ⟨c_12, h⟩ := zz_oob h
    refine va_iald hx hb hK hP 4 0 rfl rfl c_12 d_Q_join_63 ?_
    refine lv_iload_n hx hb d_Q_join_64 rfl (lv_at hl 2 rfl) ?_
    refine lv_icmp_ne (tgt := 70) hx hb d_Q_join_65 (by decide) (fun c_13 => ?_) (fun c_13 => ?_)
    · replace h := zz_f c_13 h
      refine lv_iinc (v := (v3 + (1 : Int32))) (lv' := [(3, .int (v3 + (1 : Int32))), (0, .ref (B 0)), (1, .int v1), (2, .int v2)]) hx hb d_Q_join_70 hl (k := 3) rfl rfl (by decide) rfl (fun ls hl => ?_)
      refine lv_goto (tgt := 43) hx hb d_Q_join_73 (by decide) ?_
      exact hG _ (Option.some.inj h).symm _ _ _ hP hD hS (lv_sub hl [1, 2, 3, 0] rfl)
    · replace h := zz_t c_13 h
      exact hE _ (Option.some.inj h).symm _ _ _ hP hD hS hl

set_option maxRecDepth 100000 in
set_option maxHeartbeats 4000000 in
theorem k_Q_join (l : Launch) (z : zE) (B : Nat → Nat) (Rr : va_W) (n : Nat) (S : ZQ) (a1 : Int32) (a2 : Int32) (r0 : Int32) (S' : ZQ) (h : fx_Q_join n S a1 a2 = some (r0, S')) : zC z l y_Q_join w_Q_join rm_Q_join [.ref (B 0), .int a1, .int a2] (qw z B S ++ Rr) (some (.int r0)) (qw z B S' ++ Rr) := by
  refine zz_of (by decide) (Nat.le_of_ble_eq_true rfl) ?_
  intro p e s m args below meth c A0 ls hM hr hlocks hA hP hD hl
  have hM : zM z p s m args c b_Q_join 4 R_Q := hM
  obtain ⟨hx, hb, hml, hown, hts, hK, hN⟩ := id hM
  have hS : va_S A0 s.heap s.heap [] := va_S.rf
  have hl : lv_has ls 4 [(0, .ref (B 0)), (1, .int a1), (2, .int a2)] := hl
  unfold fx_Q_join at h
  refine lv_aload_n hx hb d_Q_join_0 rfl (lv_at hl 0 rfl) ?_
  refine lv_iconst (v := 0) hx hb d_Q_join_1 (by decide) ?_
  obtain ⟨S_1, e_1, h⟩ := zz_let h
  refine va_put (D := z.1) (ci := 5) (v := .int (0 : Int32)) (ty := .int) (C := R_Q) (T := F_Q) (N := 28) hx hb hts i_Q ty_Q ty_Q_ok n_Q hown hK hP hD hS 0 rfl rfl 0 (by decide) (hts _ wq_551) (fun _ h9 => h9) rfl (by decide +kernel) rfl rfl (Nat.le_of_ble_eq_true rfl) d_Q_join_2 (fun H locs hP hD hS => ?_)
  have hP : va_P z.1 vwCl (qw z B S_1 ++ Rr) H := by rw [e_1]; exact hP
  have hD : va_D A0 (qw z B S_1 ++ Rr) := by rw [e_1]; exact hD
  refine lv_aload_n hx hb d_Q_join_5 rfl (lv_at hl 0 rfl) ?_
  refine lv_iload_n hx hb d_Q_join_6 rfl (lv_at hl 1 rfl) ?_
  obtain ⟨r_2, S_2, e_2, h⟩ := zz_bind h
  refine zz_goI (zz_runV (As := [.int a1]) (rest := []) (k_Q_isOwn l z B Rr n _ _ _ _ e_2) ⟨hx, hb, hml, hown, hts⟩ (cwV 1 hts (zz_gV wq_644 wq_646 wp_18 wq_6 wq_647) rfl rfl rfl (by decide +kernel) ⟨Nat.le_of_ble_eq_true rfl, Nat.le_of_ble_eq_true rfl⟩) hK hN hP hD (va_recv hK hP (ci := 5) (q0 := 0) rfl rfl) rfl hl.1 rfl (Nat.le_of_ble_eq_true rfl) d_Q_join_7 ⟨Nat.le_of_ble_eq_true rfl, Nat.le_of_ble_eq_true rfl⟩) hD hS hA (fun H locs hP hD hS => ?_)
  refine lv_if_eq (tgt := 39) hx hb d_Q_join_10 (by decide) (fun c_3 => ?_) (fun c_3 => ?_)
  · replace h := zz_t c_3 h
    refine lv_iconst (v := 0) hx hb d_Q_join_39 (by decide) ?_
    exact zz_zret (fun S => qw z B S ++ Rr) hx hb hr hlocks hP hD hS rfl h d_Q_join_40
  · replace h := zz_f c_3 h
    refine lv_aload_n hx hb d_Q_join_13 rfl (lv_at hl 0 rfl) ?_
    refine lv_iload_n hx hb d_Q_join_14 rfl (lv_at hl 2 rfl) ?_
    obtain ⟨r_4, S_4, e_4, h⟩ := zz_bind h
    refine zz_goI (zz_runV (As := [.int a2]) (rest := []) (k_Q_isOwn l z B Rr n _ _ _ _ e_4) ⟨hx, hb, hml, hown, hts⟩ (cwV 1 hts (zz_gV wq_644 wq_646 wp_18 wq_6 wq_647) rfl rfl rfl (by decide +kernel) ⟨Nat.le_of_ble_eq_true rfl, Nat.le_of_ble_eq_true rfl⟩) hK hN hP hD (va_recv hK hP (ci := 5) (q0 := 0) rfl rfl) rfl hl.1 rfl (Nat.le_of_ble_eq_true rfl) d_Q_join_15 ⟨Nat.le_of_ble_eq_true rfl, Nat.le_of_ble_eq_true rfl⟩) hD hS hA (fun H locs hP hD hS => ?_)
    refine lv_if_eq (tgt := 39) hx hb d_Q_join_18 (by decide) (fun c_5 => ?_) (fun c_5 => ?_)
    · replace h := zz_t c_5 h
      refine lv_iconst (v := 0) hx hb d_Q_join_39 (by decide) ?_
      exact zz_zret (fun S => qw z B S ++ Rr) hx hb hr hlocks hP hD hS rfl h d_Q_join_40
    · replace h := zz_f c_5 h
      refine lv_aload_n hx hb d_Q_join_21 rfl (lv_at hl 0 rfl) ?_
      refine va_get (D := z.1) (ci := 5) (v := .ref (B 1)) (C := R_Q) (T := F_Q) (N := 28) hx hb hts i_Q hown hK hP 0 rfl rfl 2 (by decide) (hts _ wq_553) (fun _ h9 => h9) rfl d_Q_join_22 ?_
      refine lv_iload_n hx hb d_Q_join_25 rfl (lv_at hl 2 rfl) ?_
      obtain ⟨c_6, h⟩ := zz_oob h
      refine va_zald hx hb hK hP 1 1 rfl rfl c_6 d_Q_join_26 ?_
      refine lv_if_eq (tgt := 39) hx hb d_Q_join_27 (by decide) (fun c_7 => ?_) (fun c_7 => ?_)
      · replace h := zz_t c_7 h
        refine lv_iconst (v := 0) hx hb d_Q_join_39 (by decide) ?_
        exact zz_zret (fun S => qw z B S ++ Rr) hx hb hr hlocks hP hD hS rfl h d_Q_join_40
      · replace h := zz_f c_7 h
        refine lv_aload_n hx hb d_Q_join_30 rfl (lv_at hl 0 rfl) ?_
        refine lv_iload_n hx hb d_Q_join_31 rfl (lv_at hl 2 rfl) ?_
        refine lv_iload_n hx hb d_Q_join_32 rfl (lv_at hl 1 rfl) ?_
        obtain ⟨r_8, S_8, e_8, h⟩ := zz_bind h
        refine zz_goI (zz_runV (As := [.int a2, .int a1]) (rest := []) (k_Q_isUnder l z B Rr n _ _ _ _ _ e_8) ⟨hx, hb, hml, hown, hts⟩ (cwV 2 hts (zz_gV wq_664 wq_666 wp_21 wq_6 wq_667) rfl rfl rfl (by decide +kernel) ⟨Nat.le_of_ble_eq_true rfl, Nat.le_of_ble_eq_true rfl⟩) hK hN hP hD (va_recv hK hP (ci := 5) (q0 := 0) rfl rfl) rfl hl.1 rfl (Nat.le_of_ble_eq_true rfl) d_Q_join_33 ⟨Nat.le_of_ble_eq_true rfl, Nat.le_of_ble_eq_true rfl⟩) hD hS hA (fun H locs hP hD hS => ?_)
        refine lv_if_eq (tgt := 41) hx hb d_Q_join_36 (by decide) (fun c_9 => ?_) (fun c_9 => ?_)
        · replace h := zz_t c_9 h
          refine lv_iconst (v := 0) hx hb d_Q_join_41 (by decide) ?_
          refine lv_istore_n (lv' := [(3, .int (0 : Int32)), (0, .ref (B 0)), (1, .int a1), (2, .int a2)]) hx hb d_Q_join_42 rfl hl (by decide) rfl (fun ls hl => ?_)
          replace h := zz_bL2 h
          obtain ⟨x_14, v3_14, S_14, e_14, h⟩ := h
          refine lp_Q_join_L43 hM hA n a1 a2 _ _ _ e_14 ?_ _ _ _ hP hD hS (lv_sub hl [1, 2, 3, 0] rfl)
          intro H locs ls hP hD hS hl
          have hl : lv_has ls 4 [(0, .ref (B 0)), (1, .int a1), (2, .int a2), (3, .int v3_14)] := hl
          have hP : va_P z.1 vwCl (qw z B S_14 ++ Rr) H := hP
          have hD : va_D A0 (qw z B S_14 ++ Rr) := hD
          by_cases c_14 : x_14 = 68
          · replace h := zz_t c_14 h
            subst c_14
            refine W.eq (g2 := F0 m 68 ls []) rfl ?_
            refine lv_iconst (v := 0) hx hb d_Q_join_68 (by decide) ?_
            exact zz_zret (fun S => qw z B S ++ Rr) hx hb hr hlocks hP hD hS rfl h d_Q_join_69
          replace h := zz_f c_14 h
          replace h := zz_grd h
          obtain ⟨c_14, h⟩ := h
          subst c_14
          refine W.eq (g2 := F0 m 76 ls []) rfl ?_
          refine lv_aload_n hx hb d_Q_join_76 rfl (lv_at hl 0 rfl) ?_
          refine va_get (D := z.1) (ci := 5) (v := .ref (B 4)) (C := R_Q) (T := F_Q) (N := 28) hx hb hts i_Q hown hK hP 0 rfl rfl 5 (by decide) (hts _ wq_556) (fun _ h9 => h9) rfl d_Q_join_77 ?_
          refine lv_bipush (v := 32) hx hb d_Q_join_80 (by decide) ?_
          refine lv_iload_n hx hb d_Q_join_82 rfl (lv_at hl 1 rfl) ?_
          refine lv_imul hx hb d_Q_join_83 ?_
          refine lv_aload_n hx hb d_Q_join_84 rfl (lv_at hl 0 rfl) ?_
          refine va_get (D := z.1) (ci := 5) (v := .ref (B 3)) (C := R_Q) (T := F_Q) (N := 28) hx hb hts i_Q hown hK hP 0 rfl rfl 4 (by decide) (hts _ wq_555) (fun _ h9 => h9) rfl d_Q_join_85 ?_
          refine lv_iload_n hx hb d_Q_join_88 rfl (lv_at hl 1 rfl) ?_
          obtain ⟨c_15, h⟩ := zz_oob h
          refine va_iald hx hb hK hP 3 0 rfl rfl c_15 d_Q_join_89 ?_
          refine lv_iadd hx hb d_Q_join_90 ?_
          refine lv_iload_n hx hb d_Q_join_91 rfl (lv_at hl 2 rfl) ?_
          obtain ⟨c_16, h⟩ := zz_oob h
          obtain ⟨S_17, e_17, h⟩ := zz_let h
          refine va_iast hx hb hK hP hD hS 4 0 rfl rfl c_16 d_Q_join_92 (fun H locs hP hD hS => ?_)
          have hP : va_P z.1 vwCl (qw z B S_17 ++ Rr) H := by rw [e_17]; exact hP
          have hD : va_D A0 (qw z B S_17 ++ Rr) := by rw [e_17]; exact hD
          refine lv_aload_n hx hb d_Q_join_93 rfl (lv_at hl 0 rfl) ?_
          refine va_get (D := z.1) (ci := 5) (v := .ref (B 3)) (C := R_Q) (T := F_Q) (N := 28) hx hb hts i_Q hown hK hP 0 rfl rfl 4 (by decide) (hts _ wq_555) (fun _ h9 => h9) rfl d_Q_join_94 ?_
          refine lv_iload_n hx hb d_Q_join_97 rfl (lv_at hl 1 rfl) ?_
          refine lv_dup2_11 hx hb d_Q_join_98 rfl rfl ?_
          obtain ⟨c_18, h⟩ := zz_oob h
          refine va_iald hx hb hK hP 3 0 rfl rfl c_18 d_Q_join_99 ?_
          refine lv_iconst (v := 1) hx hb d_Q_join_100 (by decide) ?_
          refine lv_iadd hx hb d_Q_join_101 ?_
          obtain ⟨c_19, h⟩ := zz_oob h
          obtain ⟨S_20, e_20, h⟩ := zz_let h
          refine va_iast hx hb hK hP hD hS 3 0 rfl rfl c_19 d_Q_join_102 (fun H locs hP hD hS => ?_)
          have hP : va_P z.1 vwCl (qw z B S_20 ++ Rr) H := by rw [e_20]; exact hP
          have hD : va_D A0 (qw z B S_20 ++ Rr) := by rw [e_20]; exact hD
          refine lv_aload_n hx hb d_Q_join_103 rfl (lv_at hl 0 rfl) ?_
          refine lv_iconst (v := 0) hx hb d_Q_join_104 (by decide) ?_
          obtain ⟨S_21, e_21, h⟩ := zz_let h
          refine va_put (D := z.1) (ci := 5) (v := .int (0 : Int32)) (ty := .int) (C := R_Q) (T := F_Q) (N := 28) hx hb hts i_Q ty_Q ty_Q_ok n_Q hown hK hP hD hS 0 rfl rfl 12 (by decide) (hts _ wq_563) (fun _ h9 => h9) rfl (by decide +kernel) rfl rfl (Nat.le_of_ble_eq_true rfl) d_Q_join_105 (fun H locs hP hD hS => ?_)
          have hP : va_P z.1 vwCl (qw z B S_21 ++ Rr) H := by rw [e_21]; exact hP
          have hD : va_D A0 (qw z B S_21 ++ Rr) := by rw [e_21]; exact hD
          refine lv_iconst (v := 1) hx hb d_Q_join_108 (by decide) ?_
          exact zz_zret (fun S => qw z B S ++ Rr) hx hb hr hlocks hP hD hS rfl h d_Q_join_109
        · replace h := zz_f c_9 h
          refine lv_iconst (v := 0) hx hb d_Q_join_39 (by decide) ?_
          exact zz_zret (fun S => qw z B S ++ Rr) hx hb hr hlocks hP hD hS rfl h d_Q_join_40

abbrev b_Q_areSame : ByteArray := prog_7_method_13_code
abbrev y_Q_areSame : MethodName := ⟨"MemberChooserModel", "areSame", "(II)Z"⟩
abbrev w_Q_areSame : List Cond := Cond.code y_Q_areSame b_Q_areSame 5 (some .boolean) :: zTb
theorem d_Q_areSame_0 : decode b_Q_areSame 0 = .ok (.aload_n 0, 1) := by decide +kernel
theorem d_Q_areSame_1 : decode b_Q_areSame 1 = .ok (.getfield 33, 3) := by decide +kernel
theorem d_Q_areSame_4 : decode b_Q_areSame 4 = .ok (.iload_n 1, 1) := by decide +kernel
theorem d_Q_areSame_5 : decode b_Q_areSame 5 = .ok (.iaload, 1) := by decide +kernel
theorem d_Q_areSame_6 : decode b_Q_areSame 6 = .ok (.aload_n 0, 1) := by decide +kernel
theorem d_Q_areSame_7 : decode b_Q_areSame 7 = .ok (.getfield 33, 3) := by decide +kernel
theorem d_Q_areSame_10 : decode b_Q_areSame 10 = .ok (.iload_n 2, 1) := by decide +kernel
theorem d_Q_areSame_11 : decode b_Q_areSame 11 = .ok (.iaload, 1) := by decide +kernel
theorem d_Q_areSame_12 : decode b_Q_areSame 12 = .ok (.if_icmp .ne 7, 3) := by decide +kernel
theorem d_Q_areSame_15 : decode b_Q_areSame 15 = .ok (.iconst 1, 1) := by decide +kernel
theorem d_Q_areSame_16 : decode b_Q_areSame 16 = .ok (.goto 4, 3) := by decide +kernel
theorem d_Q_areSame_19 : decode b_Q_areSame 19 = .ok (.iconst 0, 1) := by decide +kernel
theorem d_Q_areSame_20 : decode b_Q_areSame 20 = .ok (.istore_n 3, 1) := by decide +kernel
theorem d_Q_areSame_21 : decode b_Q_areSame 21 = .ok (.iconst 0, 1) := by decide +kernel
theorem d_Q_areSame_22 : decode b_Q_areSame 22 = .ok (.istore 4, 2) := by decide +kernel
theorem d_Q_areSame_24 : decode b_Q_areSame 24 = .ok (.iload 4, 2) := by decide +kernel
theorem d_Q_areSame_26 : decode b_Q_areSame 26 = .ok (.aload_n 0, 1) := by decide +kernel
theorem d_Q_areSame_27 : decode b_Q_areSame 27 = .ok (.getfield 33, 3) := by decide +kernel
theorem d_Q_areSame_30 : decode b_Q_areSame 30 = .ok (.iload_n 1, 1) := by decide +kernel
theorem d_Q_areSame_31 : decode b_Q_areSame 31 = .ok (.iaload, 1) := by decide +kernel
theorem d_Q_areSame_32 : decode b_Q_areSame 32 = .ok (.if_icmp .ge 44, 3) := by decide +kernel
theorem d_Q_areSame_35 : decode b_Q_areSame 35 = .ok (.iload_n 3, 1) := by decide +kernel
theorem d_Q_areSame_36 : decode b_Q_areSame 36 = .ok (.ifCond .eq 40, 3) := by decide +kernel
theorem d_Q_areSame_39 : decode b_Q_areSame 39 = .ok (.aload_n 0, 1) := by decide +kernel
theorem d_Q_areSame_40 : decode b_Q_areSame 40 = .ok (.getfield 36, 3) := by decide +kernel
theorem d_Q_areSame_43 : decode b_Q_areSame 43 = .ok (.iconst 4, 1) := by decide +kernel
theorem d_Q_areSame_44 : decode b_Q_areSame 44 = .ok (.iload_n 1, 1) := by decide +kernel
theorem d_Q_areSame_45 : decode b_Q_areSame 45 = .ok (.imul, 1) := by decide +kernel
theorem d_Q_areSame_46 : decode b_Q_areSame 46 = .ok (.iload 4, 2) := by decide +kernel
theorem d_Q_areSame_48 : decode b_Q_areSame 48 = .ok (.iadd, 1) := by decide +kernel
theorem d_Q_areSame_49 : decode b_Q_areSame 49 = .ok (.iaload, 1) := by decide +kernel
theorem d_Q_areSame_50 : decode b_Q_areSame 50 = .ok (.aload_n 0, 1) := by decide +kernel
theorem d_Q_areSame_51 : decode b_Q_areSame 51 = .ok (.getfield 36, 3) := by decide +kernel
theorem d_Q_areSame_54 : decode b_Q_areSame 54 = .ok (.iconst 4, 1) := by decide +kernel
theorem d_Q_areSame_55 : decode b_Q_areSame 55 = .ok (.iload_n 2, 1) := by decide +kernel
theorem d_Q_areSame_56 : decode b_Q_areSame 56 = .ok (.imul, 1) := by decide +kernel
theorem d_Q_areSame_57 : decode b_Q_areSame 57 = .ok (.iload 4, 2) := by decide +kernel
theorem d_Q_areSame_59 : decode b_Q_areSame 59 = .ok (.iadd, 1) := by decide +kernel
theorem d_Q_areSame_60 : decode b_Q_areSame 60 = .ok (.iaload, 1) := by decide +kernel
theorem d_Q_areSame_61 : decode b_Q_areSame 61 = .ok (.if_icmp .ne 7, 3) := by decide +kernel
theorem d_Q_areSame_64 : decode b_Q_areSame 64 = .ok (.iconst 1, 1) := by decide +kernel
theorem d_Q_areSame_65 : decode b_Q_areSame 65 = .ok (.goto 4, 3) := by decide +kernel
theorem d_Q_areSame_68 : decode b_Q_areSame 68 = .ok (.iconst 0, 1) := by decide +kernel
theorem d_Q_areSame_69 : decode b_Q_areSame 69 = .ok (.istore_n 3, 1) := by decide +kernel
theorem d_Q_areSame_70 : decode b_Q_areSame 70 = .ok (.iinc 4 1, 3) := by decide +kernel
theorem d_Q_areSame_73 : decode b_Q_areSame 73 = .ok (.goto (-49), 3) := by decide +kernel
theorem d_Q_areSame_76 : decode b_Q_areSame 76 = .ok (.iload_n 3, 1) := by decide +kernel
theorem d_Q_areSame_77 : decode b_Q_areSame 77 = .ok (.ireturn, 1) := by decide +kernel
abbrev rm_Q_areSame : Room := { frames := 0, cells := 0, slots := 0, locals := 0 }
def st_Q_areSame_L24 (n : Nat) (v1 : Int32) (v2 : Int32) (v3 : Int32) (v4 : Int32) (S : ZQ) : Option ((Int32 × Int32 × ZQ) ⊕ (Nat × Int32 × Int32 × ZQ)) :=
  (if zoob v1 80 then none else
  (if ((qMa S) v1.toNatClampNeg) ≤ v4 then
  some (.inr (76, v3, v4, S))
  else
  (if v3 = 0 then
    some (.inr (76, v3, v4, S))
    else
    (if zoob (((4 : Int32) * v1) + v4) 320 then none else
      (if zoob (((4 : Int32) * v2) + v4) 320 then none else
      (if ((qPa S) (((4 : Int32) * v1) + v4).toNatClampNeg) = ((qPa S) (((4 : Int32) * v2) + v4).toNatClampNeg) then
      some (.inl ((1 : Int32), (v4 + (1 : Int32)), S))
      else
      some (.inl ((0 : Int32), (v4 + (1 : Int32)), S))))))))

def fx_Q_areSame_L24 (n : Nat) (v1 : Int32) (v2 : Int32) (v3 : Int32) (v4 : Int32) (S : ZQ) : Option (Nat × Int32 × Int32 × ZQ) := zloop (fun (st : Int32 × Int32 × ZQ) => st_Q_areSame_L24 n v1 v2 st.1 st.2.1 st.2.2) n (v3, v4, S)

def fx_Q_areSame (n : Nat) (S : ZQ) (a1 : Int32) (a2 : Int32) : Option (Int32 × ZQ) :=
  (if zoob a1 80 then none else
  (if zoob a2 80 then none else
  (if ((qMa S) a1.toNatClampNeg) = ((qMa S) a2.toNatClampNeg) then
  zbL3 (fx_Q_areSame_L24 n a1 a2 (1 : Int32) (0 : Int32) S) (fun x_12 v3_12 v4_12 S_12 =>
    if x_12 = 76 then
    (if v3_12 = 0 ∨ v3_12 = 1 then some (v3_12, S_12) else none)
    else none)
  else
  zbL3 (fx_Q_areSame_L24 n a1 a2 (0 : Int32) (0 : Int32) S) (fun x_10 v3_10 v4_10 S_10 =>
    if x_10 = 76 then
    (if v3_10 = 0 ∨ v3_10 = 1 then some (v3_10, S_10) else none)
    else none))))

set_option maxRecDepth 100000 in
set_option maxHeartbeats 4000000 in
theorem lp_Q_areSame_L24 {z : zE} {B : Nat → Nat} {Rr : va_W} {p : Program} {l : Launch} {e : Env} {s : State} {m : MethodId} {args : Array Value} {below : List Frame} {meth : Method} {c : Code} {Q : State → Prop} {H0 : Heap} {A0 : Nat → Prop} (hM : zM z p s m args c b_Q_areSame 5 R_Q) (hA : ∀ q : Nat, H0.size ≤ q → A0 q) (n : Nat) (v1 : Int32) (v2 : Int32) :
    ∀ (v3 : Int32) (v4 : Int32) (S : ZQ) (r : Nat × Int32 × Int32 × ZQ), fx_Q_areSame_L24 n v1 v2 v3 v4 S = some r → (∀ (H : Heap) (locs : List Loc) (ls : Array Slot), va_P z.1 vwCl (qw z B r.2.2.2 ++ Rr) H → va_D A0 (qw z B r.2.2.2 ++ Rr) → va_S A0 H0 H locs → lv_has ls 5 [(0, .ref (B 0)), (1, .int v1), (2, .int v2), (3, .int r.2.1), (4, .int r.2.2.1)] → W p l e rm_Q_areSame s m args below meth c H locs 0 0 Q (F0 m r.1 ls [])) →
    ∀ (H : Heap) (locs : List Loc) (ls : Array Slot), va_P z.1 vwCl (qw z B S ++ Rr) H → va_D A0 (qw z B S ++ Rr) → va_S A0 H0 H locs → lv_has ls 5 [(0, .ref (B 0)), (1, .int v1), (2, .int v2), (3, .int v3), (4, .int v4)] → W p l e rm_Q_areSame s m args below meth c H locs 0 0 Q (F0 m 24 ls []) := by
  obtain ⟨hx, hb, hml, hown, hts, hK, hN⟩ := id hM
  intro v3 v4 S r h hE
  refine zz_loop (G := fun (st : Int32 × Int32 × ZQ) => ∀ (H : Heap) (locs : List Loc) (ls : Array Slot), va_P z.1 vwCl (qw z B st.2.2 ++ Rr) H → va_D A0 (qw z B st.2.2 ++ Rr) → va_S A0 H0 H locs → lv_has ls 5 [(0, .ref (B 0)), (1, .int v1), (2, .int v2), (3, .int st.1), (4, .int st.2.1)] → W p l e rm_Q_areSame s m args below meth c H locs 0 0 Q (F0 m 24 ls [])) (E := fun (r : Nat × Int32 × Int32 × ZQ) => ∀ (H : Heap) (locs : List Loc) (ls : Array Slot), va_P z.1 vwCl (qw z B r.2.2.2 ++ Rr) H → va_D A0 (qw z B r.2.2.2 ++ Rr) → va_S A0 H0 H locs → lv_has ls 5 [(0, .ref (B 0)), (1, .int v1), (2, .int v2), (3, .int r.2.1), (4, .int r.2.2.1)] → W p l e rm_Q_areSame s m args below meth c H locs 0 0 Q (F0 m r.1 ls [])) ?_ n (v3, v4, S) r h hE
  clear h hE r v3 v4 S
  rintro ⟨v3, v4, S⟩ o h hG hE H locs ls hP hD hS hl
  have h : st_Q_areSame_L24 n v1 v2 v3 v4 S = some o := h
  have hl : lv_has ls 5 [(0, .ref (B 0)), (1, .int v1), (2, .int v2), (3, .int v3), (4, .int v4)] := hl
  have hP : va_P z.1 vwCl (qw z B S ++ Rr) H := hP
  have hD : va_D A0 (qw z B S ++ Rr) := hD
  unfold st_Q_areSame_L24 at h
  refine lv_iload hx hb d_Q_areSame_24 (lv_at hl 4 rfl) ?_
  refine lv_aload_n hx hb d_Q_areSame_26 rfl (lv_at hl 0 rfl) ?_
  refine va_get (D := z.1) (ci := 5) (v := .ref (B 7)) (C := R_Q) (T := F_Q) (N := 28) hx hb hts i_Q hown hK hP 0 rfl rfl 9 (by decide) (hts _ wq_560) (fun _ h9 => h9) rfl d_Q_areSame_27 ?_
  refine lv_iload_n hx hb d_Q_areSame_30 rfl (lv_at hl 1 rfl) ?_
  obtain ⟨c_4, h⟩ := zz_oob h
  refine va_iald hx hb hK hP 7 0 rfl rfl c_4 d_Q_areSame_31 ?_
  refine lv_icmp_ge (tgt := 76) hx hb d_Q_areSame_32 (by decide) (fun c_5 => ?_) (fun c_5 => ?_)
  · replace h := zz_t c_5 h
    exact hE _ (Option.some.inj h).symm _ _ _ hP hD hS hl
  · replace h := zz_f c_5 h
    refine lv_iload_n hx hb d_Q_areSame_35 rfl (lv_at hl 3 rfl) ?_
    refine lv_if_eq (tgt := 76) hx hb d_Q_areSame_36 (by decide) (fun c_6 => ?_) (fun c_6 => ?_)
    · replace h := zz_t c_6 h
      exact hE _ (Option.some.inj h).symm _ _ _ hP hD hS hl
    · replace h := zz_f c_6 h
      refine lv_aload_n hx hb d_Q_areSame_39 rfl (lv_at hl 0 rfl) ?_
      refine va_get (D := z.1) (ci := 5) (v := .ref (B 8)) (C := R_Q) (T := F_Q) (N := 28) hx hb hts i_Q hown hK hP 0 rfl rfl 10 (by decide) (hts _ wq_561) (fun _ h9 => h9) rfl d_Q_areSame_40 ?_
      refine lv_iconst (v := 4) hx hb d_Q_areSame_43 (by decide) ?_
      refine lv_iload_n hx hb d_Q_areSame_44 rfl (lv_at hl 1 rfl) ?_
      refine lv_imul hx hb d_Q_areSame_45 ?_
      refine lv_iload hx hb d_Q_areSame_46 (lv_at hl 4 rfl) ?_
      refine lv_iadd hx hb d_Q_areSame_48 ?_
      obtain ⟨c_7, h⟩ := zz_oob h
      refine va_iald hx hb hK hP 8 0 rfl rfl c_7 d_Q_areSame_49 ?_
      refine lv_aload_n hx hb d_Q_areSame_50 rfl (lv_at hl 0 rfl) ?_
      refine va_get (D := z.1) (ci := 5) (v := .ref (B 8)) (C := R_Q) (T := F_Q) (N := 28) hx hb hts i_Q hown hK hP 0 rfl rfl 10 (by decide) (hts _ wq_561) (fun _ h9 => h9) rfl d_Q_areSame_51 ?_
      refine lv_iconst (v := 4) hx hb d_Q_areSame_54 (by decide) ?_
      refine lv_iload_n hx hb d_Q_areSame_55 rfl (lv_at hl 2 rfl) ?_
      refine lv_imul hx hb d_Q_areSame_56 ?_
      refine lv_iload hx hb d_Q_areSame_57 (lv_at hl 4 rfl) ?_
      refine lv_iadd hx hb d_Q_areSame_59 ?_
      obtain ⟨c_8, h⟩ := zz_oob h
      refine va_iald hx hb hK hP 8 0 rfl rfl c_8 d_Q_areSame_60 ?_
      refine lv_icmp_ne (tgt := 68) hx hb d_Q_areSame_61 (by decide) (fun c_9 => ?_) (fun c_9 => ?_)
      · replace h := zz_f c_9 h
        refine lv_iconst (v := 0) hx hb d_Q_areSame_68 (by decide) ?_
        refine lv_istore_n (lv' := [(3, .int (0 : Int32)), (0, .ref (B 0)), (1, .int v1), (2, .int v2), (4, .int v4)]) hx hb d_Q_areSame_69 rfl hl (by decide) rfl (fun ls hl => ?_)
        refine lv_iinc (v := (v4 + (1 : Int32))) (lv' := [(4, .int (v4 + (1 : Int32))), (3, .int (0 : Int32)), (0, .ref (B 0)), (1, .int v1), (2, .int v2)]) hx hb d_Q_areSame_70 hl (k := 4) rfl rfl (by decide) rfl (fun ls hl => ?_)
        refine lv_goto (tgt := 24) hx hb d_Q_areSame_73 (by decide) ?_
        exact hG _ (Option.some.inj h).symm _ _ _ hP hD hS (lv_sub hl [2, 3, 4, 1, 0] rfl)
      · replace h := zz_t c_9 h
        refine lv_iconst (v := 1) hx hb d_Q_areSame_64 (by decide) ?_
        refine lv_goto (tgt := 69) hx hb d_Q_areSame_65 (by decide) ?_
        refine lv_istore_n (lv' := [(3, .int (1 : Int32)), (0, .ref (B 0)), (1, .int v1), (2, .int v2), (4, .int v4)]) hx hb d_Q_areSame_69 rfl hl (by decide) rfl (fun ls hl => ?_)
        refine lv_iinc (v := (v4 + (1 : Int32))) (lv' := [(4, .int (v4 + (1 : Int32))), (3, .int (1 : Int32)), (0, .ref (B 0)), (1, .int v1), (2, .int v2)]) hx hb d_Q_areSame_70 hl (k := 4) rfl rfl (by decide) rfl (fun ls hl => ?_)
        refine lv_goto (tgt := 24) hx hb d_Q_areSame_73 (by decide) ?_
        exact hG _ (Option.some.inj h).symm _ _ _ hP hD hS (lv_sub hl [2, 3, 4, 1, 0] rfl)

set_option maxRecDepth 100000 in
set_option maxHeartbeats 4000000 in
theorem k_Q_areSame (l : Launch) (z : zE) (B : Nat → Nat) (Rr : va_W) (n : Nat) (S : ZQ) (a1 : Int32) (a2 : Int32) (r0 : Int32) (S' : ZQ) (h : fx_Q_areSame n S a1 a2 = some (r0, S')) : zC z l y_Q_areSame w_Q_areSame rm_Q_areSame [.ref (B 0), .int a1, .int a2] (qw z B S ++ Rr) (some (.int r0)) (qw z B S' ++ Rr) := by
  refine zz_of (by decide) (Nat.le_of_ble_eq_true rfl) ?_
  intro p e s m args below meth c A0 ls hM hr hlocks hA hP hD hl
  have hM : zM z p s m args c b_Q_areSame 5 R_Q := hM
  obtain ⟨hx, hb, hml, hown, hts, hK, hN⟩ := id hM
  have hS : va_S A0 s.heap s.heap [] := va_S.rf
  have hl : lv_has ls 5 [(0, .ref (B 0)), (1, .int a1), (2, .int a2)] := hl
  unfold fx_Q_areSame at h
  refine lv_aload_n hx hb d_Q_areSame_0 rfl (lv_at hl 0 rfl) ?_
  refine va_get (D := z.1) (ci := 5) (v := .ref (B 7)) (C := R_Q) (T := F_Q) (N := 28) hx hb hts i_Q hown hK hP 0 rfl rfl 9 (by decide) (hts _ wq_560) (fun _ h9 => h9) rfl d_Q_areSame_1 ?_
  refine lv_iload_n hx hb d_Q_areSame_4 rfl (lv_at hl 1 rfl) ?_
  obtain ⟨c_1, h⟩ := zz_oob h
  refine va_iald hx hb hK hP 7 0 rfl rfl c_1 d_Q_areSame_5 ?_
  refine lv_aload_n hx hb d_Q_areSame_6 rfl (lv_at hl 0 rfl) ?_
  refine va_get (D := z.1) (ci := 5) (v := .ref (B 7)) (C := R_Q) (T := F_Q) (N := 28) hx hb hts i_Q hown hK hP 0 rfl rfl 9 (by decide) (hts _ wq_560) (fun _ h9 => h9) rfl d_Q_areSame_7 ?_
  refine lv_iload_n hx hb d_Q_areSame_10 rfl (lv_at hl 2 rfl) ?_
  obtain ⟨c_2, h⟩ := zz_oob h
  refine va_iald hx hb hK hP 7 0 rfl rfl c_2 d_Q_areSame_11 ?_
  refine lv_icmp_ne (tgt := 19) hx hb d_Q_areSame_12 (by decide) (fun c_3 => ?_) (fun c_3 => ?_)
  · replace h := zz_f c_3 h
    refine lv_iconst (v := 0) hx hb d_Q_areSame_19 (by decide) ?_
    refine lv_istore_n (lv' := [(3, .int (0 : Int32)), (0, .ref (B 0)), (1, .int a1), (2, .int a2)]) hx hb d_Q_areSame_20 rfl hl (by decide) rfl (fun ls hl => ?_)
    refine lv_iconst (v := 0) hx hb d_Q_areSame_21 (by decide) ?_
    refine lv_istore (lv' := [(4, .int (0 : Int32)), (3, .int (0 : Int32)), (0, .ref (B 0)), (1, .int a1), (2, .int a2)]) hx hb d_Q_areSame_22 hl (by decide) rfl (fun ls hl => ?_)
    replace h := zz_bL3 h
    obtain ⟨x_10, v3_10, v4_10, S_10, e_10, h⟩ := h
    refine lp_Q_areSame_L24 hM hA n a1 a2 _ _ _ _ e_10 ?_ _ _ _ hP hD hS (lv_sub hl [2, 3, 4, 1, 0] rfl)
    intro H locs ls hP hD hS hl
    have hl : lv_has ls 5 [(0, .ref (B 0)), (1, .int a1), (2, .int a2), (3, .int v3_10), (4, .int v4_10)] := hl
    have hP : va_P z.1 vwCl (qw z B S_10 ++ Rr) H := hP
    have hD : va_D A0 (qw z B S_10 ++ Rr) := hD
    replace h := zz_grd h
    obtain ⟨c_10, h⟩ := h
    subst c_10
    refine W.eq (g2 := F0 m 76 ls []) rfl ?_
    refine lv_iload_n hx hb d_Q_areSame_76 rfl (lv_at hl 3 rfl) ?_
    obtain ⟨c_11, h⟩ := zz_grd h
    exact zz_zret (fun S => qw z B S ++ Rr) hx hb hr hlocks hP hD hS (zz_bool c_11) h d_Q_areSame_77
  · replace h := zz_t c_3 h
    refine lv_iconst (v := 1) hx hb d_Q_areSame_15 (by decide) ?_
    refine lv_goto (tgt := 20) hx hb d_Q_areSame_16 (by decide) ?_
    refine lv_istore_n (lv' := [(3, .int (1 : Int32)), (0, .ref (B 0)), (1, .int a1), (2, .int a2)]) hx hb d_Q_areSame_20 rfl hl (by decide) rfl (fun ls hl => ?_)
    refine lv_iconst (v := 0) hx hb d_Q_areSame_21 (by decide) ?_
    refine lv_istore (lv' := [(4, .int (0 : Int32)), (3, .int (1 : Int32)), (0, .ref (B 0)), (1, .int a1), (2, .int a2)]) hx hb d_Q_areSame_22 hl (by decide) rfl (fun ls hl => ?_)
    replace h := zz_bL3 h
    obtain ⟨x_12, v3_12, v4_12, S_12, e_12, h⟩ := h
    refine lp_Q_areSame_L24 hM hA n a1 a2 _ _ _ _ e_12 ?_ _ _ _ hP hD hS (lv_sub hl [2, 3, 4, 1, 0] rfl)
    intro H locs ls hP hD hS hl
    have hl : lv_has ls 5 [(0, .ref (B 0)), (1, .int a1), (2, .int a2), (3, .int v3_12), (4, .int v4_12)] := hl
    have hP : va_P z.1 vwCl (qw z B S_12 ++ Rr) H := hP
    have hD : va_D A0 (qw z B S_12 ++ Rr) := hD
    replace h := zz_grd h
    obtain ⟨c_12, h⟩ := h
    subst c_12
    refine W.eq (g2 := F0 m 76 ls []) rfl ?_
    refine lv_iload_n hx hb d_Q_areSame_76 rfl (lv_at hl 3 rfl) ?_
    obtain ⟨c_13, h⟩ := zz_grd h
    exact zz_zret (fun S => qw z B S ++ Rr) hx hb hr hlocks hP hD hS (zz_bool c_13) h d_Q_areSame_77

abbrev b_Q_move : ByteArray := prog_7_method_16_code
abbrev y_Q_move : MethodName := ⟨"MemberChooserModel", "move", "(II)V"⟩
abbrev w_Q_move : List Cond := Cond.code y_Q_move b_Q_move 3 none :: zTb
theorem d_Q_move_0 : decode b_Q_move 0 = .ok (.aload_n 0, 1) := by decide +kernel
theorem d_Q_move_1 : decode b_Q_move 1 = .ok (.getfield 42, 3) := by decide +kernel
theorem d_Q_move_4 : decode b_Q_move 4 = .ok (.iload_n 2, 1) := by decide +kernel
theorem d_Q_move_5 : decode b_Q_move 5 = .ok (.aload_n 0, 1) := by decide +kernel
theorem d_Q_move_6 : decode b_Q_move 6 = .ok (.getfield 42, 3) := by decide +kernel
theorem d_Q_move_9 : decode b_Q_move 9 = .ok (.iload_n 1, 1) := by decide +kernel
theorem d_Q_move_10 : decode b_Q_move 10 = .ok (.iaload, 1) := by decide +kernel
theorem d_Q_move_11 : decode b_Q_move 11 = .ok (.iastore, 1) := by decide +kernel
theorem d_Q_move_12 : decode b_Q_move 12 = .ok (.aload_n 0, 1) := by decide +kernel
theorem d_Q_move_13 : decode b_Q_move 13 = .ok (.getfield 45, 3) := by decide +kernel
theorem d_Q_move_16 : decode b_Q_move 16 = .ok (.iload_n 2, 1) := by decide +kernel
theorem d_Q_move_17 : decode b_Q_move 17 = .ok (.aload_n 0, 1) := by decide +kernel
theorem d_Q_move_18 : decode b_Q_move 18 = .ok (.getfield 45, 3) := by decide +kernel
theorem d_Q_move_21 : decode b_Q_move 21 = .ok (.iload_n 1, 1) := by decide +kernel
theorem d_Q_move_22 : decode b_Q_move 22 = .ok (.iaload, 1) := by decide +kernel
theorem d_Q_move_23 : decode b_Q_move 23 = .ok (.iastore, 1) := by decide +kernel
theorem d_Q_move_24 : decode b_Q_move 24 = .ok (.aload_n 0, 1) := by decide +kernel
theorem d_Q_move_25 : decode b_Q_move 25 = .ok (.getfield 48, 3) := by decide +kernel
theorem d_Q_move_28 : decode b_Q_move 28 = .ok (.iload_n 2, 1) := by decide +kernel
theorem d_Q_move_29 : decode b_Q_move 29 = .ok (.aload_n 0, 1) := by decide +kernel
theorem d_Q_move_30 : decode b_Q_move 30 = .ok (.getfield 48, 3) := by decide +kernel
theorem d_Q_move_33 : decode b_Q_move 33 = .ok (.iload_n 1, 1) := by decide +kernel
theorem d_Q_move_34 : decode b_Q_move 34 = .ok (.iaload, 1) := by decide +kernel
theorem d_Q_move_35 : decode b_Q_move 35 = .ok (.iastore, 1) := by decide +kernel
theorem d_Q_move_36 : decode b_Q_move 36 = .ok (.aload_n 0, 1) := by decide +kernel
theorem d_Q_move_37 : decode b_Q_move 37 = .ok (.getfield 51, 3) := by decide +kernel
theorem d_Q_move_40 : decode b_Q_move 40 = .ok (.iload_n 2, 1) := by decide +kernel
theorem d_Q_move_41 : decode b_Q_move 41 = .ok (.aload_n 0, 1) := by decide +kernel
theorem d_Q_move_42 : decode b_Q_move 42 = .ok (.getfield 51, 3) := by decide +kernel
theorem d_Q_move_45 : decode b_Q_move 45 = .ok (.iload_n 1, 1) := by decide +kernel
theorem d_Q_move_46 : decode b_Q_move 46 = .ok (.laload, 1) := by decide +kernel
theorem d_Q_move_47 : decode b_Q_move 47 = .ok (.lastore, 1) := by decide +kernel
theorem d_Q_move_48 : decode b_Q_move 48 = .ok (.aload_n 0, 1) := by decide +kernel
theorem d_Q_move_49 : decode b_Q_move 49 = .ok (.getfield 55, 3) := by decide +kernel
theorem d_Q_move_52 : decode b_Q_move 52 = .ok (.iload_n 2, 1) := by decide +kernel
theorem d_Q_move_53 : decode b_Q_move 53 = .ok (.aload_n 0, 1) := by decide +kernel
theorem d_Q_move_54 : decode b_Q_move 54 = .ok (.getfield 55, 3) := by decide +kernel
theorem d_Q_move_57 : decode b_Q_move 57 = .ok (.iload_n 1, 1) := by decide +kernel
theorem d_Q_move_58 : decode b_Q_move 58 = .ok (.iaload, 1) := by decide +kernel
theorem d_Q_move_59 : decode b_Q_move 59 = .ok (.iastore, 1) := by decide +kernel
theorem d_Q_move_60 : decode b_Q_move 60 = .ok (.return_, 1) := by decide +kernel
abbrev rm_Q_move : Room := { frames := 0, cells := 0, slots := 0, locals := 0 }
def fx_Q_move (n : Nat) (S : ZQ) (a1 : Int32) (a2 : Int32) : Option (ZQ) :=
  (if zoob a1 100 then none else
  (if zoob a2 100 then none else
  zlet (qKt' S (upd (qKt S) a2.toNatClampNeg ((qKt S) a1.toNatClampNeg))) (fun S_3 =>
  (if zoob a1 100 then none else
  (if zoob a2 100 then none else
  zlet (qKn' S_3 (upd (qKn S_3) a2.toNatClampNeg ((qKn S_3) a1.toNatClampNeg))) (fun S_6 =>
  (if zoob a1 100 then none else
  (if zoob a2 100 then none else
  zlet (qKm' S_6 (upd (qKm S_6) a2.toNatClampNeg ((qKm S_6) a1.toNatClampNeg))) (fun S_9 =>
  (if zoob a1 100 then none else
  (if zoob a2 100 then none else
  zlet (qKc' S_9 (vp_updL (qKc S_9) a2.toNatClampNeg ((qKc S_9) a1.toNatClampNeg))) (fun S_12 =>
  (if zoob a1 100 then none else
  (if zoob a2 100 then none else
  zlet (qKa' S_12 (upd (qKa S_12) a2.toNatClampNeg ((qKa S_12) a1.toNatClampNeg))) (fun S_15 =>
  some S_15)))))))))))))))

set_option maxRecDepth 100000 in
set_option maxHeartbeats 4000000 in
theorem k_Q_move (l : Launch) (z : zE) (B : Nat → Nat) (Rr : va_W) (n : Nat) (S : ZQ) (a1 : Int32) (a2 : Int32) (S' : ZQ) (h : fx_Q_move n S a1 a2 = some S') : zC z l y_Q_move w_Q_move rm_Q_move [.ref (B 0), .int a1, .int a2] (qw z B S ++ Rr) none (qw z B S' ++ Rr) := by
  refine zz_of (by decide) (Nat.le_of_ble_eq_true rfl) ?_
  intro p e s m args below meth c A0 ls hM hr hlocks hA hP hD hl
  have hM : zM z p s m args c b_Q_move 3 R_Q := hM
  obtain ⟨hx, hb, hml, hown, hts, hK, hN⟩ := id hM
  have hS : va_S A0 s.heap s.heap [] := va_S.rf
  have hl : lv_has ls 3 [(0, .ref (B 0)), (1, .int a1), (2, .int a2)] := hl
  unfold fx_Q_move at h
  refine lv_aload_n hx hb d_Q_move_0 rfl (lv_at hl 0 rfl) ?_
  refine va_get (D := z.1) (ci := 5) (v := .ref (B 10)) (C := R_Q) (T := F_Q) (N := 28) hx hb hts i_Q hown hK hP 0 rfl rfl 13 (by decide) (hts _ wq_564) (fun _ h9 => h9) rfl d_Q_move_1 ?_
  refine lv_iload_n hx hb d_Q_move_4 rfl (lv_at hl 2 rfl) ?_
  refine lv_aload_n hx hb d_Q_move_5 rfl (lv_at hl 0 rfl) ?_
  refine va_get (D := z.1) (ci := 5) (v := .ref (B 10)) (C := R_Q) (T := F_Q) (N := 28) hx hb hts i_Q hown hK hP 0 rfl rfl 13 (by decide) (hts _ wq_564) (fun _ h9 => h9) rfl d_Q_move_6 ?_
  refine lv_iload_n hx hb d_Q_move_9 rfl (lv_at hl 1 rfl) ?_
  obtain ⟨c_1, h⟩ := zz_oob h
  refine va_iald hx hb hK hP 10 0 rfl rfl c_1 d_Q_move_10 ?_
  obtain ⟨c_2, h⟩ := zz_oob h
  obtain ⟨S_3, e_3, h⟩ := zz_let h
  refine va_iast hx hb hK hP hD hS 10 0 rfl rfl c_2 d_Q_move_11 (fun H locs hP hD hS => ?_)
  have hP : va_P z.1 vwCl (qw z B S_3 ++ Rr) H := by rw [e_3]; exact hP
  have hD : va_D A0 (qw z B S_3 ++ Rr) := by rw [e_3]; exact hD
  refine lv_aload_n hx hb d_Q_move_12 rfl (lv_at hl 0 rfl) ?_
  refine va_get (D := z.1) (ci := 5) (v := .ref (B 11)) (C := R_Q) (T := F_Q) (N := 28) hx hb hts i_Q hown hK hP 0 rfl rfl 14 (by decide) (hts _ wq_565) (fun _ h9 => h9) rfl d_Q_move_13 ?_
  refine lv_iload_n hx hb d_Q_move_16 rfl (lv_at hl 2 rfl) ?_
  refine lv_aload_n hx hb d_Q_move_17 rfl (lv_at hl 0 rfl) ?_
  refine va_get (D := z.1) (ci := 5) (v := .ref (B 11)) (C := R_Q) (T := F_Q) (N := 28) hx hb hts i_Q hown hK hP 0 rfl rfl 14 (by decide) (hts _ wq_565) (fun _ h9 => h9) rfl d_Q_move_18 ?_
  refine lv_iload_n hx hb d_Q_move_21 rfl (lv_at hl 1 rfl) ?_
  obtain ⟨c_4, h⟩ := zz_oob h
  refine va_iald hx hb hK hP 11 0 rfl rfl c_4 d_Q_move_22 ?_
  obtain ⟨c_5, h⟩ := zz_oob h
  obtain ⟨S_6, e_6, h⟩ := zz_let h
  refine va_iast hx hb hK hP hD hS 11 0 rfl rfl c_5 d_Q_move_23 (fun H locs hP hD hS => ?_)
  have hP : va_P z.1 vwCl (qw z B S_6 ++ Rr) H := by rw [e_6]; exact hP
  have hD : va_D A0 (qw z B S_6 ++ Rr) := by rw [e_6]; exact hD
  refine lv_aload_n hx hb d_Q_move_24 rfl (lv_at hl 0 rfl) ?_
  refine va_get (D := z.1) (ci := 5) (v := .ref (B 12)) (C := R_Q) (T := F_Q) (N := 28) hx hb hts i_Q hown hK hP 0 rfl rfl 15 (by decide) (hts _ wq_566) (fun _ h9 => h9) rfl d_Q_move_25 ?_
  refine lv_iload_n hx hb d_Q_move_28 rfl (lv_at hl 2 rfl) ?_
  refine lv_aload_n hx hb d_Q_move_29 rfl (lv_at hl 0 rfl) ?_
  refine va_get (D := z.1) (ci := 5) (v := .ref (B 12)) (C := R_Q) (T := F_Q) (N := 28) hx hb hts i_Q hown hK hP 0 rfl rfl 15 (by decide) (hts _ wq_566) (fun _ h9 => h9) rfl d_Q_move_30 ?_
  refine lv_iload_n hx hb d_Q_move_33 rfl (lv_at hl 1 rfl) ?_
  obtain ⟨c_7, h⟩ := zz_oob h
  refine va_iald hx hb hK hP 12 0 rfl rfl c_7 d_Q_move_34 ?_
  obtain ⟨c_8, h⟩ := zz_oob h
  obtain ⟨S_9, e_9, h⟩ := zz_let h
  refine va_iast hx hb hK hP hD hS 12 0 rfl rfl c_8 d_Q_move_35 (fun H locs hP hD hS => ?_)
  have hP : va_P z.1 vwCl (qw z B S_9 ++ Rr) H := by rw [e_9]; exact hP
  have hD : va_D A0 (qw z B S_9 ++ Rr) := by rw [e_9]; exact hD
  refine lv_aload_n hx hb d_Q_move_36 rfl (lv_at hl 0 rfl) ?_
  refine va_get (D := z.1) (ci := 5) (v := .ref (B 13)) (C := R_Q) (T := F_Q) (N := 28) hx hb hts i_Q hown hK hP 0 rfl rfl 16 (by decide) (hts _ wq_567) (fun _ h9 => h9) rfl d_Q_move_37 ?_
  refine lv_iload_n hx hb d_Q_move_40 rfl (lv_at hl 2 rfl) ?_
  refine lv_aload_n hx hb d_Q_move_41 rfl (lv_at hl 0 rfl) ?_
  refine va_get (D := z.1) (ci := 5) (v := .ref (B 13)) (C := R_Q) (T := F_Q) (N := 28) hx hb hts i_Q hown hK hP 0 rfl rfl 16 (by decide) (hts _ wq_567) (fun _ h9 => h9) rfl d_Q_move_42 ?_
  refine lv_iload_n hx hb d_Q_move_45 rfl (lv_at hl 1 rfl) ?_
  obtain ⟨c_10, h⟩ := zz_oob h
  refine va_lald hx hb hK hP 13 2 rfl rfl c_10 d_Q_move_46 ?_
  obtain ⟨c_11, h⟩ := zz_oob h
  obtain ⟨S_12, e_12, h⟩ := zz_let h
  refine va_last hx hb hK hP hD hS 13 2 rfl rfl c_11 d_Q_move_47 (fun H locs hP hD hS => ?_)
  have hP : va_P z.1 vwCl (qw z B S_12 ++ Rr) H := by rw [e_12]; exact hP
  have hD : va_D A0 (qw z B S_12 ++ Rr) := by rw [e_12]; exact hD
  refine lv_aload_n hx hb d_Q_move_48 rfl (lv_at hl 0 rfl) ?_
  refine va_get (D := z.1) (ci := 5) (v := .ref (B 14)) (C := R_Q) (T := F_Q) (N := 28) hx hb hts i_Q hown hK hP 0 rfl rfl 17 (by decide) (hts _ wq_568) (fun _ h9 => h9) rfl d_Q_move_49 ?_
  refine lv_iload_n hx hb d_Q_move_52 rfl (lv_at hl 2 rfl) ?_
  refine lv_aload_n hx hb d_Q_move_53 rfl (lv_at hl 0 rfl) ?_
  refine va_get (D := z.1) (ci := 5) (v := .ref (B 14)) (C := R_Q) (T := F_Q) (N := 28) hx hb hts i_Q hown hK hP 0 rfl rfl 17 (by decide) (hts _ wq_568) (fun _ h9 => h9) rfl d_Q_move_54 ?_
  refine lv_iload_n hx hb d_Q_move_57 rfl (lv_at hl 1 rfl) ?_
  obtain ⟨c_13, h⟩ := zz_oob h
  refine va_iald hx hb hK hP 14 0 rfl rfl c_13 d_Q_move_58 ?_
  obtain ⟨c_14, h⟩ := zz_oob h
  obtain ⟨S_15, e_15, h⟩ := zz_let h
  refine va_iast hx hb hK hP hD hS 14 0 rfl rfl c_14 d_Q_move_59 (fun H locs hP hD hS => ?_)
  have hP : va_P z.1 vwCl (qw z B S_15 ++ Rr) H := by rw [e_15]; exact hP
  have hD : va_D A0 (qw z B S_15 ++ Rr) := by rw [e_15]; exact hD
  exact zz_vret (fun S => qw z B S ++ Rr) hx hb hr hlocks hP hD hS h d_Q_move_60

abbrev b_Q_letGo : ByteArray := prog_7_method_15_code
abbrev y_Q_letGo : MethodName := ⟨"MemberChooserModel", "letGo", "(I)V"⟩
abbrev w_Q_letGo : List Cond := Cond.code y_Q_letGo b_Q_letGo 4 none :: zTb
theorem d_Q_letGo_0 : decode b_Q_letGo 0 = .ok (.iconst 0, 1) := by decide +kernel
theorem d_Q_letGo_1 : decode b_Q_letGo 1 = .ok (.istore_n 2, 1) := by decide +kernel
theorem d_Q_letGo_2 : decode b_Q_letGo 2 = .ok (.iconst 0, 1) := by decide +kernel
theorem d_Q_letGo_3 : decode b_Q_letGo 3 = .ok (.istore_n 3, 1) := by decide +kernel
theorem d_Q_letGo_4 : decode b_Q_letGo 4 = .ok (.iload_n 3, 1) := by decide +kernel
theorem d_Q_letGo_5 : decode b_Q_letGo 5 = .ok (.aload_n 0, 1) := by decide +kernel
theorem d_Q_letGo_6 : decode b_Q_letGo 6 = .ok (.getfield 95, 3) := by decide +kernel
theorem d_Q_letGo_9 : decode b_Q_letGo 9 = .ok (.if_icmp .ge 31, 3) := by decide +kernel
theorem d_Q_letGo_12 : decode b_Q_letGo 12 = .ok (.aload_n 0, 1) := by decide +kernel
theorem d_Q_letGo_13 : decode b_Q_letGo 13 = .ok (.getfield 45, 3) := by decide +kernel
theorem d_Q_letGo_16 : decode b_Q_letGo 16 = .ok (.iload_n 3, 1) := by decide +kernel
theorem d_Q_letGo_17 : decode b_Q_letGo 17 = .ok (.iaload, 1) := by decide +kernel
theorem d_Q_letGo_18 : decode b_Q_letGo 18 = .ok (.iload_n 1, 1) := by decide +kernel
theorem d_Q_letGo_19 : decode b_Q_letGo 19 = .ok (.if_icmp .ne 6, 3) := by decide +kernel
theorem d_Q_letGo_22 : decode b_Q_letGo 22 = .ok (.goto 12, 3) := by decide +kernel
theorem d_Q_letGo_25 : decode b_Q_letGo 25 = .ok (.aload_n 0, 1) := by decide +kernel
theorem d_Q_letGo_26 : decode b_Q_letGo 26 = .ok (.iload_n 3, 1) := by decide +kernel
theorem d_Q_letGo_27 : decode b_Q_letGo 27 = .ok (.iload_n 2, 1) := by decide +kernel
theorem d_Q_letGo_28 : decode b_Q_letGo 28 = .ok (.invokevirtual 110, 3) := by decide +kernel
theorem d_Q_letGo_31 : decode b_Q_letGo 31 = .ok (.iinc 2 1, 3) := by decide +kernel
theorem d_Q_letGo_34 : decode b_Q_letGo 34 = .ok (.iinc 3 1, 3) := by decide +kernel
theorem d_Q_letGo_37 : decode b_Q_letGo 37 = .ok (.goto (-33), 3) := by decide +kernel
theorem d_Q_letGo_40 : decode b_Q_letGo 40 = .ok (.aload_n 0, 1) := by decide +kernel
theorem d_Q_letGo_41 : decode b_Q_letGo 41 = .ok (.iload_n 2, 1) := by decide +kernel
theorem d_Q_letGo_42 : decode b_Q_letGo 42 = .ok (.putfield 95, 3) := by decide +kernel
theorem d_Q_letGo_45 : decode b_Q_letGo 45 = .ok (.return_, 1) := by decide +kernel
abbrev rm_Q_letGo : Room := { frames := 1, cells := 0, slots := 0, locals := 22 }
def st_Q_letGo_L4 (n : Nat) (v1 : Int32) (v2 : Int32) (v3 : Int32) (S : ZQ) : Option ((Int32 × Int32 × ZQ) ⊕ (Nat × Int32 × Int32 × ZQ)) :=
  (if (qKe S) ≤ v3 then
  some (.inr (40, v2, v3, S))
  else
  (if zoob v3 100 then none else
    (if ((qKn S) v3.toNatClampNeg) = v1 then
    some (.inl (v2, (v3 + (1 : Int32)), S))
    else
    zbind1 (fx_Q_move n S v3 v2) (fun S_4 =>
      some (.inl ((v2 + (1 : Int32)), (v3 + (1 : Int32)), S_4))))))

def fx_Q_letGo_L4 (n : Nat) (v1 : Int32) (v2 : Int32) (v3 : Int32) (S : ZQ) : Option (Nat × Int32 × Int32 × ZQ) := zloop (fun (st : Int32 × Int32 × ZQ) => st_Q_letGo_L4 n v1 st.1 st.2.1 st.2.2) n (v2, v3, S)

def fx_Q_letGo (n : Nat) (S : ZQ) (a1 : Int32) : Option (ZQ) :=
  zbL3 (fx_Q_letGo_L4 n a1 (0 : Int32) (0 : Int32) S) (fun x_5 v2_5 v3_5 S_5 =>
  if x_5 = 40 then
  zlet (qKe' S_5 v2_5) (fun S_6 =>
  some S_6)
  else none)

set_option maxRecDepth 100000 in
set_option maxHeartbeats 4000000 in
theorem lp_Q_letGo_L4 {z : zE} {B : Nat → Nat} {Rr : va_W} {p : Program} {l : Launch} {e : Env} {s : State} {m : MethodId} {args : Array Value} {below : List Frame} {meth : Method} {c : Code} {Q : State → Prop} {H0 : Heap} {A0 : Nat → Prop} (hM : zM z p s m args c b_Q_letGo 4 R_Q) (hA : ∀ q : Nat, H0.size ≤ q → A0 q) (n : Nat) (v1 : Int32) :
    ∀ (v2 : Int32) (v3 : Int32) (S : ZQ) (r : Nat × Int32 × Int32 × ZQ), fx_Q_letGo_L4 n v1 v2 v3 S = some r → (∀ (H : Heap) (locs : List Loc) (ls : Array Slot), va_P z.1 vwCl (qw z B r.2.2.2 ++ Rr) H → va_D A0 (qw z B r.2.2.2 ++ Rr) → va_S A0 H0 H locs → lv_has ls 4 [(0, .ref (B 0)), (1, .int v1), (2, .int r.2.1), (3, .int r.2.2.1)] → W p l e rm_Q_letGo s m args below meth c H locs 0 0 Q (F0 m r.1 ls [])) →
    ∀ (H : Heap) (locs : List Loc) (ls : Array Slot), va_P z.1 vwCl (qw z B S ++ Rr) H → va_D A0 (qw z B S ++ Rr) → va_S A0 H0 H locs → lv_has ls 4 [(0, .ref (B 0)), (1, .int v1), (2, .int v2), (3, .int v3)] → W p l e rm_Q_letGo s m args below meth c H locs 0 0 Q (F0 m 4 ls []) := by
  obtain ⟨hx, hb, hml, hown, hts, hK, hN⟩ := id hM
  intro v2 v3 S r h hE
  refine zz_loop (G := fun (st : Int32 × Int32 × ZQ) => ∀ (H : Heap) (locs : List Loc) (ls : Array Slot), va_P z.1 vwCl (qw z B st.2.2 ++ Rr) H → va_D A0 (qw z B st.2.2 ++ Rr) → va_S A0 H0 H locs → lv_has ls 4 [(0, .ref (B 0)), (1, .int v1), (2, .int st.1), (3, .int st.2.1)] → W p l e rm_Q_letGo s m args below meth c H locs 0 0 Q (F0 m 4 ls [])) (E := fun (r : Nat × Int32 × Int32 × ZQ) => ∀ (H : Heap) (locs : List Loc) (ls : Array Slot), va_P z.1 vwCl (qw z B r.2.2.2 ++ Rr) H → va_D A0 (qw z B r.2.2.2 ++ Rr) → va_S A0 H0 H locs → lv_has ls 4 [(0, .ref (B 0)), (1, .int v1), (2, .int r.2.1), (3, .int r.2.2.1)] → W p l e rm_Q_letGo s m args below meth c H locs 0 0 Q (F0 m r.1 ls [])) ?_ n (v2, v3, S) r h hE
  clear h hE r v2 v3 S
  rintro ⟨v2, v3, S⟩ o h hG hE H locs ls hP hD hS hl
  have h : st_Q_letGo_L4 n v1 v2 v3 S = some o := h
  have hl : lv_has ls 4 [(0, .ref (B 0)), (1, .int v1), (2, .int v2), (3, .int v3)] := hl
  have hP : va_P z.1 vwCl (qw z B S ++ Rr) H := hP
  have hD : va_D A0 (qw z B S ++ Rr) := hD
  unfold st_Q_letGo_L4 at h
  refine lv_iload_n hx hb d_Q_letGo_4 rfl (lv_at hl 3 rfl) ?_
  refine lv_aload_n hx hb d_Q_letGo_5 rfl (lv_at hl 0 rfl) ?_
  refine va_get (D := z.1) (ci := 5) (v := .int (qKe S)) (C := R_Q) (T := F_Q) (N := 28) hx hb hts i_Q hown hK hP 0 rfl rfl 12 (by decide) (hts _ wq_563) (fun _ h9 => h9) rfl d_Q_letGo_6 ?_
  refine lv_icmp_ge (tgt := 40) hx hb d_Q_letGo_9 (by decide) (fun c_1 => ?_) (fun c_1 => ?_)
  · replace h := zz_t c_1 h
    exact hE _ (Option.some.inj h).symm _ _ _ hP hD hS hl
  · replace h := zz_f c_1 h
    refine lv_aload_n hx hb d_Q_letGo_12 rfl (lv_at hl 0 rfl) ?_
    refine va_get (D := z.1) (ci := 5) (v := .ref (B 11)) (C := R_Q) (T := F_Q) (N := 28) hx hb hts i_Q hown hK hP 0 rfl rfl 14 (by decide) (hts _ wq_565) (fun _ h9 => h9) rfl d_Q_letGo_13 ?_
    refine lv_iload_n hx hb d_Q_letGo_16 rfl (lv_at hl 3 rfl) ?_
    obtain ⟨c_2, h⟩ := zz_oob h
    refine va_iald hx hb hK hP 11 0 rfl rfl c_2 d_Q_letGo_17 ?_
    refine lv_iload_n hx hb d_Q_letGo_18 rfl (lv_at hl 1 rfl) ?_
    refine lv_icmp_ne (tgt := 25) hx hb d_Q_letGo_19 (by decide) (fun c_3 => ?_) (fun c_3 => ?_)
    · replace h := zz_f c_3 h
      refine lv_aload_n hx hb d_Q_letGo_25 rfl (lv_at hl 0 rfl) ?_
      refine lv_iload_n hx hb d_Q_letGo_26 rfl (lv_at hl 3 rfl) ?_
      refine lv_iload_n hx hb d_Q_letGo_27 rfl (lv_at hl 2 rfl) ?_
      obtain ⟨S_4, e_4, h⟩ := zz_bind1 h
      refine zz_goV (zz_runV (As := [.int v3, .int v2]) (rest := []) (k_Q_move l z B Rr n _ _ _ _ e_4) ⟨hx, hb, hml, hown, hts⟩ (cwV 2 hts (zz_gV wq_688 wq_690 wp_24 wq_6 wq_691) rfl rfl rfl (by decide +kernel) ⟨Nat.le_of_ble_eq_true rfl, Nat.le_of_ble_eq_true rfl⟩) hK hN hP hD (va_recv hK hP (ci := 5) (q0 := 0) rfl rfl) rfl hl.1 rfl (Nat.le_of_ble_eq_true rfl) d_Q_letGo_28 ⟨Nat.le_of_ble_eq_true rfl, Nat.le_of_ble_eq_true rfl⟩) hD hS hA (fun H locs hP hD hS => ?_)
      refine lv_iinc (v := (v2 + (1 : Int32))) (lv' := [(2, .int (v2 + (1 : Int32))), (0, .ref (B 0)), (1, .int v1), (3, .int v3)]) hx hb d_Q_letGo_31 hl (k := 2) rfl rfl (by decide) rfl (fun ls hl => ?_)
      refine lv_iinc (v := (v3 + (1 : Int32))) (lv' := [(3, .int (v3 + (1 : Int32))), (2, .int (v2 + (1 : Int32))), (0, .ref (B 0)), (1, .int v1)]) hx hb d_Q_letGo_34 hl (k := 3) rfl rfl (by decide) rfl (fun ls hl => ?_)
      refine lv_goto (tgt := 4) hx hb d_Q_letGo_37 (by decide) ?_
      exact hG _ (Option.some.inj h).symm _ _ _ hP hD hS (lv_sub hl [2, 3, 1, 0] rfl)
    · replace h := zz_t c_3 h
      refine lv_goto (tgt := 34) hx hb d_Q_letGo_22 (by decide) ?_
      refine lv_iinc (v := (v3 + (1 : Int32))) (lv' := [(3, .int (v3 + (1 : Int32))), (0, .ref (B 0)), (1, .int v1), (2, .int v2)]) hx hb d_Q_letGo_34 hl (k := 3) rfl rfl (by decide) rfl (fun ls hl => ?_)
      refine lv_goto (tgt := 4) hx hb d_Q_letGo_37 (by decide) ?_
      exact hG _ (Option.some.inj h).symm _ _ _ hP hD hS (lv_sub hl [1, 2, 3, 0] rfl)

set_option maxRecDepth 100000 in
set_option maxHeartbeats 4000000 in
theorem k_Q_letGo (l : Launch) (z : zE) (B : Nat → Nat) (Rr : va_W) (n : Nat) (S : ZQ) (a1 : Int32) (S' : ZQ) (h : fx_Q_letGo n S a1 = some S') : zC z l y_Q_letGo w_Q_letGo rm_Q_letGo [.ref (B 0), .int a1] (qw z B S ++ Rr) none (qw z B S' ++ Rr) := by
  refine zz_of (by decide) (Nat.le_of_ble_eq_true rfl) ?_
  intro p e s m args below meth c A0 ls hM hr hlocks hA hP hD hl
  have hM : zM z p s m args c b_Q_letGo 4 R_Q := hM
  obtain ⟨hx, hb, hml, hown, hts, hK, hN⟩ := id hM
  have hS : va_S A0 s.heap s.heap [] := va_S.rf
  have hl : lv_has ls 4 [(0, .ref (B 0)), (1, .int a1)] := hl
  unfold fx_Q_letGo at h
  refine lv_iconst (v := 0) hx hb d_Q_letGo_0 (by decide) ?_
  refine lv_istore_n (lv' := [(2, .int (0 : Int32)), (0, .ref (B 0)), (1, .int a1)]) hx hb d_Q_letGo_1 rfl hl (by decide) rfl (fun ls hl => ?_)
  refine lv_iconst (v := 0) hx hb d_Q_letGo_2 (by decide) ?_
  refine lv_istore_n (lv' := [(3, .int (0 : Int32)), (2, .int (0 : Int32)), (0, .ref (B 0)), (1, .int a1)]) hx hb d_Q_letGo_3 rfl hl (by decide) rfl (fun ls hl => ?_)
  replace h := zz_bL3 h
  obtain ⟨x_5, v2_5, v3_5, S_5, e_5, h⟩ := h
  refine lp_Q_letGo_L4 hM hA n a1 _ _ _ _ e_5 ?_ _ _ _ hP hD hS (lv_sub hl [2, 3, 1, 0] rfl)
  intro H locs ls hP hD hS hl
  have hl : lv_has ls 4 [(0, .ref (B 0)), (1, .int a1), (2, .int v2_5), (3, .int v3_5)] := hl
  have hP : va_P z.1 vwCl (qw z B S_5 ++ Rr) H := hP
  have hD : va_D A0 (qw z B S_5 ++ Rr) := hD
  replace h := zz_grd h
  obtain ⟨c_5, h⟩ := h
  subst c_5
  refine W.eq (g2 := F0 m 40 ls []) rfl ?_
  refine lv_aload_n hx hb d_Q_letGo_40 rfl (lv_at hl 0 rfl) ?_
  refine lv_iload_n hx hb d_Q_letGo_41 rfl (lv_at hl 2 rfl) ?_
  obtain ⟨S_6, e_6, h⟩ := zz_let h
  refine va_put (D := z.1) (ci := 5) (v := .int v2_5) (ty := .int) (C := R_Q) (T := F_Q) (N := 28) hx hb hts i_Q ty_Q ty_Q_ok n_Q hown hK hP hD hS 0 rfl rfl 12 (by decide) (hts _ wq_563) (fun _ h9 => h9) rfl (by decide +kernel) rfl rfl (Nat.le_of_ble_eq_true rfl) d_Q_letGo_42 (fun H locs hP hD hS => ?_)
  have hP : va_P z.1 vwCl (qw z B S_6 ++ Rr) H := by rw [e_6]; exact hP
  have hD : va_D A0 (qw z B S_6 ++ Rr) := by rw [e_6]; exact hD
  exact zz_vret (fun S => qw z B S ++ Rr) hx hb hr hlocks hP hD hS h d_Q_letGo_45

