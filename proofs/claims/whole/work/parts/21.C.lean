abbrev b_T_hasFace : ByteArray := prog_5_method_14_code
abbrev y_T_hasFace : MethodName := ⟨"MemberChooser$Types", "hasFace", "(II)Z"⟩
abbrev w_T_hasFace : List Cond := Cond.code y_T_hasFace b_T_hasFace 3 (some .boolean) :: zTb
theorem d_T_hasFace_0 : decode b_T_hasFace 0 = .ok (.aload_n 0, 1) := by decide +kernel
theorem d_T_hasFace_1 : decode b_T_hasFace 1 = .ok (.getfield 24, 3) := by decide +kernel
theorem d_T_hasFace_4 : decode b_T_hasFace 4 = .ok (.iload_n 1, 1) := by decide +kernel
theorem d_T_hasFace_5 : decode b_T_hasFace 5 = .ok (.aaload, 1) := by decide +kernel
theorem d_T_hasFace_6 : decode b_T_hasFace 6 = .ok (.aload_n 0, 1) := by decide +kernel
theorem d_T_hasFace_7 : decode b_T_hasFace 7 = .ok (.getfield 19, 3) := by decide +kernel
theorem d_T_hasFace_10 : decode b_T_hasFace 10 = .ok (.iload_n 1, 1) := by decide +kernel
theorem d_T_hasFace_11 : decode b_T_hasFace 11 = .ok (.iaload, 1) := by decide +kernel
theorem d_T_hasFace_12 : decode b_T_hasFace 12 = .ok (.iload_n 2, 1) := by decide +kernel
theorem d_T_hasFace_13 : decode b_T_hasFace 13 = .ok (.invokestatic 71, 3) := by decide +kernel
theorem d_T_hasFace_16 : decode b_T_hasFace 16 = .ok (.ireturn, 1) := by decide +kernel
abbrev rm_T_hasFace : Room := { frames := 1, cells := 0, slots := 0, locals := 23 }
def fx_T_hasFace (n : Nat) (S : ZC) (a1 : Int32) (a2 : Int32) : Option (Int32 × ZC) :=
  (if zoob a1 32 then none else
  (if zoob a1 32 then none else
  zbind1 (fx_T_holds n 24 (tGr S (a1.toNatClampNeg)) ((tFc S) a1.toNatClampNeg) a2) (fun r_3 =>
  (if r_3 = 0 ∨ r_3 = 1 then some (r_3, S) else none))))

set_option maxRecDepth 100000 in
set_option maxHeartbeats 4000000 in
theorem k_T_hasFace (l : Launch) (z : zE) (A : Nat → Nat) (Rr : va_W) (n : Nat) (S : ZC) (a1 : Int32) (a2 : Int32) (r0 : Int32) (S' : ZC) (h : fx_T_hasFace n S a1 a2 = some (r0, S')) : zC z l y_T_hasFace w_T_hasFace rm_T_hasFace [.ref (A 17), .int a1, .int a2] (cw z A S ++ Rr) (some (.int r0)) (cw z A S' ++ Rr) := by
  refine zz_of (by decide) (Nat.le_of_ble_eq_true rfl) ?_
  intro p e s m args below meth c A0 ls hM hr hlocks hA hP hD hl
  have hM : zM z p s m args c b_T_hasFace 3 R_T := hM
  obtain ⟨hx, hb, hml, hown, hts, hK, hN⟩ := id hM
  have hS : va_S A0 s.heap s.heap [] := va_S.rf
  have hl : lv_has ls 3 [(0, .ref (A 17)), (1, .int a1), (2, .int a2)] := hl
  unfold fx_T_hasFace at h
  refine lv_aload_n hx hb d_T_hasFace_0 rfl (lv_at hl 0 rfl) ?_
  refine va_get (D := z.1) (ci := 1) (v := .ref (A 21)) (C := R_T) (T := F_T) (N := 6) hx hb hts i_T hown hK hP 17 rfl rfl 3 (by decide) (hts _ wq_41) (fun _ h9 => h9) rfl d_T_hasFace_1 ?_
  refine lv_iload_n hx hb d_T_hasFace_4 rfl (lv_at hl 1 rfl) ?_
  obtain ⟨c_1, h⟩ := zz_oob h
  refine zz_aald hx hb hK hP 21 3 rfl rfl c_1 d_T_hasFace_5 ?_
  have c_1 := zz_lt c_1
  refine lv_aload_n hx hb d_T_hasFace_6 rfl (lv_at hl 0 rfl) ?_
  refine va_get (D := z.1) (ci := 1) (v := .ref (A 20)) (C := R_T) (T := F_T) (N := 6) hx hb hts i_T hown hK hP 17 rfl rfl 2 (by decide) (hts _ wq_40) (fun _ h9 => h9) rfl d_T_hasFace_7 ?_
  refine lv_iload_n hx hb d_T_hasFace_10 rfl (lv_at hl 1 rfl) ?_
  obtain ⟨c_2, h⟩ := zz_oob h
  refine va_iald hx hb hK hP 20 0 rfl rfl c_2 d_T_hasFace_11 ?_
  refine lv_iload_n hx hb d_T_hasFace_12 rfl (lv_at hl 2 rfl) ?_
  obtain ⟨r_3, e_3, h⟩ := zz_bind1 h
  refine zz_goI (zz_runS (As := [.ref (A (23 + a1.toNatClampNeg)), .int ((tFc S) a1.toNatClampNeg), .int a2]) (rest := []) (k_T_holds l z _ (hq := (cw_row c_1)) (kq := (23 + a1.toNatClampNeg)) n _ _ _ e_3) ⟨hx, hb, hml, hown, hts⟩ (va_cwS 3 hts (zz_gS wq_196 wq_197 wq_2 wq_198) rfl rfl rfl (by decide +kernel) ⟨Nat.le_of_ble_eq_true rfl, Nat.le_of_ble_eq_true rfl⟩) hK hN hP hD rfl hl.1 rfl (Nat.le_of_ble_eq_true rfl) d_T_hasFace_13 ⟨Nat.le_of_ble_eq_true rfl, Nat.le_of_ble_eq_true rfl⟩) hD hS hA (fun H locs hP hD hS => ?_)
  obtain ⟨c_4, h⟩ := zz_grd h
  exact zz_zret (fun S => cw z A S ++ Rr) hx hb hr hlocks hP hD hS (zz_bool c_4) h d_T_hasFace_16

abbrev b_T_raiseAllBelow : ByteArray := prog_5_method_15_code
abbrev y_T_raiseAllBelow : MethodName := ⟨"MemberChooser$Types", "raiseAllBelow", "(II)V"⟩
abbrev w_T_raiseAllBelow : List Cond := Cond.code y_T_raiseAllBelow b_T_raiseAllBelow 4 none :: zTb
theorem d_T_raiseAllBelow_0 : decode b_T_raiseAllBelow 0 = .ok (.bipush 8, 2) := by decide +kernel
theorem d_T_raiseAllBelow_2 : decode b_T_raiseAllBelow 2 = .ok (.istore_n 3, 1) := by decide +kernel
theorem d_T_raiseAllBelow_3 : decode b_T_raiseAllBelow 3 = .ok (.iload_n 3, 1) := by decide +kernel
theorem d_T_raiseAllBelow_4 : decode b_T_raiseAllBelow 4 = .ok (.bipush 8, 2) := by decide +kernel
theorem d_T_raiseAllBelow_6 : decode b_T_raiseAllBelow 6 = .ok (.aload_n 0, 1) := by decide +kernel
theorem d_T_raiseAllBelow_7 : decode b_T_raiseAllBelow 7 = .ok (.getfield 30, 3) := by decide +kernel
theorem d_T_raiseAllBelow_10 : decode b_T_raiseAllBelow 10 = .ok (.iadd, 1) := by decide +kernel
theorem d_T_raiseAllBelow_11 : decode b_T_raiseAllBelow 11 = .ok (.if_icmp .ge 33, 3) := by decide +kernel
theorem d_T_raiseAllBelow_14 : decode b_T_raiseAllBelow 14 = .ok (.aload_n 0, 1) := by decide +kernel
theorem d_T_raiseAllBelow_15 : decode b_T_raiseAllBelow 15 = .ok (.iload_n 3, 1) := by decide +kernel
theorem d_T_raiseAllBelow_16 : decode b_T_raiseAllBelow 16 = .ok (.iload_n 1, 1) := by decide +kernel
theorem d_T_raiseAllBelow_17 : decode b_T_raiseAllBelow 17 = .ok (.invokevirtual 51, 3) := by decide +kernel
theorem d_T_raiseAllBelow_20 : decode b_T_raiseAllBelow 20 = .ok (.ifCond .eq 18, 3) := by decide +kernel
theorem d_T_raiseAllBelow_23 : decode b_T_raiseAllBelow 23 = .ok (.aload_n 0, 1) := by decide +kernel
theorem d_T_raiseAllBelow_24 : decode b_T_raiseAllBelow 24 = .ok (.getfield 27, 3) := by decide +kernel
theorem d_T_raiseAllBelow_27 : decode b_T_raiseAllBelow 27 = .ok (.iload_n 3, 1) := by decide +kernel
theorem d_T_raiseAllBelow_28 : decode b_T_raiseAllBelow 28 = .ok (.dup2, 1) := by decide +kernel
theorem d_T_raiseAllBelow_29 : decode b_T_raiseAllBelow 29 = .ok (.iaload, 1) := by decide +kernel
theorem d_T_raiseAllBelow_30 : decode b_T_raiseAllBelow 30 = .ok (.aload_n 0, 1) := by decide +kernel
theorem d_T_raiseAllBelow_31 : decode b_T_raiseAllBelow 31 = .ok (.getfield 27, 3) := by decide +kernel
theorem d_T_raiseAllBelow_34 : decode b_T_raiseAllBelow 34 = .ok (.iload_n 2, 1) := by decide +kernel
theorem d_T_raiseAllBelow_35 : decode b_T_raiseAllBelow 35 = .ok (.iaload, 1) := by decide +kernel
theorem d_T_raiseAllBelow_36 : decode b_T_raiseAllBelow 36 = .ok (.ior, 1) := by decide +kernel
theorem d_T_raiseAllBelow_37 : decode b_T_raiseAllBelow 37 = .ok (.iastore, 1) := by decide +kernel
theorem d_T_raiseAllBelow_38 : decode b_T_raiseAllBelow 38 = .ok (.iinc 3 1, 3) := by decide +kernel
theorem d_T_raiseAllBelow_41 : decode b_T_raiseAllBelow 41 = .ok (.goto (-38), 3) := by decide +kernel
theorem d_T_raiseAllBelow_44 : decode b_T_raiseAllBelow 44 = .ok (.return_, 1) := by decide +kernel
abbrev rm_T_raiseAllBelow : Room := { frames := 2, cells := 0, slots := 0, locals := 43 }
def st_T_raiseAllBelow_L3 (n : Nat) (v1 : Int32) (v2 : Int32) (v3 : Int32) (S : ZC) : Option ((Int32 × ZC) ⊕ (Nat × Int32 × ZC)) :=
  (if ((8 : Int32) + (tTo S)) ≤ v3 then
  some (.inr (44, v3, S))
  else
  zbind (fx_T_isSubtype n S v3 v1) (fun r_2 S_2 =>
    (if r_2 = 0 then
    some (.inl ((v3 + (1 : Int32)), S_2))
    else
    (if zoob v3 32 then none else
      (if zoob v2 32 then none else
      (if zoob v3 32 then none else
      zlet (tUp' S_2 (upd (tUp S_2) v3.toNatClampNeg (((tUp S_2) v3.toNatClampNeg) ||| ((tUp S_2) v2.toNatClampNeg)))) (fun S_7 =>
      some (.inl ((v3 + (1 : Int32)), S_7)))))))))

def fx_T_raiseAllBelow_L3 (n : Nat) (v1 : Int32) (v2 : Int32) (v3 : Int32) (S : ZC) : Option (Nat × Int32 × ZC) := zloop (fun (st : Int32 × ZC) => st_T_raiseAllBelow_L3 n v1 v2 st.1 st.2) n (v3, S)

def fx_T_raiseAllBelow (n : Nat) (S : ZC) (a1 : Int32) (a2 : Int32) : Option (ZC) :=
  zbL2 (fx_T_raiseAllBelow_L3 n a1 a2 (8 : Int32) S) (fun x_8 v3_8 S_8 =>
  if x_8 = 44 then
  some S_8
  else none)

set_option maxRecDepth 100000 in
set_option maxHeartbeats 4000000 in
theorem lp_T_raiseAllBelow_L3 {z : zE} {A : Nat → Nat} {Rr : va_W} {p : Program} {l : Launch} {e : Env} {s : State} {m : MethodId} {args : Array Value} {below : List Frame} {meth : Method} {c : Code} {Q : State → Prop} {H0 : Heap} {A0 : Nat → Prop} (hM : zM z p s m args c b_T_raiseAllBelow 4 R_T) (hA : ∀ q : Nat, H0.size ≤ q → A0 q) (n : Nat) (v1 : Int32) (v2 : Int32) :
    ∀ (v3 : Int32) (S : ZC) (r : Nat × Int32 × ZC), fx_T_raiseAllBelow_L3 n v1 v2 v3 S = some r → (∀ (H : Heap) (locs : List Loc) (ls : Array Slot), va_P z.1 vwCl (cw z A r.2.2 ++ Rr) H → va_D A0 (cw z A r.2.2 ++ Rr) → va_S A0 H0 H locs → lv_has ls 4 [(0, .ref (A 17)), (1, .int v1), (2, .int v2), (3, .int r.2.1)] → W p l e rm_T_raiseAllBelow s m args below meth c H locs 0 0 Q (F0 m r.1 ls [])) →
    ∀ (H : Heap) (locs : List Loc) (ls : Array Slot), va_P z.1 vwCl (cw z A S ++ Rr) H → va_D A0 (cw z A S ++ Rr) → va_S A0 H0 H locs → lv_has ls 4 [(0, .ref (A 17)), (1, .int v1), (2, .int v2), (3, .int v3)] → W p l e rm_T_raiseAllBelow s m args below meth c H locs 0 0 Q (F0 m 3 ls []) := by
  obtain ⟨hx, hb, hml, hown, hts, hK, hN⟩ := id hM
  intro v3 S r h hE
  refine zz_loop (G := fun (st : Int32 × ZC) => ∀ (H : Heap) (locs : List Loc) (ls : Array Slot), va_P z.1 vwCl (cw z A st.2 ++ Rr) H → va_D A0 (cw z A st.2 ++ Rr) → va_S A0 H0 H locs → lv_has ls 4 [(0, .ref (A 17)), (1, .int v1), (2, .int v2), (3, .int st.1)] → W p l e rm_T_raiseAllBelow s m args below meth c H locs 0 0 Q (F0 m 3 ls [])) (E := fun (r : Nat × Int32 × ZC) => ∀ (H : Heap) (locs : List Loc) (ls : Array Slot), va_P z.1 vwCl (cw z A r.2.2 ++ Rr) H → va_D A0 (cw z A r.2.2 ++ Rr) → va_S A0 H0 H locs → lv_has ls 4 [(0, .ref (A 17)), (1, .int v1), (2, .int v2), (3, .int r.2.1)] → W p l e rm_T_raiseAllBelow s m args below meth c H locs 0 0 Q (F0 m r.1 ls [])) ?_ n (v3, S) r h hE
  clear h hE r v3 S
  rintro ⟨v3, S⟩ o h hG hE H locs ls hP hD hS hl
  have h : st_T_raiseAllBelow_L3 n v1 v2 v3 S = some o := h
  have hl : lv_has ls 4 [(0, .ref (A 17)), (1, .int v1), (2, .int v2), (3, .int v3)] := hl
  have hP : va_P z.1 vwCl (cw z A S ++ Rr) H := hP
  have hD : va_D A0 (cw z A S ++ Rr) := hD
  unfold st_T_raiseAllBelow_L3 at h
  refine lv_iload_n hx hb d_T_raiseAllBelow_3 rfl (lv_at hl 3 rfl) ?_
  refine lv_bipush (v := 8) hx hb d_T_raiseAllBelow_4 (by decide) ?_
  refine lv_aload_n hx hb d_T_raiseAllBelow_6 rfl (lv_at hl 0 rfl) ?_
  refine va_get (D := z.1) (ci := 1) (v := .int (tTo S)) (C := R_T) (T := F_T) (N := 6) hx hb hts i_T hown hK hP 17 rfl rfl 5 (by decide) (hts _ wq_43) (fun _ h9 => h9) rfl d_T_raiseAllBelow_7 ?_
  refine lv_iadd hx hb d_T_raiseAllBelow_10 ?_
  refine lv_icmp_ge (tgt := 44) hx hb d_T_raiseAllBelow_11 (by decide) (fun c_1 => ?_) (fun c_1 => ?_)
  · replace h := zz_t c_1 h
    exact hE _ (Option.some.inj h).symm _ _ _ hP hD hS hl
  · replace h := zz_f c_1 h
    refine lv_aload_n hx hb d_T_raiseAllBelow_14 rfl (lv_at hl 0 rfl) ?_
    refine lv_iload_n hx hb d_T_raiseAllBelow_15 rfl (lv_at hl 3 rfl) ?_
    refine lv_iload_n hx hb d_T_raiseAllBelow_16 rfl (lv_at hl 1 rfl) ?_
    obtain ⟨r_2, S_2, e_2, h⟩ := zz_bind h
    refine zz_goI (zz_runV (As := [.int v3, .int v1]) (rest := []) (k_T_isSubtype l z A Rr n _ _ _ _ _ e_2) ⟨hx, hb, hml, hown, hts⟩ (cwV 2 hts (zz_gV wq_188 wq_189 wq_190 wq_2 wq_191) rfl rfl rfl (by decide +kernel) ⟨Nat.le_of_ble_eq_true rfl, Nat.le_of_ble_eq_true rfl⟩) hK hN hP hD (va_recv hK hP (ci := 1) (q0 := 17) rfl rfl) rfl hl.1 rfl (Nat.le_of_ble_eq_true rfl) d_T_raiseAllBelow_17 ⟨Nat.le_of_ble_eq_true rfl, Nat.le_of_ble_eq_true rfl⟩) hD hS hA (fun H locs hP hD hS => ?_)
    refine lv_if_eq (tgt := 38) hx hb d_T_raiseAllBelow_20 (by decide) (fun c_3 => ?_) (fun c_3 => ?_)
    · replace h := zz_t c_3 h
      refine lv_iinc (v := (v3 + (1 : Int32))) (lv' := [(3, .int (v3 + (1 : Int32))), (0, .ref (A 17)), (1, .int v1), (2, .int v2)]) hx hb d_T_raiseAllBelow_38 hl (k := 3) rfl rfl (by decide) rfl (fun ls hl => ?_)
      refine lv_goto (tgt := 3) hx hb d_T_raiseAllBelow_41 (by decide) ?_
      exact hG _ (Option.some.inj h).symm _ _ _ hP hD hS (lv_sub hl [1, 2, 3, 0] rfl)
    · replace h := zz_f c_3 h
      refine lv_aload_n hx hb d_T_raiseAllBelow_23 rfl (lv_at hl 0 rfl) ?_
      refine va_get (D := z.1) (ci := 1) (v := .ref (A 22)) (C := R_T) (T := F_T) (N := 6) hx hb hts i_T hown hK hP 17 rfl rfl 4 (by decide) (hts _ wq_42) (fun _ h9 => h9) rfl d_T_raiseAllBelow_24 ?_
      refine lv_iload_n hx hb d_T_raiseAllBelow_27 rfl (lv_at hl 3 rfl) ?_
      refine lv_dup2_11 hx hb d_T_raiseAllBelow_28 rfl rfl ?_
      obtain ⟨c_4, h⟩ := zz_oob h
      refine va_iald hx hb hK hP 22 0 rfl rfl c_4 d_T_raiseAllBelow_29 ?_
      refine lv_aload_n hx hb d_T_raiseAllBelow_30 rfl (lv_at hl 0 rfl) ?_
      refine va_get (D := z.1) (ci := 1) (v := .ref (A 22)) (C := R_T) (T := F_T) (N := 6) hx hb hts i_T hown hK hP 17 rfl rfl 4 (by decide) (hts _ wq_42) (fun _ h9 => h9) rfl d_T_raiseAllBelow_31 ?_
      refine lv_iload_n hx hb d_T_raiseAllBelow_34 rfl (lv_at hl 2 rfl) ?_
      obtain ⟨c_5, h⟩ := zz_oob h
      refine va_iald hx hb hK hP 22 0 rfl rfl c_5 d_T_raiseAllBelow_35 ?_
      refine lv_ior hx hb d_T_raiseAllBelow_36 ?_
      obtain ⟨c_6, h⟩ := zz_oob h
      obtain ⟨S_7, e_7, h⟩ := zz_let h
      refine va_iast hx hb hK hP hD hS 22 0 rfl rfl c_6 d_T_raiseAllBelow_37 (fun H locs hP hD hS => ?_)
      have hP : va_P z.1 vwCl (cw z A S_7 ++ Rr) H := by rw [e_7]; exact hP
      have hD : va_D A0 (cw z A S_7 ++ Rr) := by rw [e_7]; exact hD
      refine lv_iinc (v := (v3 + (1 : Int32))) (lv' := [(3, .int (v3 + (1 : Int32))), (0, .ref (A 17)), (1, .int v1), (2, .int v2)]) hx hb d_T_raiseAllBelow_38 hl (k := 3) rfl rfl (by decide) rfl (fun ls hl => ?_)
      refine lv_goto (tgt := 3) hx hb d_T_raiseAllBelow_41 (by decide) ?_
      exact hG _ (Option.some.inj h).symm _ _ _ hP hD hS (lv_sub hl [1, 2, 3, 0] rfl)

set_option maxRecDepth 100000 in
set_option maxHeartbeats 4000000 in
theorem k_T_raiseAllBelow (l : Launch) (z : zE) (A : Nat → Nat) (Rr : va_W) (n : Nat) (S : ZC) (a1 : Int32) (a2 : Int32) (S' : ZC) (h : fx_T_raiseAllBelow n S a1 a2 = some S') : zC z l y_T_raiseAllBelow w_T_raiseAllBelow rm_T_raiseAllBelow [.ref (A 17), .int a1, .int a2] (cw z A S ++ Rr) none (cw z A S' ++ Rr) := by
  refine zz_of (by decide) (Nat.le_of_ble_eq_true rfl) ?_
  intro p e s m args below meth c A0 ls hM hr hlocks hA hP hD hl
  have hM : zM z p s m args c b_T_raiseAllBelow 4 R_T := hM
  obtain ⟨hx, hb, hml, hown, hts, hK, hN⟩ := id hM
  have hS : va_S A0 s.heap s.heap [] := va_S.rf
  have hl : lv_has ls 4 [(0, .ref (A 17)), (1, .int a1), (2, .int a2)] := hl
  unfold fx_T_raiseAllBelow at h
  refine lv_bipush (v := 8) hx hb d_T_raiseAllBelow_0 (by decide) ?_
  refine lv_istore_n (lv' := [(3, .int (8 : Int32)), (0, .ref (A 17)), (1, .int a1), (2, .int a2)]) hx hb d_T_raiseAllBelow_2 rfl hl (by decide) rfl (fun ls hl => ?_)
  replace h := zz_bL2 h
  obtain ⟨x_8, v3_8, S_8, e_8, h⟩ := h
  refine lp_T_raiseAllBelow_L3 hM hA n a1 a2 _ _ _ e_8 ?_ _ _ _ hP hD hS (lv_sub hl [1, 2, 3, 0] rfl)
  intro H locs ls hP hD hS hl
  have hl : lv_has ls 4 [(0, .ref (A 17)), (1, .int a1), (2, .int a2), (3, .int v3_8)] := hl
  have hP : va_P z.1 vwCl (cw z A S_8 ++ Rr) H := hP
  have hD : va_D A0 (cw z A S_8 ++ Rr) := hD
  replace h := zz_grd h
  obtain ⟨c_8, h⟩ := h
  subst c_8
  refine W.eq (g2 := F0 m 44 ls []) rfl ?_
  exact zz_vret (fun S => cw z A S ++ Rr) hx hb hr hlocks hP hD hS h d_T_raiseAllBelow_44

abbrev b_T_addFaceAbove : ByteArray := prog_5_method_10_code
abbrev y_T_addFaceAbove : MethodName := ⟨"MemberChooser$Types", "addFaceAbove", "(II)Z"⟩
abbrev w_T_addFaceAbove : List Cond := Cond.code y_T_addFaceAbove b_T_addFaceAbove 4 (some .boolean) :: zTb
theorem d_T_addFaceAbove_0 : decode b_T_addFaceAbove 0 = .ok (.aload_n 0, 1) := by decide +kernel
theorem d_T_addFaceAbove_1 : decode b_T_addFaceAbove 1 = .ok (.iload_n 1, 1) := by decide +kernel
theorem d_T_addFaceAbove_2 : decode b_T_addFaceAbove 2 = .ok (.invokevirtual 45, 3) := by decide +kernel
theorem d_T_addFaceAbove_5 : decode b_T_addFaceAbove 5 = .ok (.ifCond .eq 11, 3) := by decide +kernel
theorem d_T_addFaceAbove_8 : decode b_T_addFaceAbove 8 = .ok (.aload_n 0, 1) := by decide +kernel
theorem d_T_addFaceAbove_9 : decode b_T_addFaceAbove 9 = .ok (.iload_n 2, 1) := by decide +kernel
theorem d_T_addFaceAbove_10 : decode b_T_addFaceAbove 10 = .ok (.invokevirtual 48, 3) := by decide +kernel
theorem d_T_addFaceAbove_13 : decode b_T_addFaceAbove 13 = .ok (.ifCond .ne 5, 3) := by decide +kernel
theorem d_T_addFaceAbove_16 : decode b_T_addFaceAbove 16 = .ok (.iconst 0, 1) := by decide +kernel
theorem d_T_addFaceAbove_17 : decode b_T_addFaceAbove 17 = .ok (.ireturn, 1) := by decide +kernel
theorem d_T_addFaceAbove_18 : decode b_T_addFaceAbove 18 = .ok (.aload_n 0, 1) := by decide +kernel
theorem d_T_addFaceAbove_19 : decode b_T_addFaceAbove 19 = .ok (.iload_n 2, 1) := by decide +kernel
theorem d_T_addFaceAbove_20 : decode b_T_addFaceAbove 20 = .ok (.iload_n 1, 1) := by decide +kernel
theorem d_T_addFaceAbove_21 : decode b_T_addFaceAbove 21 = .ok (.invokevirtual 51, 3) := by decide +kernel
theorem d_T_addFaceAbove_24 : decode b_T_addFaceAbove 24 = .ok (.ifCond .ne 12, 3) := by decide +kernel
theorem d_T_addFaceAbove_27 : decode b_T_addFaceAbove 27 = .ok (.aload_n 0, 1) := by decide +kernel
theorem d_T_addFaceAbove_28 : decode b_T_addFaceAbove 28 = .ok (.iload_n 1, 1) := by decide +kernel
theorem d_T_addFaceAbove_29 : decode b_T_addFaceAbove 29 = .ok (.iload_n 2, 1) := by decide +kernel
theorem d_T_addFaceAbove_30 : decode b_T_addFaceAbove 30 = .ok (.invokevirtual 55, 3) := by decide +kernel
theorem d_T_addFaceAbove_33 : decode b_T_addFaceAbove 33 = .ok (.ifCond .eq 5, 3) := by decide +kernel
theorem d_T_addFaceAbove_36 : decode b_T_addFaceAbove 36 = .ok (.iconst 0, 1) := by decide +kernel
theorem d_T_addFaceAbove_37 : decode b_T_addFaceAbove 37 = .ok (.ireturn, 1) := by decide +kernel
theorem d_T_addFaceAbove_38 : decode b_T_addFaceAbove 38 = .ok (.aload_n 0, 1) := by decide +kernel
theorem d_T_addFaceAbove_39 : decode b_T_addFaceAbove 39 = .ok (.getfield 19, 3) := by decide +kernel
theorem d_T_addFaceAbove_42 : decode b_T_addFaceAbove 42 = .ok (.iload_n 1, 1) := by decide +kernel
theorem d_T_addFaceAbove_43 : decode b_T_addFaceAbove 43 = .ok (.iaload, 1) := by decide +kernel
theorem d_T_addFaceAbove_44 : decode b_T_addFaceAbove 44 = .ok (.istore_n 3, 1) := by decide +kernel
theorem d_T_addFaceAbove_45 : decode b_T_addFaceAbove 45 = .ok (.iload_n 3, 1) := by decide +kernel
theorem d_T_addFaceAbove_46 : decode b_T_addFaceAbove 46 = .ok (.bipush 24, 2) := by decide +kernel
theorem d_T_addFaceAbove_48 : decode b_T_addFaceAbove 48 = .ok (.if_icmp .lt 5, 3) := by decide +kernel
theorem d_T_addFaceAbove_51 : decode b_T_addFaceAbove 51 = .ok (.iconst 0, 1) := by decide +kernel
theorem d_T_addFaceAbove_52 : decode b_T_addFaceAbove 52 = .ok (.ireturn, 1) := by decide +kernel
theorem d_T_addFaceAbove_53 : decode b_T_addFaceAbove 53 = .ok (.aload_n 0, 1) := by decide +kernel
theorem d_T_addFaceAbove_54 : decode b_T_addFaceAbove 54 = .ok (.getfield 24, 3) := by decide +kernel
theorem d_T_addFaceAbove_57 : decode b_T_addFaceAbove 57 = .ok (.iload_n 1, 1) := by decide +kernel
theorem d_T_addFaceAbove_58 : decode b_T_addFaceAbove 58 = .ok (.aaload, 1) := by decide +kernel
theorem d_T_addFaceAbove_59 : decode b_T_addFaceAbove 59 = .ok (.iload_n 3, 1) := by decide +kernel
theorem d_T_addFaceAbove_60 : decode b_T_addFaceAbove 60 = .ok (.iload_n 2, 1) := by decide +kernel
theorem d_T_addFaceAbove_61 : decode b_T_addFaceAbove 61 = .ok (.iastore, 1) := by decide +kernel
theorem d_T_addFaceAbove_62 : decode b_T_addFaceAbove 62 = .ok (.aload_n 0, 1) := by decide +kernel
theorem d_T_addFaceAbove_63 : decode b_T_addFaceAbove 63 = .ok (.getfield 19, 3) := by decide +kernel
theorem d_T_addFaceAbove_66 : decode b_T_addFaceAbove 66 = .ok (.iload_n 1, 1) := by decide +kernel
theorem d_T_addFaceAbove_67 : decode b_T_addFaceAbove 67 = .ok (.iload_n 3, 1) := by decide +kernel
theorem d_T_addFaceAbove_68 : decode b_T_addFaceAbove 68 = .ok (.iconst 1, 1) := by decide +kernel
theorem d_T_addFaceAbove_69 : decode b_T_addFaceAbove 69 = .ok (.iadd, 1) := by decide +kernel
theorem d_T_addFaceAbove_70 : decode b_T_addFaceAbove 70 = .ok (.iastore, 1) := by decide +kernel
theorem d_T_addFaceAbove_71 : decode b_T_addFaceAbove 71 = .ok (.aload_n 0, 1) := by decide +kernel
theorem d_T_addFaceAbove_72 : decode b_T_addFaceAbove 72 = .ok (.iload_n 1, 1) := by decide +kernel
theorem d_T_addFaceAbove_73 : decode b_T_addFaceAbove 73 = .ok (.iload_n 2, 1) := by decide +kernel
theorem d_T_addFaceAbove_74 : decode b_T_addFaceAbove 74 = .ok (.invokevirtual 58, 3) := by decide +kernel
theorem d_T_addFaceAbove_77 : decode b_T_addFaceAbove 77 = .ok (.iconst 1, 1) := by decide +kernel
theorem d_T_addFaceAbove_78 : decode b_T_addFaceAbove 78 = .ok (.ireturn, 1) := by decide +kernel
abbrev rm_T_addFaceAbove : Room := { frames := 3, cells := 0, slots := 0, locals := 66 }
def fx_T_addFaceAbove (n : Nat) (S : ZC) (a1 : Int32) (a2 : Int32) : Option (Int32 × ZC) :=
  zbind (fx_T_isTold n S a1) (fun r_1 S_1 =>
  (if r_1 = 0 then
  some ((0 : Int32), S_1)
  else
  zbind (fx_T_isToldFace n S_1 a2) (fun r_3 S_3 =>
    (if r_3 = 0 then
    some ((0 : Int32), S_3)
    else
    zbind (fx_T_isSubtype n S_3 a2 a1) (fun r_5 S_5 =>
      (if r_5 = 0 then
      zbind (fx_T_hasFace n S_5 a1 a2) (fun r_7 S_7 =>
        (if r_7 = 0 then
        (if zoob a1 32 then none else
          (if ((tFc S_7) a1.toNatClampNeg) < (24 : Int32) then
          (if zoob a1 32 then none else
            (if zoob ((tFc S_7) a1.toNatClampNeg) 24 then none else
            zlet (tGr' S_7 (va_up (tGr S_7) (a1.toNatClampNeg) (upd (tGr S_7 (a1.toNatClampNeg)) ((tFc S_7) a1.toNatClampNeg).toNatClampNeg a2))) (fun S_13 =>
            (if zoob a1 32 then none else
            zlet (tFc' S_13 (upd (tFc S_13) a1.toNatClampNeg (((tFc S_7) a1.toNatClampNeg) + (1 : Int32)))) (fun S_15 =>
            zbind1 (fx_T_raiseAllBelow n S_15 a1 a2) (fun S_16 =>
            some ((1 : Int32), S_16)))))))
          else
          some ((0 : Int32), S_7)))
        else
        some ((0 : Int32), S_7)))
      else
      some ((0 : Int32), S_5)))))))

set_option maxRecDepth 100000 in
set_option maxHeartbeats 4000000 in
theorem k_T_addFaceAbove (l : Launch) (z : zE) (A : Nat → Nat) (Rr : va_W) (n : Nat) (S : ZC) (a1 : Int32) (a2 : Int32) (r0 : Int32) (S' : ZC) (h : fx_T_addFaceAbove n S a1 a2 = some (r0, S')) : zC z l y_T_addFaceAbove w_T_addFaceAbove rm_T_addFaceAbove [.ref (A 17), .int a1, .int a2] (cw z A S ++ Rr) (some (.int r0)) (cw z A S' ++ Rr) := by
  refine zz_of (by decide) (Nat.le_of_ble_eq_true rfl) ?_
  intro p e s m args below meth c A0 ls hM hr hlocks hA hP hD hl
  have hM : zM z p s m args c b_T_addFaceAbove 4 R_T := hM
  obtain ⟨hx, hb, hml, hown, hts, hK, hN⟩ := id hM
  have hS : va_S A0 s.heap s.heap [] := va_S.rf
  have hl : lv_has ls 4 [(0, .ref (A 17)), (1, .int a1), (2, .int a2)] := hl
  unfold fx_T_addFaceAbove at h
  refine lv_aload_n hx hb d_T_addFaceAbove_0 rfl (lv_at hl 0 rfl) ?_
  refine lv_iload_n hx hb d_T_addFaceAbove_1 rfl (lv_at hl 1 rfl) ?_
  obtain ⟨r_1, S_1, e_1, h⟩ := zz_bind h
  refine zz_goI (zz_runV (As := [.int a1]) (rest := []) (k_T_isTold l z A Rr n _ _ _ _ e_1) ⟨hx, hb, hml, hown, hts⟩ (cwV 1 hts (zz_gV wq_176 wq_177 wq_178 wq_2 wq_179) rfl rfl rfl (by decide +kernel) ⟨Nat.le_of_ble_eq_true rfl, Nat.le_of_ble_eq_true rfl⟩) hK hN hP hD (va_recv hK hP (ci := 1) (q0 := 17) rfl rfl) rfl hl.1 rfl (Nat.le_of_ble_eq_true rfl) d_T_addFaceAbove_2 ⟨Nat.le_of_ble_eq_true rfl, Nat.le_of_ble_eq_true rfl⟩) hD hS hA (fun H locs hP hD hS => ?_)
  refine lv_if_eq (tgt := 16) hx hb d_T_addFaceAbove_5 (by decide) (fun c_2 => ?_) (fun c_2 => ?_)
  · replace h := zz_t c_2 h
    refine lv_iconst (v := 0) hx hb d_T_addFaceAbove_16 (by decide) ?_
    exact zz_zret (fun S => cw z A S ++ Rr) hx hb hr hlocks hP hD hS rfl h d_T_addFaceAbove_17
  · replace h := zz_f c_2 h
    refine lv_aload_n hx hb d_T_addFaceAbove_8 rfl (lv_at hl 0 rfl) ?_
    refine lv_iload_n hx hb d_T_addFaceAbove_9 rfl (lv_at hl 2 rfl) ?_
    obtain ⟨r_3, S_3, e_3, h⟩ := zz_bind h
    refine zz_goI (zz_runV (As := [.int a2]) (rest := []) (k_T_isToldFace l z A Rr n _ _ _ _ e_3) ⟨hx, hb, hml, hown, hts⟩ (cwV 1 hts (zz_gV wq_184 wq_185 wq_186 wq_2 wq_187) rfl rfl rfl (by decide +kernel) ⟨Nat.le_of_ble_eq_true rfl, Nat.le_of_ble_eq_true rfl⟩) hK hN hP hD (va_recv hK hP (ci := 1) (q0 := 17) rfl rfl) rfl hl.1 rfl (Nat.le_of_ble_eq_true rfl) d_T_addFaceAbove_10 ⟨Nat.le_of_ble_eq_true rfl, Nat.le_of_ble_eq_true rfl⟩) hD hS hA (fun H locs hP hD hS => ?_)
    refine lv_if_ne (tgt := 18) hx hb d_T_addFaceAbove_13 (by decide) (fun c_4 => ?_) (fun c_4 => ?_)
    · replace h := zz_f c_4 h
      refine lv_aload_n hx hb d_T_addFaceAbove_18 rfl (lv_at hl 0 rfl) ?_
      refine lv_iload_n hx hb d_T_addFaceAbove_19 rfl (lv_at hl 2 rfl) ?_
      refine lv_iload_n hx hb d_T_addFaceAbove_20 rfl (lv_at hl 1 rfl) ?_
      obtain ⟨r_5, S_5, e_5, h⟩ := zz_bind h
      refine zz_goI (zz_runV (As := [.int a2, .int a1]) (rest := []) (k_T_isSubtype l z A Rr n _ _ _ _ _ e_5) ⟨hx, hb, hml, hown, hts⟩ (cwV 2 hts (zz_gV wq_188 wq_189 wq_190 wq_2 wq_191) rfl rfl rfl (by decide +kernel) ⟨Nat.le_of_ble_eq_true rfl, Nat.le_of_ble_eq_true rfl⟩) hK hN hP hD (va_recv hK hP (ci := 1) (q0 := 17) rfl rfl) rfl hl.1 rfl (Nat.le_of_ble_eq_true rfl) d_T_addFaceAbove_21 ⟨Nat.le_of_ble_eq_true rfl, Nat.le_of_ble_eq_true rfl⟩) hD hS hA (fun H locs hP hD hS => ?_)
      refine lv_if_ne (tgt := 36) hx hb d_T_addFaceAbove_24 (by decide) (fun c_6 => ?_) (fun c_6 => ?_)
      · replace h := zz_f c_6 h
        refine lv_iconst (v := 0) hx hb d_T_addFaceAbove_36 (by decide) ?_
        exact zz_zret (fun S => cw z A S ++ Rr) hx hb hr hlocks hP hD hS rfl h d_T_addFaceAbove_37
      · replace h := zz_t c_6 h
        refine lv_aload_n hx hb d_T_addFaceAbove_27 rfl (lv_at hl 0 rfl) ?_
        refine lv_iload_n hx hb d_T_addFaceAbove_28 rfl (lv_at hl 1 rfl) ?_
        refine lv_iload_n hx hb d_T_addFaceAbove_29 rfl (lv_at hl 2 rfl) ?_
        obtain ⟨r_7, S_7, e_7, h⟩ := zz_bind h
        refine zz_goI (zz_runV (As := [.int a1, .int a2]) (rest := []) (k_T_hasFace l z A Rr n _ _ _ _ _ e_7) ⟨hx, hb, hml, hown, hts⟩ (cwV 2 hts (zz_gV wq_192 wq_194 wp_0 wq_2 wq_195) rfl rfl rfl (by decide +kernel) ⟨Nat.le_of_ble_eq_true rfl, Nat.le_of_ble_eq_true rfl⟩) hK hN hP hD (va_recv hK hP (ci := 1) (q0 := 17) rfl rfl) rfl hl.1 rfl (Nat.le_of_ble_eq_true rfl) d_T_addFaceAbove_30 ⟨Nat.le_of_ble_eq_true rfl, Nat.le_of_ble_eq_true rfl⟩) hD hS hA (fun H locs hP hD hS => ?_)
        refine lv_if_eq (tgt := 38) hx hb d_T_addFaceAbove_33 (by decide) (fun c_8 => ?_) (fun c_8 => ?_)
        · replace h := zz_t c_8 h
          refine lv_aload_n hx hb d_T_addFaceAbove_38 rfl (lv_at hl 0 rfl) ?_
          refine va_get (D := z.1) (ci := 1) (v := .ref (A 20)) (C := R_T) (T := F_T) (N := 6) hx hb hts i_T hown hK hP 17 rfl rfl 2 (by decide) (hts _ wq_40) (fun _ h9 => h9) rfl d_T_addFaceAbove_39 ?_
          refine lv_iload_n hx hb d_T_addFaceAbove_42 rfl (lv_at hl 1 rfl) ?_
          obtain ⟨c_9, h⟩ := zz_oob h
          refine va_iald hx hb hK hP 20 0 rfl rfl c_9 d_T_addFaceAbove_43 ?_
          refine lv_istore_n (lv' := [(3, .int ((tFc S_7) a1.toNatClampNeg)), (0, .ref (A 17)), (1, .int a1), (2, .int a2)]) hx hb d_T_addFaceAbove_44 rfl hl (by decide) rfl (fun ls hl => ?_)
          refine lv_iload_n hx hb d_T_addFaceAbove_45 rfl (lv_at hl 0 rfl) ?_
          refine lv_bipush (v := 24) hx hb d_T_addFaceAbove_46 (by decide) ?_
          refine lv_icmp_lt (tgt := 53) hx hb d_T_addFaceAbove_48 (by decide) (fun c_10 => ?_) (fun c_10 => ?_)
          · replace h := zz_t c_10 h
            refine lv_aload_n hx hb d_T_addFaceAbove_53 rfl (lv_at hl 1 rfl) ?_
            refine va_get (D := z.1) (ci := 1) (v := .ref (A 21)) (C := R_T) (T := F_T) (N := 6) hx hb hts i_T hown hK hP 17 rfl rfl 3 (by decide) (hts _ wq_41) (fun _ h9 => h9) rfl d_T_addFaceAbove_54 ?_
            refine lv_iload_n hx hb d_T_addFaceAbove_57 rfl (lv_at hl 2 rfl) ?_
            obtain ⟨c_11, h⟩ := zz_oob h
            refine zz_aald hx hb hK hP 21 3 rfl rfl c_11 d_T_addFaceAbove_58 ?_
            have c_11 := zz_lt c_11
            refine lv_iload_n hx hb d_T_addFaceAbove_59 rfl (lv_at hl 0 rfl) ?_
            refine lv_iload_n hx hb d_T_addFaceAbove_60 rfl (lv_at hl 3 rfl) ?_
            obtain ⟨c_12, h⟩ := zz_oob h
            obtain ⟨S_13, e_13, h⟩ := zz_let h
            refine va_iast hx hb hK hP hD hS (23 + a1.toNatClampNeg) 0 (cw_row c_11) rfl c_12 d_T_addFaceAbove_61 (fun H locs hP hD hS => ?_)
            have hP : va_P z.1 vwCl (cw z A S_13 ++ Rr) H := by rw [e_13]; exact (by rw [← cw_srow c_11]; exact hP)
            have hD : va_D A0 (cw z A S_13 ++ Rr) := by rw [e_13]; exact (by rw [← cw_srow c_11]; exact hD)
            refine lv_aload_n hx hb d_T_addFaceAbove_62 rfl (lv_at hl 1 rfl) ?_
            refine va_get (D := z.1) (ci := 1) (v := .ref (A 20)) (C := R_T) (T := F_T) (N := 6) hx hb hts i_T hown hK hP 17 rfl rfl 2 (by decide) (hts _ wq_40) (fun _ h9 => h9) rfl d_T_addFaceAbove_63 ?_
            refine lv_iload_n hx hb d_T_addFaceAbove_66 rfl (lv_at hl 2 rfl) ?_
            refine lv_iload_n hx hb d_T_addFaceAbove_67 rfl (lv_at hl 0 rfl) ?_
            refine lv_iconst (v := 1) hx hb d_T_addFaceAbove_68 (by decide) ?_
            refine lv_iadd hx hb d_T_addFaceAbove_69 ?_
            obtain ⟨c_14, h⟩ := zz_oob h
            obtain ⟨S_15, e_15, h⟩ := zz_let h
            refine va_iast hx hb hK hP hD hS 20 0 rfl rfl c_14 d_T_addFaceAbove_70 (fun H locs hP hD hS => ?_)
            have hP : va_P z.1 vwCl (cw z A S_15 ++ Rr) H := by rw [e_15]; exact hP
            have hD : va_D A0 (cw z A S_15 ++ Rr) := by rw [e_15]; exact hD
            refine lv_aload_n hx hb d_T_addFaceAbove_71 rfl (lv_at hl 1 rfl) ?_
            refine lv_iload_n hx hb d_T_addFaceAbove_72 rfl (lv_at hl 2 rfl) ?_
            refine lv_iload_n hx hb d_T_addFaceAbove_73 rfl (lv_at hl 3 rfl) ?_
            obtain ⟨S_16, e_16, h⟩ := zz_bind1 h
            refine zz_goV (zz_runV (As := [.int a1, .int a2]) (rest := []) (k_T_raiseAllBelow l z A Rr n _ _ _ _ e_16) ⟨hx, hb, hml, hown, hts⟩ (cwV 2 hts (zz_gV wq_199 wq_201 wp_1 wq_2 wq_202) rfl rfl rfl (by decide +kernel) ⟨Nat.le_of_ble_eq_true rfl, Nat.le_of_ble_eq_true rfl⟩) hK hN hP hD (va_recv hK hP (ci := 1) (q0 := 17) rfl rfl) rfl hl.1 rfl (Nat.le_of_ble_eq_true rfl) d_T_addFaceAbove_74 ⟨Nat.le_of_ble_eq_true rfl, Nat.le_of_ble_eq_true rfl⟩) hD hS hA (fun H locs hP hD hS => ?_)
            refine lv_iconst (v := 1) hx hb d_T_addFaceAbove_77 (by decide) ?_
            exact zz_zret (fun S => cw z A S ++ Rr) hx hb hr hlocks hP hD hS rfl h d_T_addFaceAbove_78
          · replace h := zz_f c_10 h
            refine lv_iconst (v := 0) hx hb d_T_addFaceAbove_51 (by decide) ?_
            exact zz_zret (fun S => cw z A S ++ Rr) hx hb hr hlocks hP hD hS rfl h d_T_addFaceAbove_52
        · replace h := zz_f c_8 h
          refine lv_iconst (v := 0) hx hb d_T_addFaceAbove_36 (by decide) ?_
          exact zz_zret (fun S => cw z A S ++ Rr) hx hb hr hlocks hP hD hS rfl h d_T_addFaceAbove_37
    · replace h := zz_t c_4 h
      refine lv_iconst (v := 0) hx hb d_T_addFaceAbove_16 (by decide) ?_
      exact zz_zret (fun S => cw z A S ++ Rr) hx hb hr hlocks hP hD hS rfl h d_T_addFaceAbove_17

abbrev b_T_tell : ByteArray := prog_5_method_11_code
abbrev y_T_tell : MethodName := ⟨"MemberChooser$Types", "tell", "(II)I"⟩
abbrev w_T_tell : List Cond := Cond.code y_T_tell b_T_tell 3 (some .int) :: zTb
theorem d_T_tell_0 : decode b_T_tell 0 = .ok (.aload_n 0, 1) := by decide +kernel
theorem d_T_tell_1 : decode b_T_tell 1 = .ok (.iload_n 1, 1) := by decide +kernel
theorem d_T_tell_2 : decode b_T_tell 2 = .ok (.invokevirtual 45, 3) := by decide +kernel
theorem d_T_tell_5 : decode b_T_tell 5 = .ok (.ifCond .ne 5, 3) := by decide +kernel
theorem d_T_tell_8 : decode b_T_tell 8 = .ok (.iconst (-1), 1) := by decide +kernel
theorem d_T_tell_9 : decode b_T_tell 9 = .ok (.ireturn, 1) := by decide +kernel
theorem d_T_tell_10 : decode b_T_tell 10 = .ok (.iload_n 2, 1) := by decide +kernel
theorem d_T_tell_11 : decode b_T_tell 11 = .ok (.tableswitch 68 0 3 #[29, 44, 51, 58], 29) := by decide +kernel
theorem d_T_tell_40 : decode b_T_tell 40 = .ok (.aload_n 0, 1) := by decide +kernel
theorem d_T_tell_41 : decode b_T_tell 41 = .ok (.getfield 11, 3) := by decide +kernel
theorem d_T_tell_44 : decode b_T_tell 44 = .ok (.iload_n 1, 1) := by decide +kernel
theorem d_T_tell_45 : decode b_T_tell 45 = .ok (.baload, 1) := by decide +kernel
theorem d_T_tell_46 : decode b_T_tell 46 = .ok (.ifCond .eq 7, 3) := by decide +kernel
theorem d_T_tell_49 : decode b_T_tell 49 = .ok (.iconst 1, 1) := by decide +kernel
theorem d_T_tell_50 : decode b_T_tell 50 = .ok (.goto 4, 3) := by decide +kernel
theorem d_T_tell_53 : decode b_T_tell 53 = .ok (.iconst 0, 1) := by decide +kernel
theorem d_T_tell_54 : decode b_T_tell 54 = .ok (.ireturn, 1) := by decide +kernel
theorem d_T_tell_55 : decode b_T_tell 55 = .ok (.aload_n 0, 1) := by decide +kernel
theorem d_T_tell_56 : decode b_T_tell 56 = .ok (.getfield 15, 3) := by decide +kernel
theorem d_T_tell_59 : decode b_T_tell 59 = .ok (.iload_n 1, 1) := by decide +kernel
theorem d_T_tell_60 : decode b_T_tell 60 = .ok (.iaload, 1) := by decide +kernel
theorem d_T_tell_61 : decode b_T_tell 61 = .ok (.ireturn, 1) := by decide +kernel
theorem d_T_tell_62 : decode b_T_tell 62 = .ok (.aload_n 0, 1) := by decide +kernel
theorem d_T_tell_63 : decode b_T_tell 63 = .ok (.getfield 19, 3) := by decide +kernel
theorem d_T_tell_66 : decode b_T_tell 66 = .ok (.iload_n 1, 1) := by decide +kernel
theorem d_T_tell_67 : decode b_T_tell 67 = .ok (.iaload, 1) := by decide +kernel
theorem d_T_tell_68 : decode b_T_tell 68 = .ok (.ireturn, 1) := by decide +kernel
theorem d_T_tell_69 : decode b_T_tell 69 = .ok (.aload_n 0, 1) := by decide +kernel
theorem d_T_tell_70 : decode b_T_tell 70 = .ok (.getfield 27, 3) := by decide +kernel
theorem d_T_tell_73 : decode b_T_tell 73 = .ok (.iload_n 1, 1) := by decide +kernel
theorem d_T_tell_74 : decode b_T_tell 74 = .ok (.iaload, 1) := by decide +kernel
theorem d_T_tell_75 : decode b_T_tell 75 = .ok (.invokestatic 62, 3) := by decide +kernel
theorem d_T_tell_78 : decode b_T_tell 78 = .ok (.ireturn, 1) := by decide +kernel
theorem d_T_tell_79 : decode b_T_tell 79 = .ok (.iconst (-1), 1) := by decide +kernel
theorem d_T_tell_80 : decode b_T_tell 80 = .ok (.ireturn, 1) := by decide +kernel
abbrev rm_T_tell : Room := { frames := 2, cells := 0, slots := 0, locals := 42 }
def fx_T_tell (n : Nat) (S : ZC) (a1 : Int32) (a2 : Int32) : Option (Int32 × ZC) :=
  zbind (fx_T_isTold n S a1) (fun r_1 S_1 =>
  (if r_1 = 0 then
  some ((-1 : Int32), S_1)
  else
  (if a2 = (0 : Int32) then
    (if zoob a1 32 then none else
      (if ((tFm S_1) a1.toNatClampNeg) = 0 then
      some ((0 : Int32), S_1)
      else
      some ((1 : Int32), S_1)))
    else (if a2 = (1 : Int32) then
    (if zoob a1 32 then none else
      some (((tCa S_1) a1.toNatClampNeg), S_1))
    else (if a2 = (2 : Int32) then
    (if zoob a1 32 then none else
      some (((tFc S_1) a1.toNatClampNeg), S_1))
    else (if a2 = (3 : Int32) then
    (if zoob a1 32 then none else
      zbind1 (fx_I_bitCount n ((tUp S_1) a1.toNatClampNeg)) (fun r_12 =>
      some (r_12, S_1)))
    else some ((-1 : Int32), S_1)))))))

set_option maxRecDepth 100000 in
set_option maxHeartbeats 4000000 in
theorem k_T_tell (l : Launch) (z : zE) (A : Nat → Nat) (Rr : va_W) (n : Nat) (S : ZC) (a1 : Int32) (a2 : Int32) (r0 : Int32) (S' : ZC) (h : fx_T_tell n S a1 a2 = some (r0, S')) : zC z l y_T_tell w_T_tell rm_T_tell [.ref (A 17), .int a1, .int a2] (cw z A S ++ Rr) (some (.int r0)) (cw z A S' ++ Rr) := by
  refine zz_of (by decide) (Nat.le_of_ble_eq_true rfl) ?_
  intro p e s m args below meth c A0 ls hM hr hlocks hA hP hD hl
  have hM : zM z p s m args c b_T_tell 3 R_T := hM
  obtain ⟨hx, hb, hml, hown, hts, hK, hN⟩ := id hM
  have hS : va_S A0 s.heap s.heap [] := va_S.rf
  have hl : lv_has ls 3 [(0, .ref (A 17)), (1, .int a1), (2, .int a2)] := hl
  unfold fx_T_tell at h
  refine lv_aload_n hx hb d_T_tell_0 rfl (lv_at hl 0 rfl) ?_
  refine lv_iload_n hx hb d_T_tell_1 rfl (lv_at hl 1 rfl) ?_
  obtain ⟨r_1, S_1, e_1, h⟩ := zz_bind h
  refine zz_goI (zz_runV (As := [.int a1]) (rest := []) (k_T_isTold l z A Rr n _ _ _ _ e_1) ⟨hx, hb, hml, hown, hts⟩ (cwV 1 hts (zz_gV wq_176 wq_177 wq_178 wq_2 wq_179) rfl rfl rfl (by decide +kernel) ⟨Nat.le_of_ble_eq_true rfl, Nat.le_of_ble_eq_true rfl⟩) hK hN hP hD (va_recv hK hP (ci := 1) (q0 := 17) rfl rfl) rfl hl.1 rfl (Nat.le_of_ble_eq_true rfl) d_T_tell_2 ⟨Nat.le_of_ble_eq_true rfl, Nat.le_of_ble_eq_true rfl⟩) hD hS hA (fun H locs hP hD hS => ?_)
  refine lv_if_ne (tgt := 10) hx hb d_T_tell_5 (by decide) (fun c_2 => ?_) (fun c_2 => ?_)
  · replace h := zz_f c_2 h
    refine lv_iload_n hx hb d_T_tell_10 rfl (lv_at hl 2 rfl) ?_
    by_cases c_3 : a2 = (0 : Int32)
    · replace h := zz_t c_3 h
      refine lv_tableIn (tgt := 40) hx hb d_T_tell_11 (by rw [c_3]; decide) (by rw [c_3]; decide) (by rw [c_3]; rfl) (by decide) ?_
      refine lv_aload_n hx hb d_T_tell_40 rfl (lv_at hl 0 rfl) ?_
      refine va_get (D := z.1) (ci := 1) (v := .ref (A 18)) (C := R_T) (T := F_T) (N := 6) hx hb hts i_T hown hK hP 17 rfl rfl 0 (by decide) (hts _ wq_38) (fun _ h9 => h9) rfl d_T_tell_41 ?_
      refine lv_iload_n hx hb d_T_tell_44 rfl (lv_at hl 1 rfl) ?_
      obtain ⟨c_4, h⟩ := zz_oob h
      refine va_zald hx hb hK hP 18 1 rfl rfl c_4 d_T_tell_45 ?_
      refine lv_if_eq (tgt := 53) hx hb d_T_tell_46 (by decide) (fun c_5 => ?_) (fun c_5 => ?_)
      · replace h := zz_t c_5 h
        refine lv_iconst (v := 0) hx hb d_T_tell_53 (by decide) ?_
        exact zz_iret (fun S => cw z A S ++ Rr) hx hb hr hlocks hP hD hS h d_T_tell_54
      · replace h := zz_f c_5 h
        refine lv_iconst (v := 1) hx hb d_T_tell_49 (by decide) ?_
        refine lv_goto (tgt := 54) hx hb d_T_tell_50 (by decide) ?_
        exact zz_iret (fun S => cw z A S ++ Rr) hx hb hr hlocks hP hD hS h d_T_tell_54
    replace h := zz_f c_3 h
    by_cases c_6 : a2 = (1 : Int32)
    · replace h := zz_t c_6 h
      refine lv_tableIn (tgt := 55) hx hb d_T_tell_11 (by rw [c_6]; decide) (by rw [c_6]; decide) (by rw [c_6]; rfl) (by decide) ?_
      refine lv_aload_n hx hb d_T_tell_55 rfl (lv_at hl 0 rfl) ?_
      refine va_get (D := z.1) (ci := 1) (v := .ref (A 19)) (C := R_T) (T := F_T) (N := 6) hx hb hts i_T hown hK hP 17 rfl rfl 1 (by decide) (hts _ wq_39) (fun _ h9 => h9) rfl d_T_tell_56 ?_
      refine lv_iload_n hx hb d_T_tell_59 rfl (lv_at hl 1 rfl) ?_
      obtain ⟨c_7, h⟩ := zz_oob h
      refine va_iald hx hb hK hP 19 0 rfl rfl c_7 d_T_tell_60 ?_
      exact zz_iret (fun S => cw z A S ++ Rr) hx hb hr hlocks hP hD hS h d_T_tell_61
    replace h := zz_f c_6 h
    by_cases c_8 : a2 = (2 : Int32)
    · replace h := zz_t c_8 h
      refine lv_tableIn (tgt := 62) hx hb d_T_tell_11 (by rw [c_8]; decide) (by rw [c_8]; decide) (by rw [c_8]; rfl) (by decide) ?_
      refine lv_aload_n hx hb d_T_tell_62 rfl (lv_at hl 0 rfl) ?_
      refine va_get (D := z.1) (ci := 1) (v := .ref (A 20)) (C := R_T) (T := F_T) (N := 6) hx hb hts i_T hown hK hP 17 rfl rfl 2 (by decide) (hts _ wq_40) (fun _ h9 => h9) rfl d_T_tell_63 ?_
      refine lv_iload_n hx hb d_T_tell_66 rfl (lv_at hl 1 rfl) ?_
      obtain ⟨c_9, h⟩ := zz_oob h
      refine va_iald hx hb hK hP 20 0 rfl rfl c_9 d_T_tell_67 ?_
      exact zz_iret (fun S => cw z A S ++ Rr) hx hb hr hlocks hP hD hS h d_T_tell_68
    replace h := zz_f c_8 h
    by_cases c_10 : a2 = (3 : Int32)
    · replace h := zz_t c_10 h
      refine lv_tableIn (tgt := 69) hx hb d_T_tell_11 (by rw [c_10]; decide) (by rw [c_10]; decide) (by rw [c_10]; rfl) (by decide) ?_
      refine lv_aload_n hx hb d_T_tell_69 rfl (lv_at hl 0 rfl) ?_
      refine va_get (D := z.1) (ci := 1) (v := .ref (A 22)) (C := R_T) (T := F_T) (N := 6) hx hb hts i_T hown hK hP 17 rfl rfl 4 (by decide) (hts _ wq_42) (fun _ h9 => h9) rfl d_T_tell_70 ?_
      refine lv_iload_n hx hb d_T_tell_73 rfl (lv_at hl 1 rfl) ?_
      obtain ⟨c_11, h⟩ := zz_oob h
      refine va_iald hx hb hK hP 22 0 rfl rfl c_11 d_T_tell_74 ?_
      obtain ⟨r_12, e_12, h⟩ := zz_bind1 h
      refine zz_goI (zz_runS (As := [.int ((tUp S_1) a1.toNatClampNeg)]) (rest := []) (k_I_bitCount l z _ n _ _ e_12) ⟨hx, hb, hml, hown, hts⟩ (va_cwS 1 hts (zz_gS wq_267 wq_268 wq_15 wq_269) rfl rfl rfl (by decide +kernel) ⟨Nat.le_of_ble_eq_true rfl, Nat.le_of_ble_eq_true rfl⟩) hK hN hP hD rfl hl.1 rfl (Nat.le_of_ble_eq_true rfl) d_T_tell_75 ⟨Nat.le_of_ble_eq_true rfl, Nat.le_of_ble_eq_true rfl⟩) hD hS hA (fun H locs hP hD hS => ?_)
      exact zz_iret (fun S => cw z A S ++ Rr) hx hb hr hlocks hP hD hS h d_T_tell_78
    replace h := zz_f c_10 h
    refine lv_tableOut (tgt := 79) hx hb d_T_tell_11 (by have qc_3 := zz_tne (a := 0) (by decide) c_3; have qc_6 := zz_tne (a := 1) (by decide) c_6; have qc_8 := zz_tne (a := 2) (by decide) c_8; have qc_10 := zz_tne (a := 3) (by decide) c_10; omega) (by decide) ?_
    refine lv_iconst (v := -1) hx hb d_T_tell_79 (by decide) ?_
    exact zz_iret (fun S => cw z A S ++ Rr) hx hb hr hlocks hP hD hS h d_T_tell_80
  · replace h := zz_t c_2 h
    refine lv_iconst (v := -1) hx hb d_T_tell_8 (by decide) ?_
    exact zz_iret (fun S => cw z A S ++ Rr) hx hb hr hlocks hP hD hS h d_T_tell_9

abbrev b_T_appendFaces : ByteArray := prog_5_method_13_code
abbrev y_T_appendFaces : MethodName := ⟨"MemberChooser$Types", "appendFaces", "(LMemberChooser$Types;I[III)I"⟩
abbrev w_T_appendFaces : List Cond := Cond.code y_T_appendFaces b_T_appendFaces 8 (some .int) :: zTb
theorem d_T_appendFaces_0 : decode b_T_appendFaces 0 = .ok (.iload 4, 2) := by decide +kernel
theorem d_T_appendFaces_2 : decode b_T_appendFaces 2 = .ok (.bipush 24, 2) := by decide +kernel
theorem d_T_appendFaces_4 : decode b_T_appendFaces 4 = .ok (.if_icmp .lt 5, 3) := by decide +kernel
theorem d_T_appendFaces_7 : decode b_T_appendFaces 7 = .ok (.iload_n 3, 1) := by decide +kernel
theorem d_T_appendFaces_8 : decode b_T_appendFaces 8 = .ok (.ireturn, 1) := by decide +kernel
theorem d_T_appendFaces_9 : decode b_T_appendFaces 9 = .ok (.iload_n 3, 1) := by decide +kernel
theorem d_T_appendFaces_10 : decode b_T_appendFaces 10 = .ok (.istore 5, 2) := by decide +kernel
theorem d_T_appendFaces_12 : decode b_T_appendFaces 12 = .ok (.iconst 0, 1) := by decide +kernel
theorem d_T_appendFaces_13 : decode b_T_appendFaces 13 = .ok (.istore 6, 2) := by decide +kernel
theorem d_T_appendFaces_15 : decode b_T_appendFaces 15 = .ok (.iload 6, 2) := by decide +kernel
theorem d_T_appendFaces_17 : decode b_T_appendFaces 17 = .ok (.aload_n 0, 1) := by decide +kernel
theorem d_T_appendFaces_18 : decode b_T_appendFaces 18 = .ok (.getfield 19, 3) := by decide +kernel
theorem d_T_appendFaces_21 : decode b_T_appendFaces 21 = .ok (.iload_n 1, 1) := by decide +kernel
theorem d_T_appendFaces_22 : decode b_T_appendFaces 22 = .ok (.iaload, 1) := by decide +kernel
theorem d_T_appendFaces_23 : decode b_T_appendFaces 23 = .ok (.if_icmp .ge 61, 3) := by decide +kernel
theorem d_T_appendFaces_26 : decode b_T_appendFaces 26 = .ok (.aload_n 0, 1) := by decide +kernel
theorem d_T_appendFaces_27 : decode b_T_appendFaces 27 = .ok (.getfield 24, 3) := by decide +kernel
theorem d_T_appendFaces_30 : decode b_T_appendFaces 30 = .ok (.iload_n 1, 1) := by decide +kernel
theorem d_T_appendFaces_31 : decode b_T_appendFaces 31 = .ok (.aaload, 1) := by decide +kernel
theorem d_T_appendFaces_32 : decode b_T_appendFaces 32 = .ok (.iload 6, 2) := by decide +kernel
theorem d_T_appendFaces_34 : decode b_T_appendFaces 34 = .ok (.iaload, 1) := by decide +kernel
theorem d_T_appendFaces_35 : decode b_T_appendFaces 35 = .ok (.istore 7, 2) := by decide +kernel
theorem d_T_appendFaces_37 : decode b_T_appendFaces 37 = .ok (.iload 5, 2) := by decide +kernel
theorem d_T_appendFaces_39 : decode b_T_appendFaces 39 = .ok (.aload_n 2, 1) := by decide +kernel
theorem d_T_appendFaces_40 : decode b_T_appendFaces 40 = .ok (.arraylength, 1) := by decide +kernel
theorem d_T_appendFaces_41 : decode b_T_appendFaces 41 = .ok (.if_icmp .ge 37, 3) := by decide +kernel
theorem d_T_appendFaces_44 : decode b_T_appendFaces 44 = .ok (.aload_n 2, 1) := by decide +kernel
theorem d_T_appendFaces_45 : decode b_T_appendFaces 45 = .ok (.iload 5, 2) := by decide +kernel
theorem d_T_appendFaces_47 : decode b_T_appendFaces 47 = .ok (.iload 7, 2) := by decide +kernel
theorem d_T_appendFaces_49 : decode b_T_appendFaces 49 = .ok (.invokestatic 71, 3) := by decide +kernel
theorem d_T_appendFaces_52 : decode b_T_appendFaces 52 = .ok (.ifCond .ne 26, 3) := by decide +kernel
theorem d_T_appendFaces_55 : decode b_T_appendFaces 55 = .ok (.aload_n 2, 1) := by decide +kernel
theorem d_T_appendFaces_56 : decode b_T_appendFaces 56 = .ok (.iload 5, 2) := by decide +kernel
theorem d_T_appendFaces_58 : decode b_T_appendFaces 58 = .ok (.iload 7, 2) := by decide +kernel
theorem d_T_appendFaces_60 : decode b_T_appendFaces 60 = .ok (.iastore, 1) := by decide +kernel
theorem d_T_appendFaces_61 : decode b_T_appendFaces 61 = .ok (.aload_n 0, 1) := by decide +kernel
theorem d_T_appendFaces_62 : decode b_T_appendFaces 62 = .ok (.iload 7, 2) := by decide +kernel
theorem d_T_appendFaces_64 : decode b_T_appendFaces 64 = .ok (.aload_n 2, 1) := by decide +kernel
theorem d_T_appendFaces_65 : decode b_T_appendFaces 65 = .ok (.iload 5, 2) := by decide +kernel
theorem d_T_appendFaces_67 : decode b_T_appendFaces 67 = .ok (.iconst 1, 1) := by decide +kernel
theorem d_T_appendFaces_68 : decode b_T_appendFaces 68 = .ok (.iadd, 1) := by decide +kernel
theorem d_T_appendFaces_69 : decode b_T_appendFaces 69 = .ok (.iload 4, 2) := by decide +kernel
theorem d_T_appendFaces_71 : decode b_T_appendFaces 71 = .ok (.iconst 1, 1) := by decide +kernel
theorem d_T_appendFaces_72 : decode b_T_appendFaces 72 = .ok (.iadd, 1) := by decide +kernel
theorem d_T_appendFaces_73 : decode b_T_appendFaces 73 = .ok (.invokestatic 67, 3) := by decide +kernel
theorem d_T_appendFaces_76 : decode b_T_appendFaces 76 = .ok (.istore 5, 2) := by decide +kernel
theorem d_T_appendFaces_78 : decode b_T_appendFaces 78 = .ok (.iinc 6 1, 3) := by decide +kernel
theorem d_T_appendFaces_81 : decode b_T_appendFaces 81 = .ok (.goto (-66), 3) := by decide +kernel
theorem d_T_appendFaces_84 : decode b_T_appendFaces 84 = .ok (.iload 5, 2) := by decide +kernel
theorem d_T_appendFaces_86 : decode b_T_appendFaces 86 = .ok (.ireturn, 1) := by decide +kernel
abbrev rm_T_appendFaces (d : Nat) : Room := { frames := d + 1, cells := 0, slots := 0, locals := 27 * d + 23 }
def st_T_appendFaces_L15 (n : Nat) (F : ZC → Int32 → Int32 → Int32 → Option (Int32 × ZC)) (v1 : Int32) (v4 : Int32) (v5 : Int32) (v6 : Int32) (S : ZC) : Option ((Int32 × Int32 × ZC) ⊕ (Nat × Int32 × Int32 × ZC)) :=
  (if zoob v1 32 then none else
  (if ((tFc S) v1.toNatClampNeg) ≤ v6 then
  some (.inr (84, v5, v6, S))
  else
  (if zoob v1 32 then none else
    (if zoob v6 24 then none else
    (if (24 : Int32) ≤ v5 then
    some (.inl (v5, (v6 + (1 : Int32)), S))
    else
    zbind1 (fx_T_holds n 24 (hLi S) v5 ((tGr S (v1.toNatClampNeg)) v6.toNatClampNeg)) (fun r_7 =>
      (if r_7 = 0 then
      (if zoob v5 24 then none else
        zlet (hLi' S (upd (hLi S) v5.toNatClampNeg ((tGr S (v1.toNatClampNeg)) v6.toNatClampNeg))) (fun S_10 =>
        zbind (F S_10 ((tGr S (v1.toNatClampNeg)) v6.toNatClampNeg) (v5 + (1 : Int32)) (v4 + (1 : Int32))) (fun r_11 S_11 =>
        some (.inl (r_11, (v6 + (1 : Int32)), S_11)))))
      else
      some (.inl (v5, (v6 + (1 : Int32)), S)))))))))

def fx_T_appendFaces_L15 (n : Nat) (F : ZC → Int32 → Int32 → Int32 → Option (Int32 × ZC)) (v1 : Int32) (v4 : Int32) (v5 : Int32) (v6 : Int32) (S : ZC) : Option (Nat × Int32 × Int32 × ZC) := zloop (fun (st : Int32 × Int32 × ZC) => st_T_appendFaces_L15 n F v1 v4 st.1 st.2.1 st.2.2) n (v5, v6, S)

def bx_T_appendFaces (n : Nat) (F : ZC → Int32 → Int32 → Int32 → Option (Int32 × ZC)) (S : ZC) (a1 : Int32) (a3 : Int32) (a4 : Int32) : Option (Int32 × ZC) :=
  (if a4 < (24 : Int32) then
  zbL3 (fx_T_appendFaces_L15 n F a1 a4 a3 (0 : Int32) S) (fun x_12 v5_12 v6_12 S_12 =>
    if x_12 = 84 then
    some (v5_12, S_12)
    else none)
  else
  some (a3, S))

def fx_T_appendFaces (n : Nat) : Nat → ZC → Int32 → Int32 → Int32 → Option (Int32 × ZC)
  | 0, _, _, _, _ => none
  | d + 1, S, a1, a3, a4 => bx_T_appendFaces n (fx_T_appendFaces n d) S a1 a3 a4

set_option maxRecDepth 100000 in
set_option maxHeartbeats 4000000 in
theorem lp_T_appendFaces_L15 {z : zE} {A : Nat → Nat} {Rr : va_W} {p : Program} {l : Launch} {e : Env} {s : State} {m : MethodId} {args : Array Value} {below : List Frame} {meth : Method} {c : Code} {Q : State → Prop} {H0 : Heap} {A0 : Nat → Prop} {d : Nat} {F : ZC → Int32 → Int32 → Int32 → Option (Int32 × ZC)} (hF : ∀ (S : ZC) (a1 a3 a4 r0 : Int32) (S' : ZC), F S a1 a3 a4 = some (r0, S') → zC z l y_T_appendFaces w_T_appendFaces (rm_T_appendFaces d) [.ref (A 17), .int a1, .ref (A 8), .int a3, .int a4] (cw z A S ++ Rr) (some (.int r0)) (cw z A S' ++ Rr)) (hM : zM z p s m args c b_T_appendFaces 8 R_T) (hA : ∀ q : Nat, H0.size ≤ q → A0 q) (n : Nat) (v1 : Int32) (v4 : Int32) :
    ∀ (v5 : Int32) (v6 : Int32) (S : ZC) (r : Nat × Int32 × Int32 × ZC), fx_T_appendFaces_L15 n F v1 v4 v5 v6 S = some r → (∀ (H : Heap) (locs : List Loc) (ls : Array Slot), va_P z.1 vwCl (cw z A r.2.2.2 ++ Rr) H → va_D A0 (cw z A r.2.2.2 ++ Rr) → va_S A0 H0 H locs → lv_has ls 8 [(0, .ref (A 17)), (1, .int v1), (2, .ref (A 8)), (4, .int v4), (5, .int r.2.1), (6, .int r.2.2.1)] → W p l e (rm_T_appendFaces (d + 1)) s m args below meth c H locs 0 0 Q (F0 m r.1 ls [])) →
    ∀ (H : Heap) (locs : List Loc) (ls : Array Slot), va_P z.1 vwCl (cw z A S ++ Rr) H → va_D A0 (cw z A S ++ Rr) → va_S A0 H0 H locs → lv_has ls 8 [(0, .ref (A 17)), (1, .int v1), (2, .ref (A 8)), (4, .int v4), (5, .int v5), (6, .int v6)] → W p l e (rm_T_appendFaces (d + 1)) s m args below meth c H locs 0 0 Q (F0 m 15 ls []) := by
  obtain ⟨hx, hb, hml, hown, hts, hK, hN⟩ := id hM
  intro v5 v6 S r h hE
  refine zz_loop (G := fun (st : Int32 × Int32 × ZC) => ∀ (H : Heap) (locs : List Loc) (ls : Array Slot), va_P z.1 vwCl (cw z A st.2.2 ++ Rr) H → va_D A0 (cw z A st.2.2 ++ Rr) → va_S A0 H0 H locs → lv_has ls 8 [(0, .ref (A 17)), (1, .int v1), (2, .ref (A 8)), (4, .int v4), (5, .int st.1), (6, .int st.2.1)] → W p l e (rm_T_appendFaces (d + 1)) s m args below meth c H locs 0 0 Q (F0 m 15 ls [])) (E := fun (r : Nat × Int32 × Int32 × ZC) => ∀ (H : Heap) (locs : List Loc) (ls : Array Slot), va_P z.1 vwCl (cw z A r.2.2.2 ++ Rr) H → va_D A0 (cw z A r.2.2.2 ++ Rr) → va_S A0 H0 H locs → lv_has ls 8 [(0, .ref (A 17)), (1, .int v1), (2, .ref (A 8)), (4, .int v4), (5, .int r.2.1), (6, .int r.2.2.1)] → W p l e (rm_T_appendFaces (d + 1)) s m args below meth c H locs 0 0 Q (F0 m r.1 ls [])) ?_ n (v5, v6, S) r h hE
  clear h hE r v5 v6 S
  rintro ⟨v5, v6, S⟩ o h hG hE H locs ls hP hD hS hl
  have h : st_T_appendFaces_L15 n F v1 v4 v5 v6 S = some o := h
  have hl : lv_has ls 8 [(0, .ref (A 17)), (1, .int v1), (2, .ref (A 8)), (4, .int v4), (5, .int v5), (6, .int v6)] := hl
  have hP : va_P z.1 vwCl (cw z A S ++ Rr) H := hP
  have hD : va_D A0 (cw z A S ++ Rr) := hD
  unfold st_T_appendFaces_L15 at h
  refine lv_iload hx hb d_T_appendFaces_15 (lv_at hl 5 rfl) ?_
  refine lv_aload_n hx hb d_T_appendFaces_17 rfl (lv_at hl 0 rfl) ?_
  refine va_get (D := z.1) (ci := 1) (v := .ref (A 20)) (C := R_T) (T := F_T) (N := 6) hx hb hts i_T hown hK hP 17 rfl rfl 2 (by decide) (hts _ wq_40) (fun _ h9 => h9) rfl d_T_appendFaces_18 ?_
  refine lv_iload_n hx hb d_T_appendFaces_21 rfl (lv_at hl 1 rfl) ?_
  obtain ⟨c_2, h⟩ := zz_oob h
  refine va_iald hx hb hK hP 20 0 rfl rfl c_2 d_T_appendFaces_22 ?_
  refine lv_icmp_ge (tgt := 84) hx hb d_T_appendFaces_23 (by decide) (fun c_3 => ?_) (fun c_3 => ?_)
  · replace h := zz_t c_3 h
    exact hE _ (Option.some.inj h).symm _ _ _ hP hD hS hl
  · replace h := zz_f c_3 h
    refine lv_aload_n hx hb d_T_appendFaces_26 rfl (lv_at hl 0 rfl) ?_
    refine va_get (D := z.1) (ci := 1) (v := .ref (A 21)) (C := R_T) (T := F_T) (N := 6) hx hb hts i_T hown hK hP 17 rfl rfl 3 (by decide) (hts _ wq_41) (fun _ h9 => h9) rfl d_T_appendFaces_27 ?_
    refine lv_iload_n hx hb d_T_appendFaces_30 rfl (lv_at hl 1 rfl) ?_
    obtain ⟨c_4, h⟩ := zz_oob h
    refine zz_aald hx hb hK hP 21 3 rfl rfl c_4 d_T_appendFaces_31 ?_
    have c_4 := zz_lt c_4
    refine lv_iload hx hb d_T_appendFaces_32 (lv_at hl 5 rfl) ?_
    obtain ⟨c_5, h⟩ := zz_oob h
    refine va_iald hx hb hK hP (23 + v1.toNatClampNeg) 0 (cw_row c_4) rfl c_5 d_T_appendFaces_34 ?_
    refine lv_istore (lv' := [(7, .int ((tGr S (v1.toNatClampNeg)) v6.toNatClampNeg)), (0, .ref (A 17)), (1, .int v1), (2, .ref (A 8)), (4, .int v4), (5, .int v5), (6, .int v6)]) hx hb d_T_appendFaces_35 hl (by decide) rfl (fun ls hl => ?_)
    refine lv_iload hx hb d_T_appendFaces_37 (lv_at hl 5 rfl) ?_
    refine lv_aload_n hx hb d_T_appendFaces_39 rfl (lv_at hl 3 rfl) ?_
    refine va_alen hx hb hK hP 8 0 rfl rfl (v := (24 : Int32)) rfl d_T_appendFaces_40 ?_
    refine lv_icmp_ge (tgt := 78) hx hb d_T_appendFaces_41 (by decide) (fun c_6 => ?_) (fun c_6 => ?_)
    · replace h := zz_t c_6 h
      refine lv_iinc (v := (v6 + (1 : Int32))) (lv' := [(6, .int (v6 + (1 : Int32))), (7, .int ((tGr S (v1.toNatClampNeg)) v6.toNatClampNeg)), (0, .ref (A 17)), (1, .int v1), (2, .ref (A 8)), (4, .int v4), (5, .int v5)]) hx hb d_T_appendFaces_78 hl (k := 6) rfl rfl (by decide) rfl (fun ls hl => ?_)
      refine lv_goto (tgt := 15) hx hb d_T_appendFaces_81 (by decide) ?_
      exact hG _ (Option.some.inj h).symm _ _ _ hP hD hS (lv_sub hl [2, 3, 4, 5, 6, 0] rfl)
    · replace h := zz_f c_6 h
      refine lv_aload_n hx hb d_T_appendFaces_44 rfl (lv_at hl 3 rfl) ?_
      refine lv_iload hx hb d_T_appendFaces_45 (lv_at hl 5 rfl) ?_
      refine lv_iload hx hb d_T_appendFaces_47 (lv_at hl 0 rfl) ?_
      obtain ⟨r_7, e_7, h⟩ := zz_bind1 h
      refine zz_goI (zz_runS (As := [.ref (A 8), .int v5, .int ((tGr S (v1.toNatClampNeg)) v6.toNatClampNeg)]) (rest := []) (k_T_holds l z _ (hq := rfl) (kq := 8) n _ _ _ e_7) ⟨hx, hb, hml, hown, hts⟩ (va_cwS 3 hts (zz_gS wq_196 wq_197 wq_2 wq_198) rfl rfl rfl (by decide +kernel) ⟨by simp only [rm_T_appendFaces, rm_T_holds]; omega, by simp only [rm_T_appendFaces, rm_T_holds]; omega⟩) hK hN hP hD rfl hl.1 rfl (Nat.le_of_ble_eq_true rfl) d_T_appendFaces_49 ⟨Nat.le_of_ble_eq_true rfl, Nat.le_of_ble_eq_true rfl⟩) hD hS hA (fun H locs hP hD hS => ?_)
      refine lv_if_ne (tgt := 78) hx hb d_T_appendFaces_52 (by decide) (fun c_8 => ?_) (fun c_8 => ?_)
      · replace h := zz_f c_8 h
        refine lv_iinc (v := (v6 + (1 : Int32))) (lv' := [(6, .int (v6 + (1 : Int32))), (7, .int ((tGr S (v1.toNatClampNeg)) v6.toNatClampNeg)), (0, .ref (A 17)), (1, .int v1), (2, .ref (A 8)), (4, .int v4), (5, .int v5)]) hx hb d_T_appendFaces_78 hl (k := 6) rfl rfl (by decide) rfl (fun ls hl => ?_)
        refine lv_goto (tgt := 15) hx hb d_T_appendFaces_81 (by decide) ?_
        exact hG _ (Option.some.inj h).symm _ _ _ hP hD hS (lv_sub hl [2, 3, 4, 5, 6, 0] rfl)
      · replace h := zz_t c_8 h
        refine lv_aload_n hx hb d_T_appendFaces_55 rfl (lv_at hl 3 rfl) ?_
        refine lv_iload hx hb d_T_appendFaces_56 (lv_at hl 5 rfl) ?_
        refine lv_iload hx hb d_T_appendFaces_58 (lv_at hl 0 rfl) ?_
        obtain ⟨c_9, h⟩ := zz_oob h
        obtain ⟨S_10, e_10, h⟩ := zz_let h
        refine va_iast hx hb hK hP hD hS 8 0 rfl rfl c_9 d_T_appendFaces_60 (fun H locs hP hD hS => ?_)
        have hP : va_P z.1 vwCl (cw z A S_10 ++ Rr) H := by rw [e_10]; exact hP
        have hD : va_D A0 (cw z A S_10 ++ Rr) := by rw [e_10]; exact hD
        refine lv_aload_n hx hb d_T_appendFaces_61 rfl (lv_at hl 1 rfl) ?_
        refine lv_iload hx hb d_T_appendFaces_62 (lv_at hl 0 rfl) ?_
        refine lv_aload_n hx hb d_T_appendFaces_64 rfl (lv_at hl 3 rfl) ?_
        refine lv_iload hx hb d_T_appendFaces_65 (lv_at hl 5 rfl) ?_
        refine lv_iconst (v := 1) hx hb d_T_appendFaces_67 (by decide) ?_
        refine lv_iadd hx hb d_T_appendFaces_68 ?_
        refine lv_iload hx hb d_T_appendFaces_69 (lv_at hl 4 rfl) ?_
        refine lv_iconst (v := 1) hx hb d_T_appendFaces_71 (by decide) ?_
        refine lv_iadd hx hb d_T_appendFaces_72 ?_
        obtain ⟨r_11, S_11, e_11, h⟩ := zz_bind h
        refine zz_goI (zz_runS (As := [.ref (A 17), .int ((tGr S (v1.toNatClampNeg)) v6.toNatClampNeg), .ref (A 8), .int (v5 + (1 : Int32)), .int (v4 + (1 : Int32))]) (rest := []) (hF _ _ _ _ _ _ e_11) ⟨hx, hb, hml, hown, hts⟩ (va_cwS 5 hts (zz_gS wq_228 wq_229 wq_2 wq_230) rfl rfl rfl (by decide +kernel) ⟨by simp only [rm_T_appendFaces, rm_T_holds]; omega, by simp only [rm_T_appendFaces, rm_T_holds]; omega⟩) hK hN hP hD rfl hl.1 rfl (Nat.le_of_ble_eq_true rfl) d_T_appendFaces_73 ⟨Nat.le_of_ble_eq_true rfl, Nat.le_of_ble_eq_true rfl⟩) hD hS hA (fun H locs hP hD hS => ?_)
        refine lv_istore (lv' := [(5, .int r_11), (7, .int ((tGr S (v1.toNatClampNeg)) v6.toNatClampNeg)), (0, .ref (A 17)), (1, .int v1), (2, .ref (A 8)), (4, .int v4), (6, .int v6)]) hx hb d_T_appendFaces_76 hl (by decide) rfl (fun ls hl => ?_)
        refine lv_iinc (v := (v6 + (1 : Int32))) (lv' := [(6, .int (v6 + (1 : Int32))), (5, .int r_11), (7, .int ((tGr S (v1.toNatClampNeg)) v6.toNatClampNeg)), (0, .ref (A 17)), (1, .int v1), (2, .ref (A 8)), (4, .int v4)]) hx hb d_T_appendFaces_78 hl (k := 6) rfl rfl (by decide) rfl (fun ls hl => ?_)
        refine lv_goto (tgt := 15) hx hb d_T_appendFaces_81 (by decide) ?_
        exact hG _ (Option.some.inj h).symm _ _ _ hP hD hS (lv_sub hl [3, 4, 5, 6, 1, 0] rfl)

set_option maxRecDepth 100000 in
set_option maxHeartbeats 4000000 in
theorem k_T_appendFaces (l : Launch) (z : zE) (A : Nat → Nat) (Rr : va_W) (n : Nat) : ∀ (d : Nat) (S : ZC) (a1 a3 a4 r0 : Int32) (S' : ZC), fx_T_appendFaces n d S a1 a3 a4 = some (r0, S') → zC z l y_T_appendFaces w_T_appendFaces (rm_T_appendFaces d) [.ref (A 17), .int a1, .ref (A 8), .int a3, .int a4] (cw z A S ++ Rr) (some (.int r0)) (cw z A S' ++ Rr) := by
  intro d
  induction d with
  | zero =>
    intro S a1 a3 a4 r0 S' h
    cases h
  | succ d hF =>
    intro S a1 a3 a4 r0 S' h
    have h : bx_T_appendFaces n (fx_T_appendFaces n d) S a1 a3 a4 = some (r0, S') := h
    generalize fx_T_appendFaces n d = F at h hF
    refine zz_of (by decide) (Nat.le_of_ble_eq_true rfl) ?_
    intro p e s m args below meth c A0 ls hM hr hlocks hA hP hD hl
    have hM : zM z p s m args c b_T_appendFaces 8 R_T := hM
    obtain ⟨hx, hb, hml, hown, hts, hK, hN⟩ := id hM
    have hS : va_S A0 s.heap s.heap [] := va_S.rf
    have hl : lv_has ls 8 [(0, .ref (A 17)), (1, .int a1), (2, .ref (A 8)), (3, .int a3), (4, .int a4)] := hl
    unfold bx_T_appendFaces at h
    refine lv_iload hx hb d_T_appendFaces_0 (lv_at hl 4 rfl) ?_
    refine lv_bipush (v := 24) hx hb d_T_appendFaces_2 (by decide) ?_
    refine lv_icmp_lt (tgt := 9) hx hb d_T_appendFaces_4 (by decide) (fun c_1 => ?_) (fun c_1 => ?_)
    · replace h := zz_t c_1 h
      refine lv_iload_n hx hb d_T_appendFaces_9 rfl (lv_at hl 3 rfl) ?_
      refine lv_istore (lv' := [(5, .int a3), (0, .ref (A 17)), (1, .int a1), (2, .ref (A 8)), (3, .int a3), (4, .int a4)]) hx hb d_T_appendFaces_10 hl (by decide) rfl (fun ls hl => ?_)
      refine lv_iconst (v := 0) hx hb d_T_appendFaces_12 (by decide) ?_
      refine lv_istore (lv' := [(6, .int (0 : Int32)), (5, .int a3), (0, .ref (A 17)), (1, .int a1), (2, .ref (A 8)), (3, .int a3), (4, .int a4)]) hx hb d_T_appendFaces_13 hl (by decide) rfl (fun ls hl => ?_)
      replace h := zz_bL3 h
      obtain ⟨x_12, v5_12, v6_12, S_12, e_12, h⟩ := h
      refine lp_T_appendFaces_L15 hF hM hA n a1 a4 _ _ _ _ e_12 ?_ _ _ _ hP hD hS (lv_sub hl [2, 3, 4, 6, 1, 0] rfl)
      intro H locs ls hP hD hS hl
      have hl : lv_has ls 8 [(0, .ref (A 17)), (1, .int a1), (2, .ref (A 8)), (4, .int a4), (5, .int v5_12), (6, .int v6_12)] := hl
      have hP : va_P z.1 vwCl (cw z A S_12 ++ Rr) H := hP
      have hD : va_D A0 (cw z A S_12 ++ Rr) := hD
      replace h := zz_grd h
      obtain ⟨c_12, h⟩ := h
      subst c_12
      refine W.eq (g2 := F0 m 84 ls []) rfl ?_
      refine lv_iload hx hb d_T_appendFaces_84 (lv_at hl 4 rfl) ?_
      exact zz_iret (fun S => cw z A S ++ Rr) hx hb hr hlocks hP hD hS h d_T_appendFaces_86
    · replace h := zz_f c_1 h
      refine lv_iload_n hx hb d_T_appendFaces_7 rfl (lv_at hl 3 rfl) ?_
      exact zz_iret (fun S => cw z A S ++ Rr) hx hb hr hlocks hP hD hS h d_T_appendFaces_8

abbrev b_T_writeLine : ByteArray := prog_5_method_12_code
abbrev y_T_writeLine : MethodName := ⟨"MemberChooser$Types", "writeLine", "(I[I)I"⟩
abbrev w_T_writeLine : List Cond := Cond.code y_T_writeLine b_T_writeLine 7 (some .int) :: zTb
theorem d_T_writeLine_0 : decode b_T_writeLine 0 = .ok (.iconst 0, 1) := by decide +kernel
theorem d_T_writeLine_1 : decode b_T_writeLine 1 = .ok (.istore_n 3, 1) := by decide +kernel
theorem d_T_writeLine_2 : decode b_T_writeLine 2 = .ok (.iload_n 1, 1) := by decide +kernel
theorem d_T_writeLine_3 : decode b_T_writeLine 3 = .ok (.istore 4, 2) := by decide +kernel
theorem d_T_writeLine_5 : decode b_T_writeLine 5 = .ok (.aload_n 0, 1) := by decide +kernel
theorem d_T_writeLine_6 : decode b_T_writeLine 6 = .ok (.iload 4, 2) := by decide +kernel
theorem d_T_writeLine_8 : decode b_T_writeLine 8 = .ok (.invokevirtual 45, 3) := by decide +kernel
theorem d_T_writeLine_11 : decode b_T_writeLine 11 = .ok (.ifCond .eq 29, 3) := by decide +kernel
theorem d_T_writeLine_14 : decode b_T_writeLine 14 = .ok (.iload_n 3, 1) := by decide +kernel
theorem d_T_writeLine_15 : decode b_T_writeLine 15 = .ok (.aload_n 2, 1) := by decide +kernel
theorem d_T_writeLine_16 : decode b_T_writeLine 16 = .ok (.arraylength, 1) := by decide +kernel
theorem d_T_writeLine_17 : decode b_T_writeLine 17 = .ok (.if_icmp .ge 23, 3) := by decide +kernel
theorem d_T_writeLine_20 : decode b_T_writeLine 20 = .ok (.aload_n 2, 1) := by decide +kernel
theorem d_T_writeLine_21 : decode b_T_writeLine 21 = .ok (.iload_n 3, 1) := by decide +kernel
theorem d_T_writeLine_22 : decode b_T_writeLine 22 = .ok (.iload 4, 2) := by decide +kernel
theorem d_T_writeLine_24 : decode b_T_writeLine 24 = .ok (.iastore, 1) := by decide +kernel
theorem d_T_writeLine_25 : decode b_T_writeLine 25 = .ok (.iinc 3 1, 3) := by decide +kernel
theorem d_T_writeLine_28 : decode b_T_writeLine 28 = .ok (.aload_n 0, 1) := by decide +kernel
theorem d_T_writeLine_29 : decode b_T_writeLine 29 = .ok (.getfield 15, 3) := by decide +kernel
theorem d_T_writeLine_32 : decode b_T_writeLine 32 = .ok (.iload 4, 2) := by decide +kernel
theorem d_T_writeLine_34 : decode b_T_writeLine 34 = .ok (.iaload, 1) := by decide +kernel
theorem d_T_writeLine_35 : decode b_T_writeLine 35 = .ok (.istore 4, 2) := by decide +kernel
theorem d_T_writeLine_37 : decode b_T_writeLine 37 = .ok (.goto (-32), 3) := by decide +kernel
theorem d_T_writeLine_40 : decode b_T_writeLine 40 = .ok (.iload_n 3, 1) := by decide +kernel
theorem d_T_writeLine_41 : decode b_T_writeLine 41 = .ok (.istore 5, 2) := by decide +kernel
theorem d_T_writeLine_43 : decode b_T_writeLine 43 = .ok (.iconst 0, 1) := by decide +kernel
theorem d_T_writeLine_44 : decode b_T_writeLine 44 = .ok (.istore 6, 2) := by decide +kernel
theorem d_T_writeLine_46 : decode b_T_writeLine 46 = .ok (.iload 6, 2) := by decide +kernel
theorem d_T_writeLine_48 : decode b_T_writeLine 48 = .ok (.iload_n 3, 1) := by decide +kernel
theorem d_T_writeLine_49 : decode b_T_writeLine 49 = .ok (.if_icmp .ge 23, 3) := by decide +kernel
theorem d_T_writeLine_52 : decode b_T_writeLine 52 = .ok (.aload_n 0, 1) := by decide +kernel
theorem d_T_writeLine_53 : decode b_T_writeLine 53 = .ok (.aload_n 2, 1) := by decide +kernel
theorem d_T_writeLine_54 : decode b_T_writeLine 54 = .ok (.iload 6, 2) := by decide +kernel
theorem d_T_writeLine_56 : decode b_T_writeLine 56 = .ok (.iaload, 1) := by decide +kernel
theorem d_T_writeLine_57 : decode b_T_writeLine 57 = .ok (.aload_n 2, 1) := by decide +kernel
theorem d_T_writeLine_58 : decode b_T_writeLine 58 = .ok (.iload 5, 2) := by decide +kernel
theorem d_T_writeLine_60 : decode b_T_writeLine 60 = .ok (.iconst 0, 1) := by decide +kernel
theorem d_T_writeLine_61 : decode b_T_writeLine 61 = .ok (.invokestatic 67, 3) := by decide +kernel
theorem d_T_writeLine_64 : decode b_T_writeLine 64 = .ok (.istore 5, 2) := by decide +kernel
theorem d_T_writeLine_66 : decode b_T_writeLine 66 = .ok (.iinc 6 1, 3) := by decide +kernel
theorem d_T_writeLine_69 : decode b_T_writeLine 69 = .ok (.goto (-23), 3) := by decide +kernel
theorem d_T_writeLine_72 : decode b_T_writeLine 72 = .ok (.iload 5, 2) := by decide +kernel
theorem d_T_writeLine_74 : decode b_T_writeLine 74 = .ok (.ireturn, 1) := by decide +kernel
abbrev rm_T_writeLine : Room := { frames := 28, cells := 0, slots := 0, locals := 752 }
def st_T_writeLine_L5 (n : Nat)  (v3 : Int32) (v4 : Int32) (S : ZC) : Option ((Int32 × Int32 × ZC) ⊕ (Nat × Int32 × Int32 × ZC)) :=
  zbind (fx_T_isTold n S v4) (fun r_1 S_1 =>
  (if r_1 = 0 then
  some (.inr (40, v3, v4, S_1))
  else
  (if (24 : Int32) ≤ v3 then
    some (.inr (40, v3, v4, S_1))
    else
    (if zoob v3 24 then none else
      zlet (hLi' S_1 (upd (hLi S_1) v3.toNatClampNeg v4)) (fun S_5 =>
      (if zoob v4 32 then none else
      some (.inl ((v3 + (1 : Int32)), ((tCa S_5) v4.toNatClampNeg), S_5))))))))

def fx_T_writeLine_L5 (n : Nat)  (v3 : Int32) (v4 : Int32) (S : ZC) : Option (Nat × Int32 × Int32 × ZC) := zloop (fun (st : Int32 × Int32 × ZC) => st_T_writeLine_L5 n st.1 st.2.1 st.2.2) n (v3, v4, S)

def st_T_writeLine_L46 (n : Nat) (v3 : Int32) (v5 : Int32) (v6 : Int32) (S : ZC) : Option ((Int32 × Int32 × ZC) ⊕ (Nat × Int32 × Int32 × ZC)) :=
  (if v3 ≤ v6 then
  some (.inr (72, v5, v6, S))
  else
  (if zoob v6 24 then none else
    zbind (fx_T_appendFaces n 26 S ((hLi S) v6.toNatClampNeg) v5 (0 : Int32)) (fun r_10 S_10 =>
    some (.inl (r_10, (v6 + (1 : Int32)), S_10)))))

def fx_T_writeLine_L46 (n : Nat) (v3 : Int32) (v5 : Int32) (v6 : Int32) (S : ZC) : Option (Nat × Int32 × Int32 × ZC) := zloop (fun (st : Int32 × Int32 × ZC) => st_T_writeLine_L46 n v3 st.1 st.2.1 st.2.2) n (v5, v6, S)

def fx_T_writeLine (n : Nat) (S : ZC) (a1 : Int32) : Option (Int32 × ZC) :=
  zbL3 (fx_T_writeLine_L5 n (0 : Int32) a1 S) (fun x_7 v3_7 v4_7 S_7 =>
  if x_7 = 40 then
  zbL3 (fx_T_writeLine_L46 n v3_7 v3_7 (0 : Int32) S_7) (fun x_11 v5_11 v6_11 S_11 =>
  if x_11 = 72 then
  some (v5_11, S_11)
  else none)
  else none)

set_option maxRecDepth 100000 in
set_option maxHeartbeats 4000000 in
theorem lp_T_writeLine_L5 {z : zE} {A : Nat → Nat} {Rr : va_W} {p : Program} {l : Launch} {e : Env} {s : State} {m : MethodId} {args : Array Value} {below : List Frame} {meth : Method} {c : Code} {Q : State → Prop} {H0 : Heap} {A0 : Nat → Prop} (hM : zM z p s m args c b_T_writeLine 7 R_T) (hA : ∀ q : Nat, H0.size ≤ q → A0 q) (n : Nat) :
    ∀ (v3 : Int32) (v4 : Int32) (S : ZC) (r : Nat × Int32 × Int32 × ZC), fx_T_writeLine_L5 n v3 v4 S = some r → (∀ (H : Heap) (locs : List Loc) (ls : Array Slot), va_P z.1 vwCl (cw z A r.2.2.2 ++ Rr) H → va_D A0 (cw z A r.2.2.2 ++ Rr) → va_S A0 H0 H locs → lv_has ls 7 [(0, .ref (A 17)), (2, .ref (A 8)), (3, .int r.2.1), (4, .int r.2.2.1)] → W p l e rm_T_writeLine s m args below meth c H locs 0 0 Q (F0 m r.1 ls [])) →
    ∀ (H : Heap) (locs : List Loc) (ls : Array Slot), va_P z.1 vwCl (cw z A S ++ Rr) H → va_D A0 (cw z A S ++ Rr) → va_S A0 H0 H locs → lv_has ls 7 [(0, .ref (A 17)), (2, .ref (A 8)), (3, .int v3), (4, .int v4)] → W p l e rm_T_writeLine s m args below meth c H locs 0 0 Q (F0 m 5 ls []) := by
  obtain ⟨hx, hb, hml, hown, hts, hK, hN⟩ := id hM
  intro v3 v4 S r h hE
  refine zz_loop (G := fun (st : Int32 × Int32 × ZC) => ∀ (H : Heap) (locs : List Loc) (ls : Array Slot), va_P z.1 vwCl (cw z A st.2.2 ++ Rr) H → va_D A0 (cw z A st.2.2 ++ Rr) → va_S A0 H0 H locs → lv_has ls 7 [(0, .ref (A 17)), (2, .ref (A 8)), (3, .int st.1), (4, .int st.2.1)] → W p l e rm_T_writeLine s m args below meth c H locs 0 0 Q (F0 m 5 ls [])) (E := fun (r : Nat × Int32 × Int32 × ZC) => ∀ (H : Heap) (locs : List Loc) (ls : Array Slot), va_P z.1 vwCl (cw z A r.2.2.2 ++ Rr) H → va_D A0 (cw z A r.2.2.2 ++ Rr) → va_S A0 H0 H locs → lv_has ls 7 [(0, .ref (A 17)), (2, .ref (A 8)), (3, .int r.2.1), (4, .int r.2.2.1)] → W p l e rm_T_writeLine s m args below meth c H locs 0 0 Q (F0 m r.1 ls [])) ?_ n (v3, v4, S) r h hE
  clear h hE r v3 v4 S
  rintro ⟨v3, v4, S⟩ o h hG hE H locs ls hP hD hS hl
  have h : st_T_writeLine_L5 n v3 v4 S = some o := h
  have hl : lv_has ls 7 [(0, .ref (A 17)), (2, .ref (A 8)), (3, .int v3), (4, .int v4)] := hl
  have hP : va_P z.1 vwCl (cw z A S ++ Rr) H := hP
  have hD : va_D A0 (cw z A S ++ Rr) := hD
  unfold st_T_writeLine_L5 at h
  refine lv_aload_n hx hb d_T_writeLine_5 rfl (lv_at hl 0 rfl) ?_
  refine lv_iload hx hb d_T_writeLine_6 (lv_at hl 3 rfl) ?_
  obtain ⟨r_1, S_1, e_1, h⟩ := zz_bind h
  refine zz_goI (zz_runV (As := [.int v4]) (rest := []) (k_T_isTold l z A Rr n _ _ _ _ e_1) ⟨hx, hb, hml, hown, hts⟩ (cwV 1 hts (zz_gV wq_176 wq_177 wq_178 wq_2 wq_179) rfl rfl rfl (by decide +kernel) ⟨Nat.le_of_ble_eq_true rfl, Nat.le_of_ble_eq_true rfl⟩) hK hN hP hD (va_recv hK hP (ci := 1) (q0 := 17) rfl rfl) rfl hl.1 rfl (Nat.le_of_ble_eq_true rfl) d_T_writeLine_8 ⟨Nat.le_of_ble_eq_true rfl, Nat.le_of_ble_eq_true rfl⟩) hD hS hA (fun H locs hP hD hS => ?_)
  refine lv_if_eq (tgt := 40) hx hb d_T_writeLine_11 (by decide) (fun c_2 => ?_) (fun c_2 => ?_)
  · replace h := zz_t c_2 h
    exact hE _ (Option.some.inj h).symm _ _ _ hP hD hS hl
  · replace h := zz_f c_2 h
    refine lv_iload_n hx hb d_T_writeLine_14 rfl (lv_at hl 2 rfl) ?_
    refine lv_aload_n hx hb d_T_writeLine_15 rfl (lv_at hl 1 rfl) ?_
    refine va_alen hx hb hK hP 8 0 rfl rfl (v := (24 : Int32)) rfl d_T_writeLine_16 ?_
    refine lv_icmp_ge (tgt := 40) hx hb d_T_writeLine_17 (by decide) (fun c_3 => ?_) (fun c_3 => ?_)
    · replace h := zz_t c_3 h
      exact hE _ (Option.some.inj h).symm _ _ _ hP hD hS hl
    · replace h := zz_f c_3 h
      refine lv_aload_n hx hb d_T_writeLine_20 rfl (lv_at hl 1 rfl) ?_
      refine lv_iload_n hx hb d_T_writeLine_21 rfl (lv_at hl 2 rfl) ?_
      refine lv_iload hx hb d_T_writeLine_22 (lv_at hl 3 rfl) ?_
      obtain ⟨c_4, h⟩ := zz_oob h
      obtain ⟨S_5, e_5, h⟩ := zz_let h
      refine va_iast hx hb hK hP hD hS 8 0 rfl rfl c_4 d_T_writeLine_24 (fun H locs hP hD hS => ?_)
      have hP : va_P z.1 vwCl (cw z A S_5 ++ Rr) H := by rw [e_5]; exact hP
      have hD : va_D A0 (cw z A S_5 ++ Rr) := by rw [e_5]; exact hD
      refine lv_iinc (v := (v3 + (1 : Int32))) (lv' := [(3, .int (v3 + (1 : Int32))), (0, .ref (A 17)), (2, .ref (A 8)), (4, .int v4)]) hx hb d_T_writeLine_25 hl (k := 2) rfl rfl (by decide) rfl (fun ls hl => ?_)
      refine lv_aload_n hx hb d_T_writeLine_28 rfl (lv_at hl 1 rfl) ?_
      refine va_get (D := z.1) (ci := 1) (v := .ref (A 19)) (C := R_T) (T := F_T) (N := 6) hx hb hts i_T hown hK hP 17 rfl rfl 1 (by decide) (hts _ wq_39) (fun _ h9 => h9) rfl d_T_writeLine_29 ?_
      refine lv_iload hx hb d_T_writeLine_32 (lv_at hl 3 rfl) ?_
      obtain ⟨c_6, h⟩ := zz_oob h
      refine va_iald hx hb hK hP 19 0 rfl rfl c_6 d_T_writeLine_34 ?_
      refine lv_istore (lv' := [(4, .int ((tCa S_5) v4.toNatClampNeg)), (3, .int (v3 + (1 : Int32))), (0, .ref (A 17)), (2, .ref (A 8))]) hx hb d_T_writeLine_35 hl (by decide) rfl (fun ls hl => ?_)
      refine lv_goto (tgt := 5) hx hb d_T_writeLine_37 (by decide) ?_
      exact hG _ (Option.some.inj h).symm _ _ _ hP hD hS (lv_sub hl [2, 3, 1, 0] rfl)

set_option maxRecDepth 100000 in
set_option maxHeartbeats 4000000 in
theorem lp_T_writeLine_L46 {z : zE} {A : Nat → Nat} {Rr : va_W} {p : Program} {l : Launch} {e : Env} {s : State} {m : MethodId} {args : Array Value} {below : List Frame} {meth : Method} {c : Code} {Q : State → Prop} {H0 : Heap} {A0 : Nat → Prop} (hM : zM z p s m args c b_T_writeLine 7 R_T) (hA : ∀ q : Nat, H0.size ≤ q → A0 q) (n : Nat) (v3 : Int32) :
    ∀ (v5 : Int32) (v6 : Int32) (S : ZC) (r : Nat × Int32 × Int32 × ZC), fx_T_writeLine_L46 n v3 v5 v6 S = some r → (∀ (H : Heap) (locs : List Loc) (ls : Array Slot), va_P z.1 vwCl (cw z A r.2.2.2 ++ Rr) H → va_D A0 (cw z A r.2.2.2 ++ Rr) → va_S A0 H0 H locs → lv_has ls 7 [(0, .ref (A 17)), (2, .ref (A 8)), (3, .int v3), (5, .int r.2.1), (6, .int r.2.2.1)] → W p l e rm_T_writeLine s m args below meth c H locs 0 0 Q (F0 m r.1 ls [])) →
    ∀ (H : Heap) (locs : List Loc) (ls : Array Slot), va_P z.1 vwCl (cw z A S ++ Rr) H → va_D A0 (cw z A S ++ Rr) → va_S A0 H0 H locs → lv_has ls 7 [(0, .ref (A 17)), (2, .ref (A 8)), (3, .int v3), (5, .int v5), (6, .int v6)] → W p l e rm_T_writeLine s m args below meth c H locs 0 0 Q (F0 m 46 ls []) := by
  obtain ⟨hx, hb, hml, hown, hts, hK, hN⟩ := id hM
  intro v5 v6 S r h hE
  refine zz_loop (G := fun (st : Int32 × Int32 × ZC) => ∀ (H : Heap) (locs : List Loc) (ls : Array Slot), va_P z.1 vwCl (cw z A st.2.2 ++ Rr) H → va_D A0 (cw z A st.2.2 ++ Rr) → va_S A0 H0 H locs → lv_has ls 7 [(0, .ref (A 17)), (2, .ref (A 8)), (3, .int v3), (5, .int st.1), (6, .int st.2.1)] → W p l e rm_T_writeLine s m args below meth c H locs 0 0 Q (F0 m 46 ls [])) (E := fun (r : Nat × Int32 × Int32 × ZC) => ∀ (H : Heap) (locs : List Loc) (ls : Array Slot), va_P z.1 vwCl (cw z A r.2.2.2 ++ Rr) H → va_D A0 (cw z A r.2.2.2 ++ Rr) → va_S A0 H0 H locs → lv_has ls 7 [(0, .ref (A 17)), (2, .ref (A 8)), (3, .int v3), (5, .int r.2.1), (6, .int r.2.2.1)] → W p l e rm_T_writeLine s m args below meth c H locs 0 0 Q (F0 m r.1 ls [])) ?_ n (v5, v6, S) r h hE
  clear h hE r v5 v6 S
  rintro ⟨v5, v6, S⟩ o h hG hE H locs ls hP hD hS hl
  have h : st_T_writeLine_L46 n v3 v5 v6 S = some o := h
  have hl : lv_has ls 7 [(0, .ref (A 17)), (2, .ref (A 8)), (3, .int v3), (5, .int v5), (6, .int v6)] := hl
  have hP : va_P z.1 vwCl (cw z A S ++ Rr) H := hP
  have hD : va_D A0 (cw z A S ++ Rr) := hD
  unfold st_T_writeLine_L46 at h
  refine lv_iload hx hb d_T_writeLine_46 (lv_at hl 4 rfl) ?_
  refine lv_iload_n hx hb d_T_writeLine_48 rfl (lv_at hl 2 rfl) ?_
  refine lv_icmp_ge (tgt := 72) hx hb d_T_writeLine_49 (by decide) (fun c_8 => ?_) (fun c_8 => ?_)
  · replace h := zz_t c_8 h
    exact hE _ (Option.some.inj h).symm _ _ _ hP hD hS hl
  · replace h := zz_f c_8 h
    refine lv_aload_n hx hb d_T_writeLine_52 rfl (lv_at hl 0 rfl) ?_
    refine lv_aload_n hx hb d_T_writeLine_53 rfl (lv_at hl 1 rfl) ?_
    refine lv_iload hx hb d_T_writeLine_54 (lv_at hl 4 rfl) ?_
    obtain ⟨c_9, h⟩ := zz_oob h
    refine va_iald hx hb hK hP 8 0 rfl rfl c_9 d_T_writeLine_56 ?_
    refine lv_aload_n hx hb d_T_writeLine_57 rfl (lv_at hl 1 rfl) ?_
    refine lv_iload hx hb d_T_writeLine_58 (lv_at hl 3 rfl) ?_
    refine lv_iconst (v := 0) hx hb d_T_writeLine_60 (by decide) ?_
    obtain ⟨r_10, S_10, e_10, h⟩ := zz_bind h
    refine zz_goI (zz_runS (As := [.ref (A 17), .int ((hLi S) v6.toNatClampNeg), .ref (A 8), .int v5, .int (0 : Int32)]) (rest := []) (k_T_appendFaces l z A Rr n 26 _ _ _ _ _ _ e_10) ⟨hx, hb, hml, hown, hts⟩ (va_cwS 5 hts (zz_gS wq_228 wq_229 wq_2 wq_230) rfl rfl rfl (by decide +kernel) ⟨Nat.le_of_ble_eq_true rfl, Nat.le_of_ble_eq_true rfl⟩) hK hN hP hD rfl hl.1 rfl (Nat.le_of_ble_eq_true rfl) d_T_writeLine_61 ⟨Nat.le_of_ble_eq_true rfl, Nat.le_of_ble_eq_true rfl⟩) hD hS hA (fun H locs hP hD hS => ?_)
    refine lv_istore (lv' := [(5, .int r_10), (0, .ref (A 17)), (2, .ref (A 8)), (3, .int v3), (6, .int v6)]) hx hb d_T_writeLine_64 hl (by decide) rfl (fun ls hl => ?_)
    refine lv_iinc (v := (v6 + (1 : Int32))) (lv' := [(6, .int (v6 + (1 : Int32))), (5, .int r_10), (0, .ref (A 17)), (2, .ref (A 8)), (3, .int v3)]) hx hb d_T_writeLine_66 hl (k := 4) rfl rfl (by decide) rfl (fun ls hl => ?_)
    refine lv_goto (tgt := 46) hx hb d_T_writeLine_69 (by decide) ?_
    exact hG _ (Option.some.inj h).symm _ _ _ hP hD hS (lv_sub hl [2, 3, 4, 1, 0] rfl)

set_option maxRecDepth 100000 in
set_option maxHeartbeats 4000000 in
theorem k_T_writeLine (l : Launch) (z : zE) (A : Nat → Nat) (Rr : va_W) (n : Nat) (S : ZC) (a1 : Int32) (r0 : Int32) (S' : ZC) (h : fx_T_writeLine n S a1 = some (r0, S')) : zC z l y_T_writeLine w_T_writeLine rm_T_writeLine [.ref (A 17), .int a1, .ref (A 8)] (cw z A S ++ Rr) (some (.int r0)) (cw z A S' ++ Rr) := by
  refine zz_of (by decide) (Nat.le_of_ble_eq_true rfl) ?_
  intro p e s m args below meth c A0 ls hM hr hlocks hA hP hD hl
  have hM : zM z p s m args c b_T_writeLine 7 R_T := hM
  obtain ⟨hx, hb, hml, hown, hts, hK, hN⟩ := id hM
  have hS : va_S A0 s.heap s.heap [] := va_S.rf
  have hl : lv_has ls 7 [(0, .ref (A 17)), (1, .int a1), (2, .ref (A 8))] := hl
  unfold fx_T_writeLine at h
  refine lv_iconst (v := 0) hx hb d_T_writeLine_0 (by decide) ?_
  refine lv_istore_n (lv' := [(3, .int (0 : Int32)), (0, .ref (A 17)), (1, .int a1), (2, .ref (A 8))]) hx hb d_T_writeLine_1 rfl hl (by decide) rfl (fun ls hl => ?_)
  refine lv_iload_n hx hb d_T_writeLine_2 rfl (lv_at hl 2 rfl) ?_
  refine lv_istore (lv' := [(4, .int a1), (3, .int (0 : Int32)), (0, .ref (A 17)), (1, .int a1), (2, .ref (A 8))]) hx hb d_T_writeLine_3 hl (by decide) rfl (fun ls hl => ?_)
  replace h := zz_bL3 h
  obtain ⟨x_7, v3_7, v4_7, S_7, e_7, h⟩ := h
  refine lp_T_writeLine_L5 hM hA n _ _ _ _ e_7 ?_ _ _ _ hP hD hS (lv_sub hl [2, 4, 1, 0] rfl)
  intro H locs ls hP hD hS hl
  have hl : lv_has ls 7 [(0, .ref (A 17)), (2, .ref (A 8)), (3, .int v3_7), (4, .int v4_7)] := hl
  have hP : va_P z.1 vwCl (cw z A S_7 ++ Rr) H := hP
  have hD : va_D A0 (cw z A S_7 ++ Rr) := hD
  replace h := zz_grd h
  obtain ⟨c_7, h⟩ := h
  subst c_7
  refine W.eq (g2 := F0 m 40 ls []) rfl ?_
  refine lv_iload_n hx hb d_T_writeLine_40 rfl (lv_at hl 2 rfl) ?_
  refine lv_istore (lv' := [(5, .int v3_7), (0, .ref (A 17)), (2, .ref (A 8)), (3, .int v3_7), (4, .int v4_7)]) hx hb d_T_writeLine_41 hl (by decide) rfl (fun ls hl => ?_)
  refine lv_iconst (v := 0) hx hb d_T_writeLine_43 (by decide) ?_
  refine lv_istore (lv' := [(6, .int (0 : Int32)), (5, .int v3_7), (0, .ref (A 17)), (2, .ref (A 8)), (3, .int v3_7), (4, .int v4_7)]) hx hb d_T_writeLine_44 hl (by decide) rfl (fun ls hl => ?_)
  replace h := zz_bL3 h
  obtain ⟨x_11, v5_11, v6_11, S_11, e_11, h⟩ := h
  refine lp_T_writeLine_L46 hM hA n v3_7 _ _ _ _ e_11 ?_ _ _ _ hP hD hS (lv_sub hl [2, 3, 4, 1, 0] rfl)
  intro H locs ls hP hD hS hl
  have hl : lv_has ls 7 [(0, .ref (A 17)), (2, .ref (A 8)), (3, .int v3_7), (5, .int v5_11), (6, .int v6_11)] := hl
  have hP : va_P z.1 vwCl (cw z A S_11 ++ Rr) H := hP
  have hD : va_D A0 (cw z A S_11 ++ Rr) := hD
  replace h := zz_grd h
  obtain ⟨c_11, h⟩ := h
  subst c_11
  refine W.eq (g2 := F0 m 72 ls []) rfl ?_
  refine lv_iload hx hb d_T_writeLine_72 (lv_at hl 3 rfl) ?_
  exact zz_iret (fun S => cw z A S ++ Rr) hx hb hr hlocks hP hD hS h d_T_writeLine_74

abbrev b_K_find : ByteArray := prog_3_method_2_code
abbrev y_K_find : MethodName := ⟨"MemberChooser$KeptCalls", "find", "(IIIJ)I"⟩
abbrev w_K_find : List Cond := Cond.code y_K_find b_K_find 7 (some .int) :: zTb
theorem d_K_find_0 : decode b_K_find 0 = .ok (.iconst 0, 1) := by decide +kernel
theorem d_K_find_1 : decode b_K_find 1 = .ok (.istore 6, 2) := by decide +kernel
theorem d_K_find_3 : decode b_K_find 3 = .ok (.iload 6, 2) := by decide +kernel
theorem d_K_find_5 : decode b_K_find 5 = .ok (.aload_n 0, 1) := by decide +kernel
theorem d_K_find_6 : decode b_K_find 6 = .ok (.getfield 28, 3) := by decide +kernel
theorem d_K_find_9 : decode b_K_find 9 = .ok (.if_icmp .ge 58, 3) := by decide +kernel
theorem d_K_find_12 : decode b_K_find 12 = .ok (.aload_n 0, 1) := by decide +kernel
theorem d_K_find_13 : decode b_K_find 13 = .ok (.getfield 11, 3) := by decide +kernel
theorem d_K_find_16 : decode b_K_find 16 = .ok (.iload 6, 2) := by decide +kernel
theorem d_K_find_18 : decode b_K_find 18 = .ok (.iaload, 1) := by decide +kernel
theorem d_K_find_19 : decode b_K_find 19 = .ok (.iload_n 1, 1) := by decide +kernel
theorem d_K_find_20 : decode b_K_find 20 = .ok (.if_icmp .ne 41, 3) := by decide +kernel
theorem d_K_find_23 : decode b_K_find 23 = .ok (.aload_n 0, 1) := by decide +kernel
theorem d_K_find_24 : decode b_K_find 24 = .ok (.getfield 15, 3) := by decide +kernel
theorem d_K_find_27 : decode b_K_find 27 = .ok (.iload 6, 2) := by decide +kernel
theorem d_K_find_29 : decode b_K_find 29 = .ok (.iaload, 1) := by decide +kernel
theorem d_K_find_30 : decode b_K_find 30 = .ok (.iload_n 2, 1) := by decide +kernel
theorem d_K_find_31 : decode b_K_find 31 = .ok (.if_icmp .ne 30, 3) := by decide +kernel
theorem d_K_find_34 : decode b_K_find 34 = .ok (.aload_n 0, 1) := by decide +kernel
theorem d_K_find_35 : decode b_K_find 35 = .ok (.getfield 18, 3) := by decide +kernel
theorem d_K_find_38 : decode b_K_find 38 = .ok (.iload 6, 2) := by decide +kernel
theorem d_K_find_40 : decode b_K_find 40 = .ok (.iaload, 1) := by decide +kernel
theorem d_K_find_41 : decode b_K_find 41 = .ok (.iload_n 3, 1) := by decide +kernel
theorem d_K_find_42 : decode b_K_find 42 = .ok (.if_icmp .ne 19, 3) := by decide +kernel
theorem d_K_find_45 : decode b_K_find 45 = .ok (.aload_n 0, 1) := by decide +kernel
theorem d_K_find_46 : decode b_K_find 46 = .ok (.getfield 21, 3) := by decide +kernel
theorem d_K_find_49 : decode b_K_find 49 = .ok (.iload 6, 2) := by decide +kernel
theorem d_K_find_51 : decode b_K_find 51 = .ok (.laload, 1) := by decide +kernel
theorem d_K_find_52 : decode b_K_find 52 = .ok (.lload 4, 2) := by decide +kernel
theorem d_K_find_54 : decode b_K_find 54 = .ok (.lcmp, 1) := by decide +kernel
theorem d_K_find_55 : decode b_K_find 55 = .ok (.ifCond .ne 6, 3) := by decide +kernel
theorem d_K_find_58 : decode b_K_find 58 = .ok (.iload 6, 2) := by decide +kernel
theorem d_K_find_60 : decode b_K_find 60 = .ok (.ireturn, 1) := by decide +kernel
theorem d_K_find_61 : decode b_K_find 61 = .ok (.iinc 6 1, 3) := by decide +kernel
theorem d_K_find_64 : decode b_K_find 64 = .ok (.goto (-61), 3) := by decide +kernel
theorem d_K_find_67 : decode b_K_find 67 = .ok (.iconst (-1), 1) := by decide +kernel
theorem d_K_find_68 : decode b_K_find 68 = .ok (.ireturn, 1) := by decide +kernel
abbrev rm_K_find : Room := { frames := 0, cells := 0, slots := 0, locals := 0 }
def st_K_find_L3 (n : Nat) (v1 : Int32) (v2 : Int32) (v3 : Int32) (v4 : Int64) (v6 : Int32) (S : ZC) : Option ((Int32 × ZC) ⊕ (Nat × Int32 × ZC)) :=
  (if (kHe S) ≤ v6 then
  some (.inr (67, v6, S))
  else
  (if zoob v6 100 then none else
    (if ((kTy S) v6.toNatClampNeg) = v1 then
    (if zoob v6 100 then none else
      (if ((kNa S) v6.toNatClampNeg) = v2 then
      (if zoob v6 100 then none else
        (if ((kSz S) v6.toNatClampNeg) = v3 then
        (if zoob v6 100 then none else
          (if (lg_cmp ((kCl S) v6.toNatClampNeg) v4) = 0 then
          some (.inr (58, v6, S))
          else
          some (.inl ((v6 + (1 : Int32)), S))))
        else
        some (.inl ((v6 + (1 : Int32)), S))))
      else
      some (.inl ((v6 + (1 : Int32)), S))))
    else
    some (.inl ((v6 + (1 : Int32)), S)))))

def fx_K_find_L3 (n : Nat) (v1 : Int32) (v2 : Int32) (v3 : Int32) (v4 : Int64) (v6 : Int32) (S : ZC) : Option (Nat × Int32 × ZC) := zloop (fun (st : Int32 × ZC) => st_K_find_L3 n v1 v2 v3 v4 st.1 st.2) n (v6, S)

def fx_K_find (n : Nat) (S : ZC) (a1 : Int32) (a2 : Int32) (a3 : Int32) (a4 : Int64) : Option (Int32 × ZC) :=
  zbL2 (fx_K_find_L3 n a1 a2 a3 a4 (0 : Int32) S) (fun x_10 v6_10 S_10 =>
  if x_10 = 58 then
  some (v6_10, S_10)
  else if x_10 = 67 then
  some ((-1 : Int32), S_10)
  else none)

set_option maxRecDepth 100000 in
set_option maxHeartbeats 4000000 in
theorem lp_K_find_L3 {z : zE} {A : Nat → Nat} {Rr : va_W} {p : Program} {l : Launch} {e : Env} {s : State} {m : MethodId} {args : Array Value} {below : List Frame} {meth : Method} {c : Code} {Q : State → Prop} {H0 : Heap} {A0 : Nat → Prop} (hM : zM z p s m args c b_K_find 7 R_K) (hA : ∀ q : Nat, H0.size ≤ q → A0 q) (n : Nat) (v1 : Int32) (v2 : Int32) (v3 : Int32) (v4 : Int64) :
    ∀ (v6 : Int32) (S : ZC) (r : Nat × Int32 × ZC), fx_K_find_L3 n v1 v2 v3 v4 v6 S = some r → (∀ (H : Heap) (locs : List Loc) (ls : Array Slot), va_P z.1 vwCl (cw z A r.2.2 ++ Rr) H → va_D A0 (cw z A r.2.2 ++ Rr) → va_S A0 H0 H locs → lv_has ls 7 [(0, .ref (A 1)), (1, .int v1), (2, .int v2), (3, .int v3), (4, .long v4), (6, .int r.2.1)] → W p l e rm_K_find s m args below meth c H locs 0 0 Q (F0 m r.1 ls [])) →
    ∀ (H : Heap) (locs : List Loc) (ls : Array Slot), va_P z.1 vwCl (cw z A S ++ Rr) H → va_D A0 (cw z A S ++ Rr) → va_S A0 H0 H locs → lv_has ls 7 [(0, .ref (A 1)), (1, .int v1), (2, .int v2), (3, .int v3), (4, .long v4), (6, .int v6)] → W p l e rm_K_find s m args below meth c H locs 0 0 Q (F0 m 3 ls []) := by
  obtain ⟨hx, hb, hml, hown, hts, hK, hN⟩ := id hM
  intro v6 S r h hE
  refine zz_loop (G := fun (st : Int32 × ZC) => ∀ (H : Heap) (locs : List Loc) (ls : Array Slot), va_P z.1 vwCl (cw z A st.2 ++ Rr) H → va_D A0 (cw z A st.2 ++ Rr) → va_S A0 H0 H locs → lv_has ls 7 [(0, .ref (A 1)), (1, .int v1), (2, .int v2), (3, .int v3), (4, .long v4), (6, .int st.1)] → W p l e rm_K_find s m args below meth c H locs 0 0 Q (F0 m 3 ls [])) (E := fun (r : Nat × Int32 × ZC) => ∀ (H : Heap) (locs : List Loc) (ls : Array Slot), va_P z.1 vwCl (cw z A r.2.2 ++ Rr) H → va_D A0 (cw z A r.2.2 ++ Rr) → va_S A0 H0 H locs → lv_has ls 7 [(0, .ref (A 1)), (1, .int v1), (2, .int v2), (3, .int v3), (4, .long v4), (6, .int r.2.1)] → W p l e rm_K_find s m args below meth c H locs 0 0 Q (F0 m r.1 ls [])) ?_ n (v6, S) r h hE
  clear h hE r v6 S
  rintro ⟨v6, S⟩ o h hG hE H locs ls hP hD hS hl
  have h : st_K_find_L3 n v1 v2 v3 v4 v6 S = some o := h
  have hl : lv_has ls 7 [(0, .ref (A 1)), (1, .int v1), (2, .int v2), (3, .int v3), (4, .long v4), (6, .int v6)] := hl
  have hP : va_P z.1 vwCl (cw z A S ++ Rr) H := hP
  have hD : va_D A0 (cw z A S ++ Rr) := hD
  unfold st_K_find_L3 at h
  refine lv_iload hx hb d_K_find_3 (lv_at hl 5 rfl) ?_
  refine lv_aload_n hx hb d_K_find_5 rfl (lv_at hl 0 rfl) ?_
  refine va_get (D := z.1) (ci := 4) (v := .int (kHe S)) (C := R_K) (T := F_K) (N := 6) hx hb hts i_K hown hK hP 1 rfl rfl 5 (by decide) (hts _ wq_134) (fun _ h9 => h9) rfl d_K_find_6 ?_
  refine lv_icmp_ge (tgt := 67) hx hb d_K_find_9 (by decide) (fun c_1 => ?_) (fun c_1 => ?_)
  · replace h := zz_t c_1 h
    exact hE _ (Option.some.inj h).symm _ _ _ hP hD hS hl
  · replace h := zz_f c_1 h
    refine lv_aload_n hx hb d_K_find_12 rfl (lv_at hl 0 rfl) ?_
    refine va_get (D := z.1) (ci := 4) (v := .ref (A 2)) (C := R_K) (T := F_K) (N := 6) hx hb hts i_K hown hK hP 1 rfl rfl 0 (by decide) (hts _ wq_128) (fun _ h9 => h9) rfl d_K_find_13 ?_
    refine lv_iload hx hb d_K_find_16 (lv_at hl 5 rfl) ?_
    obtain ⟨c_2, h⟩ := zz_oob h
    refine va_iald hx hb hK hP 2 0 rfl rfl c_2 d_K_find_18 ?_
    refine lv_iload_n hx hb d_K_find_19 rfl (lv_at hl 1 rfl) ?_
    refine lv_icmp_ne (tgt := 61) hx hb d_K_find_20 (by decide) (fun c_3 => ?_) (fun c_3 => ?_)
    · replace h := zz_f c_3 h
      refine lv_iinc (v := (v6 + (1 : Int32))) (lv' := [(6, .int (v6 + (1 : Int32))), (0, .ref (A 1)), (1, .int v1), (2, .int v2), (3, .int v3), (4, .long v4)]) hx hb d_K_find_61 hl (k := 5) rfl rfl (by decide) rfl (fun ls hl => ?_)
      refine lv_goto (tgt := 3) hx hb d_K_find_64 (by decide) ?_
      exact hG _ (Option.some.inj h).symm _ _ _ hP hD hS (lv_sub hl [1, 2, 3, 4, 5, 0] rfl)
    · replace h := zz_t c_3 h
      refine lv_aload_n hx hb d_K_find_23 rfl (lv_at hl 0 rfl) ?_
      refine va_get (D := z.1) (ci := 4) (v := .ref (A 3)) (C := R_K) (T := F_K) (N := 6) hx hb hts i_K hown hK hP 1 rfl rfl 1 (by decide) (hts _ wq_129) (fun _ h9 => h9) rfl d_K_find_24 ?_
      refine lv_iload hx hb d_K_find_27 (lv_at hl 5 rfl) ?_
      obtain ⟨c_4, h⟩ := zz_oob h
      refine va_iald hx hb hK hP 3 0 rfl rfl c_4 d_K_find_29 ?_
      refine lv_iload_n hx hb d_K_find_30 rfl (lv_at hl 2 rfl) ?_
      refine lv_icmp_ne (tgt := 61) hx hb d_K_find_31 (by decide) (fun c_5 => ?_) (fun c_5 => ?_)
      · replace h := zz_f c_5 h
        refine lv_iinc (v := (v6 + (1 : Int32))) (lv' := [(6, .int (v6 + (1 : Int32))), (0, .ref (A 1)), (1, .int v1), (2, .int v2), (3, .int v3), (4, .long v4)]) hx hb d_K_find_61 hl (k := 5) rfl rfl (by decide) rfl (fun ls hl => ?_)
        refine lv_goto (tgt := 3) hx hb d_K_find_64 (by decide) ?_
        exact hG _ (Option.some.inj h).symm _ _ _ hP hD hS (lv_sub hl [1, 2, 3, 4, 5, 0] rfl)
      · replace h := zz_t c_5 h
        refine lv_aload_n hx hb d_K_find_34 rfl (lv_at hl 0 rfl) ?_
        refine va_get (D := z.1) (ci := 4) (v := .ref (A 4)) (C := R_K) (T := F_K) (N := 6) hx hb hts i_K hown hK hP 1 rfl rfl 2 (by decide) (hts _ wq_130) (fun _ h9 => h9) rfl d_K_find_35 ?_
        refine lv_iload hx hb d_K_find_38 (lv_at hl 5 rfl) ?_
        obtain ⟨c_6, h⟩ := zz_oob h
        refine va_iald hx hb hK hP 4 0 rfl rfl c_6 d_K_find_40 ?_
        refine lv_iload_n hx hb d_K_find_41 rfl (lv_at hl 3 rfl) ?_
        refine lv_icmp_ne (tgt := 61) hx hb d_K_find_42 (by decide) (fun c_7 => ?_) (fun c_7 => ?_)
        · replace h := zz_f c_7 h
          refine lv_iinc (v := (v6 + (1 : Int32))) (lv' := [(6, .int (v6 + (1 : Int32))), (0, .ref (A 1)), (1, .int v1), (2, .int v2), (3, .int v3), (4, .long v4)]) hx hb d_K_find_61 hl (k := 5) rfl rfl (by decide) rfl (fun ls hl => ?_)
          refine lv_goto (tgt := 3) hx hb d_K_find_64 (by decide) ?_
          exact hG _ (Option.some.inj h).symm _ _ _ hP hD hS (lv_sub hl [1, 2, 3, 4, 5, 0] rfl)
        · replace h := zz_t c_7 h
          refine lv_aload_n hx hb d_K_find_45 rfl (lv_at hl 0 rfl) ?_
          refine va_get (D := z.1) (ci := 4) (v := .ref (A 5)) (C := R_K) (T := F_K) (N := 6) hx hb hts i_K hown hK hP 1 rfl rfl 3 (by decide) (hts _ wq_131) (fun _ h9 => h9) rfl d_K_find_46 ?_
          refine lv_iload hx hb d_K_find_49 (lv_at hl 5 rfl) ?_
          obtain ⟨c_8, h⟩ := zz_oob h
          refine va_lald hx hb hK hP 5 2 rfl rfl c_8 d_K_find_51 ?_
          refine lv_lload hx hb d_K_find_52 (lv_at hl 4 rfl) ?_
          refine W.lcmp hx hb d_K_find_54 ?_
          refine lv_if_ne (tgt := 61) hx hb d_K_find_55 (by decide) (fun c_9 => ?_) (fun c_9 => ?_)
          · replace h := zz_f c_9 h
            refine lv_iinc (v := (v6 + (1 : Int32))) (lv' := [(6, .int (v6 + (1 : Int32))), (0, .ref (A 1)), (1, .int v1), (2, .int v2), (3, .int v3), (4, .long v4)]) hx hb d_K_find_61 hl (k := 5) rfl rfl (by decide) rfl (fun ls hl => ?_)
            refine lv_goto (tgt := 3) hx hb d_K_find_64 (by decide) ?_
            exact hG _ (Option.some.inj h).symm _ _ _ hP hD hS (lv_sub hl [1, 2, 3, 4, 5, 0] rfl)
          · replace h := zz_t c_9 h
            exact hE _ (Option.some.inj h).symm _ _ _ hP hD hS hl

set_option maxRecDepth 100000 in
set_option maxHeartbeats 4000000 in
theorem k_K_find (l : Launch) (z : zE) (A : Nat → Nat) (Rr : va_W) (n : Nat) (S : ZC) (a1 : Int32) (a2 : Int32) (a3 : Int32) (a4 : Int64) (r0 : Int32) (S' : ZC) (h : fx_K_find n S a1 a2 a3 a4 = some (r0, S')) : zC z l y_K_find w_K_find rm_K_find [.ref (A 1), .int a1, .int a2, .int a3, .long a4] (cw z A S ++ Rr) (some (.int r0)) (cw z A S' ++ Rr) := by
  refine zz_of (by decide) (Nat.le_of_ble_eq_true rfl) ?_
  intro p e s m args below meth c A0 ls hM hr hlocks hA hP hD hl
  have hM : zM z p s m args c b_K_find 7 R_K := hM
  obtain ⟨hx, hb, hml, hown, hts, hK, hN⟩ := id hM
  have hS : va_S A0 s.heap s.heap [] := va_S.rf
  have hl : lv_has ls 7 [(0, .ref (A 1)), (1, .int a1), (2, .int a2), (3, .int a3), (4, .long a4)] := hl
  unfold fx_K_find at h
  refine lv_iconst (v := 0) hx hb d_K_find_0 (by decide) ?_
  refine lv_istore (lv' := [(6, .int (0 : Int32)), (0, .ref (A 1)), (1, .int a1), (2, .int a2), (3, .int a3), (4, .long a4)]) hx hb d_K_find_1 hl (by decide) rfl (fun ls hl => ?_)
  replace h := zz_bL2 h
  obtain ⟨x_10, v6_10, S_10, e_10, h⟩ := h
  refine lp_K_find_L3 hM hA n a1 a2 a3 a4 _ _ _ e_10 ?_ _ _ _ hP hD hS (lv_sub hl [1, 2, 3, 4, 5, 0] rfl)
  intro H locs ls hP hD hS hl
  have hl : lv_has ls 7 [(0, .ref (A 1)), (1, .int a1), (2, .int a2), (3, .int a3), (4, .long a4), (6, .int v6_10)] := hl
  have hP : va_P z.1 vwCl (cw z A S_10 ++ Rr) H := hP
  have hD : va_D A0 (cw z A S_10 ++ Rr) := hD
  by_cases c_10 : x_10 = 58
  · replace h := zz_t c_10 h
    subst c_10
    refine W.eq (g2 := F0 m 58 ls []) rfl ?_
    refine lv_iload hx hb d_K_find_58 (lv_at hl 5 rfl) ?_
    exact zz_iret (fun S => cw z A S ++ Rr) hx hb hr hlocks hP hD hS h d_K_find_60
  replace h := zz_f c_10 h
  replace h := zz_grd h
  obtain ⟨c_10, h⟩ := h
  subst c_10
  refine W.eq (g2 := F0 m 67 ls []) rfl ?_
  refine lv_iconst (v := -1) hx hb d_K_find_67 (by decide) ?_
  exact zz_iret (fun S => cw z A S ++ Rr) hx hb hr hlocks hP hD hS h d_K_find_68

abbrev b_K_move : ByteArray := prog_3_method_7_code
abbrev y_K_move : MethodName := ⟨"MemberChooser$KeptCalls", "move", "(II)V"⟩
abbrev w_K_move : List Cond := Cond.code y_K_move b_K_move 3 none :: zTb
theorem d_K_move_0 : decode b_K_move 0 = .ok (.aload_n 0, 1) := by decide +kernel
theorem d_K_move_1 : decode b_K_move 1 = .ok (.getfield 11, 3) := by decide +kernel
theorem d_K_move_4 : decode b_K_move 4 = .ok (.iload_n 2, 1) := by decide +kernel
theorem d_K_move_5 : decode b_K_move 5 = .ok (.aload_n 0, 1) := by decide +kernel
theorem d_K_move_6 : decode b_K_move 6 = .ok (.getfield 11, 3) := by decide +kernel
theorem d_K_move_9 : decode b_K_move 9 = .ok (.iload_n 1, 1) := by decide +kernel
theorem d_K_move_10 : decode b_K_move 10 = .ok (.iaload, 1) := by decide +kernel
theorem d_K_move_11 : decode b_K_move 11 = .ok (.iastore, 1) := by decide +kernel
theorem d_K_move_12 : decode b_K_move 12 = .ok (.aload_n 0, 1) := by decide +kernel
theorem d_K_move_13 : decode b_K_move 13 = .ok (.getfield 15, 3) := by decide +kernel
theorem d_K_move_16 : decode b_K_move 16 = .ok (.iload_n 2, 1) := by decide +kernel
theorem d_K_move_17 : decode b_K_move 17 = .ok (.aload_n 0, 1) := by decide +kernel
theorem d_K_move_18 : decode b_K_move 18 = .ok (.getfield 15, 3) := by decide +kernel
theorem d_K_move_21 : decode b_K_move 21 = .ok (.iload_n 1, 1) := by decide +kernel
theorem d_K_move_22 : decode b_K_move 22 = .ok (.iaload, 1) := by decide +kernel
theorem d_K_move_23 : decode b_K_move 23 = .ok (.iastore, 1) := by decide +kernel
theorem d_K_move_24 : decode b_K_move 24 = .ok (.aload_n 0, 1) := by decide +kernel
theorem d_K_move_25 : decode b_K_move 25 = .ok (.getfield 18, 3) := by decide +kernel
theorem d_K_move_28 : decode b_K_move 28 = .ok (.iload_n 2, 1) := by decide +kernel
theorem d_K_move_29 : decode b_K_move 29 = .ok (.aload_n 0, 1) := by decide +kernel
theorem d_K_move_30 : decode b_K_move 30 = .ok (.getfield 18, 3) := by decide +kernel
theorem d_K_move_33 : decode b_K_move 33 = .ok (.iload_n 1, 1) := by decide +kernel
theorem d_K_move_34 : decode b_K_move 34 = .ok (.iaload, 1) := by decide +kernel
theorem d_K_move_35 : decode b_K_move 35 = .ok (.iastore, 1) := by decide +kernel
theorem d_K_move_36 : decode b_K_move 36 = .ok (.aload_n 0, 1) := by decide +kernel
theorem d_K_move_37 : decode b_K_move 37 = .ok (.getfield 21, 3) := by decide +kernel
theorem d_K_move_40 : decode b_K_move 40 = .ok (.iload_n 2, 1) := by decide +kernel
theorem d_K_move_41 : decode b_K_move 41 = .ok (.aload_n 0, 1) := by decide +kernel
theorem d_K_move_42 : decode b_K_move 42 = .ok (.getfield 21, 3) := by decide +kernel
theorem d_K_move_45 : decode b_K_move 45 = .ok (.iload_n 1, 1) := by decide +kernel
theorem d_K_move_46 : decode b_K_move 46 = .ok (.laload, 1) := by decide +kernel
theorem d_K_move_47 : decode b_K_move 47 = .ok (.lastore, 1) := by decide +kernel
theorem d_K_move_48 : decode b_K_move 48 = .ok (.aload_n 0, 1) := by decide +kernel
theorem d_K_move_49 : decode b_K_move 49 = .ok (.getfield 25, 3) := by decide +kernel
theorem d_K_move_52 : decode b_K_move 52 = .ok (.iload_n 2, 1) := by decide +kernel
theorem d_K_move_53 : decode b_K_move 53 = .ok (.aload_n 0, 1) := by decide +kernel
theorem d_K_move_54 : decode b_K_move 54 = .ok (.getfield 25, 3) := by decide +kernel
theorem d_K_move_57 : decode b_K_move 57 = .ok (.iload_n 1, 1) := by decide +kernel
theorem d_K_move_58 : decode b_K_move 58 = .ok (.iaload, 1) := by decide +kernel
theorem d_K_move_59 : decode b_K_move 59 = .ok (.iastore, 1) := by decide +kernel
theorem d_K_move_60 : decode b_K_move 60 = .ok (.return_, 1) := by decide +kernel
abbrev rm_K_move : Room := { frames := 0, cells := 0, slots := 0, locals := 0 }
def fx_K_move (n : Nat) (S : ZC) (a1 : Int32) (a2 : Int32) : Option (ZC) :=
  (if zoob a1 100 then none else
  (if zoob a2 100 then none else
  zlet (kTy' S (upd (kTy S) a2.toNatClampNeg ((kTy S) a1.toNatClampNeg))) (fun S_3 =>
  (if zoob a1 100 then none else
  (if zoob a2 100 then none else
  zlet (kNa' S_3 (upd (kNa S_3) a2.toNatClampNeg ((kNa S_3) a1.toNatClampNeg))) (fun S_6 =>
  (if zoob a1 100 then none else
  (if zoob a2 100 then none else
  zlet (kSz' S_6 (upd (kSz S_6) a2.toNatClampNeg ((kSz S_6) a1.toNatClampNeg))) (fun S_9 =>
  (if zoob a1 100 then none else
  (if zoob a2 100 then none else
  zlet (kCl' S_9 (vp_updL (kCl S_9) a2.toNatClampNeg ((kCl S_9) a1.toNatClampNeg))) (fun S_12 =>
  (if zoob a1 100 then none else
  (if zoob a2 100 then none else
  zlet (kOu' S_12 (upd (kOu S_12) a2.toNatClampNeg ((kOu S_12) a1.toNatClampNeg))) (fun S_15 =>
  some S_15)))))))))))))))

set_option maxRecDepth 100000 in
set_option maxHeartbeats 4000000 in
theorem k_K_move (l : Launch) (z : zE) (A : Nat → Nat) (Rr : va_W) (n : Nat) (S : ZC) (a1 : Int32) (a2 : Int32) (S' : ZC) (h : fx_K_move n S a1 a2 = some S') : zC z l y_K_move w_K_move rm_K_move [.ref (A 1), .int a1, .int a2] (cw z A S ++ Rr) none (cw z A S' ++ Rr) := by
  refine zz_of (by decide) (Nat.le_of_ble_eq_true rfl) ?_
  intro p e s m args below meth c A0 ls hM hr hlocks hA hP hD hl
  have hM : zM z p s m args c b_K_move 3 R_K := hM
  obtain ⟨hx, hb, hml, hown, hts, hK, hN⟩ := id hM
  have hS : va_S A0 s.heap s.heap [] := va_S.rf
  have hl : lv_has ls 3 [(0, .ref (A 1)), (1, .int a1), (2, .int a2)] := hl
  unfold fx_K_move at h
  refine lv_aload_n hx hb d_K_move_0 rfl (lv_at hl 0 rfl) ?_
  refine va_get (D := z.1) (ci := 4) (v := .ref (A 2)) (C := R_K) (T := F_K) (N := 6) hx hb hts i_K hown hK hP 1 rfl rfl 0 (by decide) (hts _ wq_128) (fun _ h9 => h9) rfl d_K_move_1 ?_
  refine lv_iload_n hx hb d_K_move_4 rfl (lv_at hl 2 rfl) ?_
  refine lv_aload_n hx hb d_K_move_5 rfl (lv_at hl 0 rfl) ?_
  refine va_get (D := z.1) (ci := 4) (v := .ref (A 2)) (C := R_K) (T := F_K) (N := 6) hx hb hts i_K hown hK hP 1 rfl rfl 0 (by decide) (hts _ wq_128) (fun _ h9 => h9) rfl d_K_move_6 ?_
  refine lv_iload_n hx hb d_K_move_9 rfl (lv_at hl 1 rfl) ?_
  obtain ⟨c_1, h⟩ := zz_oob h
  refine va_iald hx hb hK hP 2 0 rfl rfl c_1 d_K_move_10 ?_
  obtain ⟨c_2, h⟩ := zz_oob h
  obtain ⟨S_3, e_3, h⟩ := zz_let h
  refine va_iast hx hb hK hP hD hS 2 0 rfl rfl c_2 d_K_move_11 (fun H locs hP hD hS => ?_)
  have hP : va_P z.1 vwCl (cw z A S_3 ++ Rr) H := by rw [e_3]; exact hP
  have hD : va_D A0 (cw z A S_3 ++ Rr) := by rw [e_3]; exact hD
  refine lv_aload_n hx hb d_K_move_12 rfl (lv_at hl 0 rfl) ?_
  refine va_get (D := z.1) (ci := 4) (v := .ref (A 3)) (C := R_K) (T := F_K) (N := 6) hx hb hts i_K hown hK hP 1 rfl rfl 1 (by decide) (hts _ wq_129) (fun _ h9 => h9) rfl d_K_move_13 ?_
  refine lv_iload_n hx hb d_K_move_16 rfl (lv_at hl 2 rfl) ?_
  refine lv_aload_n hx hb d_K_move_17 rfl (lv_at hl 0 rfl) ?_
  refine va_get (D := z.1) (ci := 4) (v := .ref (A 3)) (C := R_K) (T := F_K) (N := 6) hx hb hts i_K hown hK hP 1 rfl rfl 1 (by decide) (hts _ wq_129) (fun _ h9 => h9) rfl d_K_move_18 ?_
  refine lv_iload_n hx hb d_K_move_21 rfl (lv_at hl 1 rfl) ?_
  obtain ⟨c_4, h⟩ := zz_oob h
  refine va_iald hx hb hK hP 3 0 rfl rfl c_4 d_K_move_22 ?_
  obtain ⟨c_5, h⟩ := zz_oob h
  obtain ⟨S_6, e_6, h⟩ := zz_let h
  refine va_iast hx hb hK hP hD hS 3 0 rfl rfl c_5 d_K_move_23 (fun H locs hP hD hS => ?_)
  have hP : va_P z.1 vwCl (cw z A S_6 ++ Rr) H := by rw [e_6]; exact hP
  have hD : va_D A0 (cw z A S_6 ++ Rr) := by rw [e_6]; exact hD
  refine lv_aload_n hx hb d_K_move_24 rfl (lv_at hl 0 rfl) ?_
  refine va_get (D := z.1) (ci := 4) (v := .ref (A 4)) (C := R_K) (T := F_K) (N := 6) hx hb hts i_K hown hK hP 1 rfl rfl 2 (by decide) (hts _ wq_130) (fun _ h9 => h9) rfl d_K_move_25 ?_
  refine lv_iload_n hx hb d_K_move_28 rfl (lv_at hl 2 rfl) ?_
  refine lv_aload_n hx hb d_K_move_29 rfl (lv_at hl 0 rfl) ?_
  refine va_get (D := z.1) (ci := 4) (v := .ref (A 4)) (C := R_K) (T := F_K) (N := 6) hx hb hts i_K hown hK hP 1 rfl rfl 2 (by decide) (hts _ wq_130) (fun _ h9 => h9) rfl d_K_move_30 ?_
  refine lv_iload_n hx hb d_K_move_33 rfl (lv_at hl 1 rfl) ?_
  obtain ⟨c_7, h⟩ := zz_oob h
  refine va_iald hx hb hK hP 4 0 rfl rfl c_7 d_K_move_34 ?_
  obtain ⟨c_8, h⟩ := zz_oob h
  obtain ⟨S_9, e_9, h⟩ := zz_let h
  refine va_iast hx hb hK hP hD hS 4 0 rfl rfl c_8 d_K_move_35 (fun H locs hP hD hS => ?_)
  have hP : va_P z.1 vwCl (cw z A S_9 ++ Rr) H := by rw [e_9]; exact hP
  have hD : va_D A0 (cw z A S_9 ++ Rr) := by rw [e_9]; exact hD
  refine lv_aload_n hx hb d_K_move_36 rfl (lv_at hl 0 rfl) ?_
  refine va_get (D := z.1) (ci := 4) (v := .ref (A 5)) (C := R_K) (T := F_K) (N := 6) hx hb hts i_K hown hK hP 1 rfl rfl 3 (by decide) (hts _ wq_131) (fun _ h9 => h9) rfl d_K_move_37 ?_
  refine lv_iload_n hx hb d_K_move_40 rfl (lv_at hl 2 rfl) ?_
  refine lv_aload_n hx hb d_K_move_41 rfl (lv_at hl 0 rfl) ?_
  refine va_get (D := z.1) (ci := 4) (v := .ref (A 5)) (C := R_K) (T := F_K) (N := 6) hx hb hts i_K hown hK hP 1 rfl rfl 3 (by decide) (hts _ wq_131) (fun _ h9 => h9) rfl d_K_move_42 ?_
  refine lv_iload_n hx hb d_K_move_45 rfl (lv_at hl 1 rfl) ?_
  obtain ⟨c_10, h⟩ := zz_oob h
  refine va_lald hx hb hK hP 5 2 rfl rfl c_10 d_K_move_46 ?_
  obtain ⟨c_11, h⟩ := zz_oob h
  obtain ⟨S_12, e_12, h⟩ := zz_let h
  refine va_last hx hb hK hP hD hS 5 2 rfl rfl c_11 d_K_move_47 (fun H locs hP hD hS => ?_)
  have hP : va_P z.1 vwCl (cw z A S_12 ++ Rr) H := by rw [e_12]; exact hP
  have hD : va_D A0 (cw z A S_12 ++ Rr) := by rw [e_12]; exact hD
  refine lv_aload_n hx hb d_K_move_48 rfl (lv_at hl 0 rfl) ?_
  refine va_get (D := z.1) (ci := 4) (v := .ref (A 6)) (C := R_K) (T := F_K) (N := 6) hx hb hts i_K hown hK hP 1 rfl rfl 4 (by decide) (hts _ wq_132) (fun _ h9 => h9) rfl d_K_move_49 ?_
  refine lv_iload_n hx hb d_K_move_52 rfl (lv_at hl 2 rfl) ?_
  refine lv_aload_n hx hb d_K_move_53 rfl (lv_at hl 0 rfl) ?_
  refine va_get (D := z.1) (ci := 4) (v := .ref (A 6)) (C := R_K) (T := F_K) (N := 6) hx hb hts i_K hown hK hP 1 rfl rfl 4 (by decide) (hts _ wq_132) (fun _ h9 => h9) rfl d_K_move_54 ?_
  refine lv_iload_n hx hb d_K_move_57 rfl (lv_at hl 1 rfl) ?_
  obtain ⟨c_13, h⟩ := zz_oob h
  refine va_iald hx hb hK hP 6 0 rfl rfl c_13 d_K_move_58 ?_
  obtain ⟨c_14, h⟩ := zz_oob h
  obtain ⟨S_15, e_15, h⟩ := zz_let h
  refine va_iast hx hb hK hP hD hS 6 0 rfl rfl c_14 d_K_move_59 (fun H locs hP hD hS => ?_)
  have hP : va_P z.1 vwCl (cw z A S_15 ++ Rr) H := by rw [e_15]; exact hP
  have hD : va_D A0 (cw z A S_15 ++ Rr) := by rw [e_15]; exact hD
  exact zz_vret (fun S => cw z A S ++ Rr) hx hb hr hlocks hP hD hS h d_K_move_60

