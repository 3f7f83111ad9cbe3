abbrev b_T_hasFace : ByteArray := prog_5_method_14_code
abbrev y_T_hasFace : MethodName := ⟨"MemberChooser$Types", "hasFace", "(II)Z"⟩
abbrev w_T_hasFace : List Cond := Cond.code y_T_hasFace b_T_hasFace 3 (some .boolean) :: zTb
theorem d_T_hasFace_0 : decode b_T_hasFace 0 = .ok (.aload_n 0, 1) := by decide +kernel
theorem d_T_hasFace_1 : decode b_T_hasFace 1 = .ok (.getfield 24, 3) := by decide +kernel
theorem d_T_hasFace_4 : decode b_T_hasFace 4 = .ok (.iload_n 1, 1) := by decide +kernel
theorem d_T_hasFace_5 : decode b_T_hasFace 5 = .ok (.aaload, 1) := by decide +kernel
theorem d_T_hasFace_6 : decode b_T_hasFace 6 = .ok (.aload_n 0, 1) := by decide +kernel
theorem d_T_hasFace_7 : decode b_T_hasFace 7 = .ok (.getfield 19, 3) := by decide +kernel
theorem d_T_hasFace_10 : decode b_T_hasFace 10 = .ok (.iload_n 1, 1) := by decide +kernel
theorem d_T_hasFace_11 : decode b_T_hasFace 11 = .ok (.iaload, 1) := by decide +kernel
theorem d_T_hasFace_12 : decode b_T_hasFace 12 = .ok (.iload_n 2, 1) := by decide +kernel
theorem d_T_hasFace_13 : decode b_T_hasFace 13 = .ok (.invokestatic 71, 3) := by decide +kernel
theorem d_T_hasFace_16 : decode b_T_hasFace 16 = .ok (.ireturn, 1) := by decide +kernel
abbrev rm_T_hasFace : Room := { frames := 1, cells := 0, slots := 0, locals := 23 }
def fx_T_hasFace (n : Nat) (S : ZC) (a1 : Int32) (a2 : Int32) : Option (Int32 × ZC) :=
  (if zoob a1 32 then none else
  (if zoob a1 32 then none else
  zbind1 (fx_T_holds n 24 (tGr S (a1.toNatClampNeg)) ((tFc S) a1.toNatClampNeg) a2) (fun r_3 =>
  (if r_3 = 0 ∨ r_3 = 1 then some (r_3, S) else none))))

set_option maxRecDepth 100000 in
set_option maxHeartbeats 4000000 in
theorem k_T_hasFace (l : Launch) (z : zE) (A : Nat → Nat) (Rr : va_W) (n : Nat) (S : ZC) (a1 : Int32) (a2 : Int32) (r0 : Int32) (S' : ZC) (h : fx_T_hasFace n S a1 a2 = some (r0, S')) : zC z l y_T_hasFace w_T_hasFace rm_T_hasFace [.ref (A 1), .int a1, .int a2] (cw z A S ++ Rr) (some (.int r0)) (cw z A S' ++ Rr) := by
  refine zz_of (by decide) (Nat.le_of_ble_eq_true rfl) ?_
  intro p e s m args below meth c A0 ls hM hr hlocks hA hP hD hl
  have hM : zM z p s m args c b_T_hasFace 3 R_T := hM
  obtain ⟨hx, hb, hml, hown, hts, hK, hN⟩ := id hM
  have hS : va_S A0 s.heap s.heap [] := va_S.rf
  have hl : lv_has ls 3 [(0, .ref (A 1)), (1, .int a1), (2, .int a2)] := hl
  unfold fx_T_hasFace at h
  refine lv_aload_n hx hb d_T_hasFace_0 rfl (lv_at hl 0 rfl) ?_
  refine va_get (D := z.1) (ci := 1) (v := .ref (A 8)) (C := R_T) (T := F_T) (N := 6) hx hb hts i_T hown hK hP 1 rfl rfl 3 (by decide) (hts _ wq_41) (fun _ h9 => h9) rfl d_T_hasFace_1 ?_
  refine lv_iload_n hx hb d_T_hasFace_4 rfl (lv_at hl 1 rfl) ?_
  obtain ⟨c_1, h⟩ := zz_oob h
  refine zz_aald hx hb hK hP 8 3 rfl rfl c_1 d_T_hasFace_5 ?_
  have c_1 := zz_lt c_1
  refine lv_aload_n hx hb d_T_hasFace_6 rfl (lv_at hl 0 rfl) ?_
  refine va_get (D := z.1) (ci := 1) (v := .ref (A 7)) (C := R_T) (T := F_T) (N := 6) hx hb hts i_T hown hK hP 1 rfl rfl 2 (by decide) (hts _ wq_40) (fun _ h9 => h9) rfl d_T_hasFace_7 ?_
  refine lv_iload_n hx hb d_T_hasFace_10 rfl (lv_at hl 1 rfl) ?_
  obtain ⟨c_2, h⟩ := zz_oob h
  refine va_iald hx hb hK hP 7 0 rfl rfl c_2 d_T_hasFace_11 ?_
  refine lv_iload_n hx hb d_T_hasFace_12 rfl (lv_at hl 2 rfl) ?_
  obtain ⟨r_3, e_3, h⟩ := zz_bind1 h
  refine zz_goI (zz_runS (As := [.ref (A (23 + a1.toNatClampNeg)), .int ((tFc S) a1.toNatClampNeg), .int a2]) (rest := []) (k_T_holds l z _ (hq := (cw_row c_1)) (kq := (23 + a1.toNatClampNeg)) n _ _ _ e_3) ⟨hx, hb, hml, hown, hts⟩ (va_cwS 3 hts (zz_gS wq_196 wq_197 wq_2 wq_198) rfl rfl rfl (by decide +kernel) ⟨Nat.le_of_ble_eq_true rfl, Nat.le_of_ble_eq_true rfl⟩) hK hN hP hD rfl hl.1 rfl (Nat.le_of_ble_eq_true rfl) d_T_hasFace_13 ⟨Nat.le_of_ble_eq_true rfl, Nat.le_of_ble_eq_true rfl⟩) hD hS hA (fun H locs hP hD hS => ?_)
  obtain ⟨c_4, h⟩ := zz_grd h
  exact zz_zret (fun S => cw z A S ++ Rr) hx hb hr hlocks hP hD hS (zz_bool c_4) h d_T_hasFace_16

abbrev b_T_raiseAllBelow : ByteArray := prog_5_method_15_code
abbrev y_T_raiseAllBelow : MethodName := ⟨"MemberChooser$Types", "raiseAllBelow", "(II)V"⟩
abbrev w_T_raiseAllBelow : List Cond := Cond.code y_T_raiseAllBelow b_T_raiseAllBelow 4 none :: zTb
theorem d_T_raiseAllBelow_0 : decode b_T_raiseAllBelow 0 = .ok (.bipush 8, 2) := by decide +kernel
theorem d_T_raiseAllBelow_2 : decode b_T_raiseAllBelow 2 = .ok (.istore_n 3, 1) := by decide +kernel
theorem d_T_raiseAllBelow_3 : decode b_T_raiseAllBelow 3 = .ok (.iload_n 3, 1) := by decide +kernel
theorem d_T_raiseAllBelow_4 : decode b_T_raiseAllBelow 4 = .ok (.bipush 8, 2) := by decide +kernel
theorem d_T_raiseAllBelow_6 : decode b_T_raiseAllBelow 6 = .ok (.aload_n 0, 1) := by decide +kernel
theorem d_T_raiseAllBelow_7 : decode b_T_raiseAllBelow 7 = .ok (.getfield 30, 3) := by decide +kernel
theorem d_T_raiseAllBelow_10 : decode b_T_raiseAllBelow 10 = .ok (.iadd, 1) := by decide +kernel
theorem d_T_raiseAllBelow_11 : decode b_T_raiseAllBelow 11 = .ok (.if_icmp .ge 33, 3) := by decide +kernel
theorem d_T_raiseAllBelow_14 : decode b_T_raiseAllBelow 14 = .ok (.aload_n 0, 1) := by decide +kernel
theorem d_T_raiseAllBelow_15 : decode b_T_raiseAllBelow 15 = .ok (.iload_n 3, 1) := by decide +kernel
theorem d_T_raiseAllBelow_16 : decode b_T_raiseAllBelow 16 = .ok (.iload_n 1, 1) := by decide +kernel
theorem d_T_raiseAllBelow_17 : decode b_T_raiseAllBelow 17 = .ok (.invokevirtual 51, 3) := by decide +kernel
theorem d_T_raiseAllBelow_20 : decode b_T_raiseAllBelow 20 = .ok (.ifCond .eq 18, 3) := by decide +kernel
theorem d_T_raiseAllBelow_23 : decode b_T_raiseAllBelow 23 = .ok (.aload_n 0, 1) := by decide +kernel
theorem d_T_raiseAllBelow_24 : decode b_T_raiseAllBelow 24 = .ok (.getfield 27, 3) := by decide +kernel
theorem d_T_raiseAllBelow_27 : decode b_T_raiseAllBelow 27 = .ok (.iload_n 3, 1) := by decide +kernel
theorem d_T_raiseAllBelow_28 : decode b_T_raiseAllBelow 28 = .ok (.dup2, 1) := by decide +kernel
theorem d_T_raiseAllBelow_29 : decode b_T_raiseAllBelow 29 = .ok (.iaload, 1) := by decide +kernel
theorem d_T_raiseAllBelow_30 : decode b_T_raiseAllBelow 30 = .ok (.aload_n 0, 1) := by decide +kernel
theorem d_T_raiseAllBelow_31 : decode b_T_raiseAllBelow 31 = .ok (.getfield 27, 3) := by decide +kernel
theorem d_T_raiseAllBelow_34 : decode b_T_raiseAllBelow 34 = .ok (.iload_n 2, 1) := by decide +kernel
theorem d_T_raiseAllBelow_35 : decode b_T_raiseAllBelow 35 = .ok (.iaload, 1) := by decide +kernel
theorem d_T_raiseAllBelow_36 : decode b_T_raiseAllBelow 36 = .ok (.ior, 1) := by decide +kernel
theorem d_T_raiseAllBelow_37 : decode b_T_raiseAllBelow 37 = .ok (.iastore, 1) := by decide +kernel
theorem d_T_raiseAllBelow_38 : decode b_T_raiseAllBelow 38 = .ok (.iinc 3 1, 3) := by decide +kernel
theorem d_T_raiseAllBelow_41 : decode b_T_raiseAllBelow 41 = .ok (.goto (-38), 3) := by decide +kernel
theorem d_T_raiseAllBelow_44 : decode b_T_raiseAllBelow 44 = .ok (.return_, 1) := by decide +kernel
abbrev rm_T_raiseAllBelow : Room := { frames := 2, cells := 0, slots := 0, locals := 43 }
def st_T_raiseAllBelow_L3 (n : Nat) (v1 : Int32) (v2 : Int32) (v3 : Int32) (S : ZC) : Option ((Int32 × ZC) ⊕ (Nat × Int32 × ZC)) :=
  (if ((8 : Int32) + (tTo S)) ≤ v3 then
  some (.inr (44, v3, S))
  else
  zbind (fx_T_isSubtype n S v3 v1) (fun r_2 S_2 =>
    (if r_2 = 0 then
    some (.inl ((v3 + (1 : Int32)), S_2))
    else
    (if zoob v3 32 then none else
      (if zoob v2 32 then none else
      (if zoob v3 32 then none else
      zlet (tUp' S_2 (upd (tUp S_2) v3.toNatClampNeg (((tUp S_2) v3.toNatClampNeg) ||| ((tUp S_2) v2.toNatClampNeg)))) (fun S_7 =>
      some (.inl ((v3 + (1 : Int32)), S_7)))))))))

def fx_T_raiseAllBelow_L3 (n : Nat) (v1 : Int32) (v2 : Int32) (v3 : Int32) (S : ZC) : Option (Nat × Int32 × ZC) := zloop (fun (st : Int32 × ZC) => st_T_raiseAllBelow_L3 n v1 v2 st.1 st.2) n (v3, S)

def fx_T_raiseAllBelow (n : Nat) (S : ZC) (a1 : Int32) (a2 : Int32) : Option (ZC) :=
  zbL2 (fx_T_raiseAllBelow_L3 n a1 a2 (8 : Int32) S) (fun x_8 v3_8 S_8 =>
  if x_8 = 44 then
  some S_8
  else none)

set_option maxRecDepth 100000 in
set_option maxHeartbeats 4000000 in
theorem lp_T_raiseAllBelow_L3 {z : zE} {A : Nat → Nat} {Rr : va_W} {p : Program} {l : Launch} {e : Env} {s : State} {m : MethodId} {args : Array Value} {below : List Frame} {meth : Method} {c : Code} {Q : State → Prop} {H0 : Heap} {A0 : Nat → Prop} (hM : zM z p s m args c b_T_raiseAllBelow 4 R_T) (hA : ∀ q : Nat, H0.size ≤ q → A0 q) (n : Nat) (v1 : Int32) (v2 : Int32) :
    ∀ (v3 : Int32) (S : ZC) (r : Nat × Int32 × ZC), fx_T_raiseAllBelow_L3 n v1 v2 v3 S = some r → (∀ (H : Heap) (locs : List Loc) (ls : Array Slot), va_P z.1 vwCl (cw z A r.2.2 ++ Rr) H → va_D A0 (cw z A r.2.2 ++ Rr) → va_S A0 H0 H locs → lv_has ls 4 [(0, .ref (A 1)), (1, .int v1), (2, .int v2), (3, .int r.2.1)] → W p l e rm_T_raiseAllBelow s m args below meth c H locs 0 0 Q (F0 m r.1 ls [])) →
    ∀ (H : Heap) (locs : List Loc) (ls : Array Slot), va_P z.1 vwCl (cw z A S ++ Rr) H → va_D A0 (cw z A S ++ Rr) → va_S A0 H0 H locs → lv_has ls 4 [(0, .ref (A 1)), (1, .int v1), (2, .int v2), (3, .int v3)] → W p l e rm_T_raiseAllBelow s m args below meth c H locs 0 0 Q (F0 m 3 ls []) := by
  obtain ⟨hx, hb, hml, hown, hts, hK, hN⟩ := id hM
  intro v3 S r h hE
  refine zz_loop (G := fun (st : Int32 × ZC) => ∀ (H : Heap) (locs : List Loc) (ls : Array Slot), va_P z.1 vwCl (cw z A st.2 ++ Rr) H → va_D A0 (cw z A st.2 ++ Rr) → va_S A0 H0 H locs → lv_has ls 4 [(0, .ref (A 1)), (1, .int v1), (2, .int v2), (3, .int st.1)] → W p l e rm_T_raiseAllBelow s m args below meth c H locs 0 0 Q (F0 m 3 ls [])) (E := fun (r : Nat × Int32 × ZC) => ∀ (H : Heap) (locs : List Loc) (ls : Array Slot), va_P z.1 vwCl (cw z A r.2.2 ++ Rr) H → va_D A0 (cw z A r.2.2 ++ Rr) → va_S A0 H0 H locs → lv_has ls 4 [(0, .ref (A 1)), (1, .int v1), (2, .int v2), (3, .int r.2.1)] → W p l e rm_T_raiseAllBelow s m args below meth c H locs 0 0 Q (F0 m r.1 ls [])) ?_ n (v3, S) r h hE
  clear h hE r v3 S
  rintro ⟨v3, S⟩ o h hG hE H locs ls hP hD hS hl
  have h : st_T_raiseAllBelow_L3 n v1 v2 v3 S = some o := h
  have hl : lv_has ls 4 [(0, .ref (A 1)), (1, .int v1), (2, .int v2), (3, .int v3)] := hl
  have hP : va_P z.1 vwCl (cw z A S ++ Rr) H := hP
  have hD : va_D A0 (cw z A S ++ Rr) := hD
  unfold st_T_raiseAllBelow_L3 at h
  refine lv_iload_n hx hb d_T_raiseAllBelow_3 rfl (lv_at hl 3 rfl) ?_
  refine lv_bipush (v := 8) hx hb d_T_raiseAllBelow_4 (by decide) ?_
  refine lv_aload_n hx hb d_T_raiseAllBelow_6 rfl (lv_at hl 0 rfl) ?_
  refine va_get (D := z.1) (ci := 1) (v := .int (tTo S)) (C := R_T) (T := F_T) (N := 6) hx hb hts i_T hown hK hP 1 rfl rfl 5 (by decide) (hts _ wq_43) (fun _ h9 => h9) rfl d_T_raiseAllBelow_7 ?_
  refine lv_iadd hx hb d_T_raiseAllBelow_10 ?_
  refine lv_icmp_ge (tgt := 44) hx hb d_T_raiseAllBelow_11 (by decide) (fun c_1 => ?_) (fun c_1 => ?_)
  · replace h := zz_t c_1 h
    exact hE _ (Option.some.inj h).symm _ _ _ hP hD hS hl
  · replace h := zz_f c_1 h
    refine lv_aload_n hx hb d_T_raiseAllBelow_14 rfl (lv_at hl 0 rfl) ?_
    refine lv_iload_n hx hb d_T_raiseAllBelow_15 rfl (lv_at hl 3 rfl) ?_
    refine lv_iload_n hx hb d_T_raiseAllBelow_16 rfl (lv_at hl 1 rfl) ?_
    obtain ⟨r_2, S_2, e_2, h⟩ := zz_bind h
    refine zz_goI (zz_runV (As := [.int v3, .int v1]) (rest := []) (k_T_isSubtype l z A Rr n _ _ _ _ _ e_2) ⟨hx, hb, hml, hown, hts⟩ (cwV 2 hts (zz_gV wq_188 wq_189 wq_190 wq_2 wq_191) rfl rfl rfl (by decide +kernel) ⟨Nat.le_of_ble_eq_true rfl, Nat.le_of_ble_eq_true rfl⟩) hK hN hP hD (va_recv hK hP (ci := 1) (q0 := 1) rfl rfl) rfl hl.1 rfl (Nat.le_of_ble_eq_true rfl) d_T_raiseAllBelow_17 ⟨Nat.le_of_ble_eq_true rfl, Nat.le_of_ble_eq_true rfl⟩) hD hS hA (fun H locs hP hD hS => ?_)
    refine lv_if_eq (tgt := 38) hx hb d_T_raiseAllBelow_20 (by decide) (fun c_3 => ?_) (fun c_3 => ?_)
    · replace h := zz_t c_3 h
      refine lv_iinc (v := (v3 + (1 : Int32))) (lv' := [(3, .int (v3 + (1 : Int32))), (0, .ref (A 1)), (1, .int v1), (2, .int v2)]) hx hb d_T_raiseAllBelow_38 hl (k := 3) rfl rfl (by decide) rfl (fun ls hl => ?_)
      refine lv_goto (tgt := 3) hx hb d_T_raiseAllBelow_41 (by decide) ?_
      exact hG _ (Option.some.inj h).symm _ _ _ hP hD hS (lv_sub hl [1, 2, 3, 0] rfl)
    · replace h := zz_f c_3 h
      refine lv_aload_n hx hb d_T_raiseAllBelow_23 rfl (lv_at hl 0 rfl) ?_
      refine va_get (D := z.1) (ci := 1) (v := .ref (A 9)) (C := R_T) (T := F_T) (N := 6) hx hb hts i_T hown hK hP 1 rfl rfl 4 (by decide) (hts _ wq_42) (fun _ h9 => h9) rfl d_T_raiseAllBelow_24 ?_
      refine lv_iload_n hx hb d_T_raiseAllBelow_27 rfl (lv_at hl 3 rfl) ?_
      refine lv_dup2_11 hx hb d_T_raiseAllBelow_28 rfl rfl ?_
      obtain ⟨c_4, h⟩ := zz_oob h
      refine va_iald hx hb hK hP 9 0 rfl rfl c_4 d_T_raiseAllBelow_29 ?_
      refine lv_aload_n hx hb d_T_raiseAllBelow_30 rfl (lv_at hl 0 rfl) ?_
      refine va_get (D := z.1) (ci := 1) (v := .ref (A 9)) (C := R_T) (T := F_T) (N := 6) hx hb hts i_T hown hK hP 1 rfl rfl 4 (by decide) (hts _ wq_42) (fun _ h9 => h9) rfl d_T_raiseAllBelow_31 ?_
      refine lv_iload_n hx hb d_T_raiseAllBelow_34 rfl (lv_at hl 2 rfl) ?_
      obtain ⟨c_5, h⟩ := zz_oob h
      refine va_iald hx hb hK hP 9 0 rfl rfl c_5 d_T_raiseAllBelow_35 ?_
      refine lv_ior hx hb d_T_raiseAllBelow_36 ?_
      obtain ⟨c_6, h⟩ := zz_oob h
      obtain ⟨S_7, e_7, h⟩ := zz_let h
      refine va_iast hx hb hK hP hD hS 9 0 rfl rfl c_6 d_T_raiseAllBelow_37 (fun H locs hP hD hS => ?_)
      have hP : va_P z.1 vwCl (cw z A S_7 ++ Rr) H := by rw [e_7]; exact hP
      have hD : va_D A0 (cw z A S_7 ++ Rr) := by rw [e_7]; exact hD
      refine lv_iinc (v := (v3 + (1 : Int32))) (lv' := [(3, .int (v3 + (1 : Int32))), (0, .ref (A 1)), (1, .int v1), (2, .int v2)]) hx hb d_T_raiseAllBelow_38 hl (k := 3) rfl rfl (by decide) rfl (fun ls hl => ?_)
      refine lv_goto (tgt := 3) hx hb d_T_raiseAllBelow_41 (by decide) ?_
      exact hG _ (Option.some.inj h).symm _ _ _ hP hD hS (lv_sub hl [1, 2, 3, 0] rfl)

set_option maxRecDepth 100000 in
set_option maxHeartbeats 4000000 in
theorem k_T_raiseAllBelow (l : Launch) (z : zE) (A : Nat → Nat) (Rr : va_W) (n : Nat) (S : ZC) (a1 : Int32) (a2 : Int32) (S' : ZC) (h : fx_T_raiseAllBelow n S a1 a2 = some S') : zC z l y_T_raiseAllBelow w_T_raiseAllBelow rm_T_raiseAllBelow [.ref (A 1), .int a1, .int a2] (cw z A S ++ Rr) none (cw z A S' ++ Rr) := by
  refine zz_of (by decide) (Nat.le_of_ble_eq_true rfl) ?_
  intro p e s m args below meth c A0 ls hM hr hlocks hA hP hD hl
  have hM : zM z p s m args c b_T_raiseAllBelow 4 R_T := hM
  obtain ⟨hx, hb, hml, hown, hts, hK, hN⟩ := id hM
  have hS : va_S A0 s.heap s.heap [] := va_S.rf
  have hl : lv_has ls 4 [(0, .ref (A 1)), (1, .int a1), (2, .int a2)] := hl
  unfold fx_T_raiseAllBelow at h
  refine lv_bipush (v := 8) hx hb d_T_raiseAllBelow_0 (by decide) ?_
  refine lv_istore_n (lv' := [(3, .int (8 : Int32)), (0, .ref (A 1)), (1, .int a1), (2, .int a2)]) hx hb d_T_raiseAllBelow_2 rfl hl (by decide) rfl (fun ls hl => ?_)
  replace h := zz_bL2 h
  obtain ⟨x_8, v3_8, S_8, e_8, h⟩ := h
  refine lp_T_raiseAllBelow_L3 hM hA n a1 a2 _ _ _ e_8 ?_ _ _ _ hP hD hS (lv_sub hl [1, 2, 3, 0] rfl)
  intro H locs ls hP hD hS hl
  have hl : lv_has ls 4 [(0, .ref (A 1)), (1, .int a1), (2, .int a2), (3, .int v3_8)] := hl
  have hP : va_P z.1 vwCl (cw z A S_8 ++ Rr) H := hP
  have hD : va_D A0 (cw z A S_8 ++ Rr) := hD
  replace h := zz_grd h
  obtain ⟨c_8, h⟩ := h
  subst c_8
  refine W.eq (g2 := F0 m 44 ls []) rfl ?_
  exact zz_vret (fun S => cw z A S ++ Rr) hx hb hr hlocks hP hD hS h d_T_raiseAllBelow_44

abbrev b_T_addFaceAbove : ByteArray := prog_5_method_10_code
abbrev y_T_addFaceAbove : MethodName := ⟨"MemberChooser$Types", "addFaceAbove", "(II)Z"⟩
abbrev w_T_addFaceAbove : List Cond := Cond.code y_T_addFaceAbove b_T_addFaceAbove 4 (some .boolean) :: zTb
theorem d_T_addFaceAbove_0 : decode b_T_addFaceAbove 0 = .ok (.aload_n 0, 1) := by decide +kernel
theorem d_T_addFaceAbove_1 : decode b_T_addFaceAbove 1 = .ok (.iload_n 1, 1) := by decide +kernel
theorem d_T_addFaceAbove_2 : decode b_T_addFaceAbove 2 = .ok (.invokevirtual 45, 3) := by decide +kernel
theorem d_T_addFaceAbove_5 : decode b_T_addFaceAbove 5 = .ok (.ifCond .eq 11, 3) := by decide +kernel
theorem d_T_addFaceAbove_8 : decode b_T_addFaceAbove 8 = .ok (.aload_n 0, 1) := by decide +kernel
theorem d_T_addFaceAbove_9 : decode b_T_addFaceAbove 9 = .ok (.iload_n 2, 1) := by decide +kernel
theorem d_T_addFaceAbove_10 : decode b_T_addFaceAbove 10 = .ok (.invokevirtual 48, 3) := by decide +kernel
theorem d_T_addFaceAbove_13 : decode b_T_addFaceAbove 13 = .ok (.ifCond .ne 5, 3) := by decide +kernel
theorem d_T_addFaceAbove_16 : decode b_T_addFaceAbove 16 = .ok (.iconst 0, 1) := by decide +kernel
theorem d_T_addFaceAbove_17 : decode b_T_addFaceAbove 17 = .ok (.ireturn, 1) := by decide +kernel
theorem d_T_addFaceAbove_18 : decode b_T_addFaceAbove 18 = .ok (.aload_n 0, 1) := by decide +kernel
theorem d_T_addFaceAbove_19 : decode b_T_addFaceAbove 19 = .ok (.iload_n 2, 1) := by decide +kernel
theorem d_T_addFaceAbove_20 : decode b_T_addFaceAbove 20 = .ok (.iload_n 1, 1) := by decide +kernel
theorem d_T_addFaceAbove_21 : decode b_T_addFaceAbove 21 = .ok (.invokevirtual 51, 3) := by decide +kernel
theorem d_T_addFaceAbove_24 : decode b_T_addFaceAbove 24 = .ok (.ifCond .ne 12, 3) := by decide +kernel
theorem d_T_addFaceAbove_27 : decode b_T_addFaceAbove 27 = .ok (.aload_n 0, 1) := by decide +kernel
theorem d_T_addFaceAbove_28 : decode b_T_addFaceAbove 28 = .ok (.iload_n 1, 1) := by decide +kernel
theorem d_T_addFaceAbove_29 : decode b_T_addFaceAbove 29 = .ok (.iload_n 2, 1) := by decide +kernel
theorem d_T_addFaceAbove_30 : decode b_T_addFaceAbove 30 = .ok (.invokevirtual 55, 3) := by decide +kernel
theorem d_T_addFaceAbove_33 : decode b_T_addFaceAbove 33 = .ok (.ifCond .eq 5, 3) := by decide +kernel
theorem d_T_addFaceAbove_36 : decode b_T_addFaceAbove 36 = .ok (.iconst 0, 1) := by decide +kernel
theorem d_T_addFaceAbove_37 : decode b_T_addFaceAbove 37 = .ok (.ireturn, 1) := by decide +kernel
theorem d_T_addFaceAbove_38 : decode b_T_addFaceAbove 38 = .ok (.aload_n 0, 1) := by decide +kernel
theorem d_T_addFaceAbove_39 : decode b_T_addFaceAbove 39 = .ok (.getfield 19, 3) := by decide +kernel
theorem d_T_addFaceAbove_42 : decode b_T_addFaceAbove 42 = .ok (.iload_n 1, 1) := by decide +kernel
theorem d_T_addFaceAbove_43 : decode b_T_addFaceAbove 43 = .ok (.iaload, 1) := by decide +kernel
theorem d_T_addFaceAbove_44 : decode b_T_addFaceAbove 44 = .ok (.istore_n 3, 1) := by decide +kernel
theorem d_T_addFaceAbove_45 : decode b_T_addFaceAbove 45 = .ok (.iload_n 3, 1) := by decide +kernel
theorem d_T_addFaceAbove_46 : decode b_T_addFaceAbove 46 = .ok (.bipush 24, 2) := by decide +kernel
theorem d_T_addFaceAbove_48 : decode b_T_addFaceAbove 48 = .ok (.if_icmp .lt 5, 3) := by decide +kernel
theorem d_T_addFaceAbove_51 : decode b_T_addFaceAbove 51 = .ok (.iconst 0, 1) := by decide +kernel
theorem d_T_addFaceAbove_52 : decode b_T_addFaceAbove 52 = .ok (.ireturn, 1) := by decide +kernel
theorem d_T_addFaceAbove_53 : decode b_T_addFaceAbove 53 = .ok (.aload_n 0, 1) := by decide +kernel
theorem d_T_addFaceAbove_54 : decode b_T_addFaceAbove 54 = .ok (.getfield 24, 3) := by decide +kernel
theorem d_T_addFaceAbove_57 : decode b_T_addFaceAbove 57 = .ok (.iload_n 1, 1) := by decide +kernel
theorem d_T_addFaceAbove_58 : decode b_T_addFaceAbove 58 = .ok (.aaload, 1) := by decide +kernel
theorem d_T_addFaceAbove_59 : decode b_T_addFaceAbove 59 = .ok (.iload_n 3, 1) := by decide +kernel
theorem d_T_addFaceAbove_60 : decode b_T_addFaceAbove 60 = .ok (.iload_n 2, 1) := by decide +kernel
theorem d_T_addFaceAbove_61 : decode b_T_addFaceAbove 61 = .ok (.iastore, 1) := by decide +kernel
theorem d_T_addFaceAbove_62 : decode b_T_addFaceAbove 62 = .ok (.aload_n 0, 1) := by decide +kernel
theorem d_T_addFaceAbove_63 : decode b_T_addFaceAbove 63 = .ok (.getfield 19, 3) := by decide +kernel
theorem d_T_addFaceAbove_66 : decode b_T_addFaceAbove 66 = .ok (.iload_n 1, 1) := by decide +kernel
theorem d_T_addFaceAbove_67 : decode b_T_addFaceAbove 67 = .ok (.iload_n 3, 1) := by decide +kernel
theorem d_T_addFaceAbove_68 : decode b_T_addFaceAbove 68 = .ok (.iconst 1, 1) := by decide +kernel
theorem d_T_addFaceAbove_69 : decode b_T_addFaceAbove 69 = .ok (.iadd, 1) := by decide +kernel
theorem d_T_addFaceAbove_70 : decode b_T_addFaceAbove 70 = .ok (.iastore, 1) := by decide +kernel
theorem d_T_addFaceAbove_71 : decode b_T_addFaceAbove 71 = .ok (.aload_n 0, 1) := by decide +kernel
theorem d_T_addFaceAbove_72 : decode b_T_addFaceAbove 72 = .ok (.iload_n 1, 1) := by decide +kernel
theorem d_T_addFaceAbove_73 : decode b_T_addFaceAbove 73 = .ok (.iload_n 2, 1) := by decide +kernel
theorem d_T_addFaceAbove_74 : decode b_T_addFaceAbove 74 = .ok (.invokevirtual 58, 3) := by decide +kernel
theorem d_T_addFaceAbove_77 : decode b_T_addFaceAbove 77 = .ok (.iconst 1, 1) := by decide +kernel
theorem d_T_addFaceAbove_78 : decode b_T_addFaceAbove 78 = .ok (.ireturn, 1) := by decide +kernel
abbrev rm_T_addFaceAbove : Room := { frames := 3, cells := 0, slots := 0, locals := 66 }
def fx_T_addFaceAbove (n : Nat) (S : ZC) (a1 : Int32) (a2 : Int32) : Option (Int32 × ZC) :=
  zbind (fx_T_isTold n S a1) (fun r_1 S_1 =>
  (if r_1 = 0 then
  some ((0 : Int32), S_1)
  else
  zbind (fx_T_isToldFace n S_1 a2) (fun r_3 S_3 =>
    (if r_3 = 0 then
    some ((0 : Int32), S_3)
    else
    zbind (fx_T_isSubtype n S_3 a2 a1) (fun r_5 S_5 =>
      (if r_5 = 0 then
      zbind (fx_T_hasFace n S_5 a1 a2) (fun r_7 S_7 =>
        (if r_7 = 0 then
        (if zoob a1 32 then none else
          (if ((tFc S_7) a1.toNatClampNeg) < (24 : Int32) then
          (if zoob a1 32 then none else
            (if zoob ((tFc S_7) a1.toNatClampNeg) 24 then none else
            zlet (tGr' S_7 (va_up (tGr S_7) (a1.toNatClampNeg) (upd (tGr S_7 (a1.toNatClampNeg)) ((tFc S_7) a1.toNatClampNeg).toNatClampNeg a2))) (fun S_13 =>
            (if zoob a1 32 then none else
            zlet (tFc' S_13 (upd (tFc S_13) a1.toNatClampNeg (((tFc S_7) a1.toNatClampNeg) + (1 : Int32)))) (fun S_15 =>
            zbind1 (fx_T_raiseAllBelow n S_15 a1 a2) (fun S_16 =>
            some ((1 : Int32), S_16)))))))
          else
          some ((0 : Int32), S_7)))
        else
        some ((0 : Int32), S_7)))
      else
      some ((0 : Int32), S_5)))))))

set_option maxRecDepth 100000 in
set_option maxHeartbeats 4000000 in
theorem k_T_addFaceAbove (l : Launch) (z : zE) (A : Nat → Nat) (Rr : va_W) (n : Nat) (S : ZC) (a1 : Int32) (a2 : Int32) (r0 : Int32) (S' : ZC) (h : fx_T_addFaceAbove n S a1 a2 = some (r0, S')) : zC z l y_T_addFaceAbove w_T_addFaceAbove rm_T_addFaceAbove [.ref (A 1), .int a1, .int a2] (cw z A S ++ Rr) (some (.int r0)) (cw z A S' ++ Rr) := by
  refine zz_of (by decide) (Nat.le_of_ble_eq_true rfl) ?_
  intro p e s m args below meth c A0 ls hM hr hlocks hA hP hD hl
  have hM : zM z p s m args c b_T_addFaceAbove 4 R_T := hM
  obtain ⟨hx, hb, hml, hown, hts, hK, hN⟩ := id hM
  have hS : va_S A0 s.heap s.heap [] := va_S.rf
  have hl : lv_has ls 4 [(0, .ref (A 1)), (1, .int a1), (2, .int a2)] := hl
  unfold fx_T_addFaceAbove at h
  refine lv_aload_n hx hb d_T_addFaceAbove_0 rfl (lv_at hl 0 rfl) ?_
  refine lv_iload_n hx hb d_T_addFaceAbove_1 rfl (lv_at hl 1 rfl) ?_
  obtain ⟨r_1, S_1, e_1, h⟩ := zz_bind h
  refine zz_goI (zz_runV (As := [.int a1]) (rest := []) (k_T_isTold l z A Rr n _ _ _ _ e_1) ⟨hx, hb, hml, hown, hts⟩ (cwV 1 hts (zz_gV wq_176 wq_177 wq_178 wq_2 wq_179) rfl rfl rfl (by decide +kernel) ⟨Nat.le_of_ble_eq_true rfl, Nat.le_of_ble_eq_true rfl⟩) hK hN hP hD (va_recv hK hP (ci := 1) (q0 := 1) rfl rfl) rfl hl.1 rfl (Nat.le_of_ble_eq_true rfl) d_T_addFaceAbove_2 ⟨Nat.le_of_ble_eq_true rfl, Nat.le_of_ble_eq_true rfl⟩) hD hS hA (fun H locs hP hD hS => ?_)
  refine lv_if_eq (tgt := 16) hx hb d_T_addFaceAbove_5 (by decide) (fun c_2 => ?_) (fun c_2 => ?_)
  · replace h := zz_t c_2 h
    refine lv_iconst (v := 0) hx hb d_T_addFaceAbove_16 (by decide) ?_
    exact zz_zret (fun S => cw z A S ++ Rr) hx hb hr hlocks hP hD hS rfl h d_T_addFaceAbove_17
  · replace h := zz_f c_2 h
    refine lv_aload_n hx hb d_T_addFaceAbove_8 rfl (lv_at hl 0 rfl) ?_
    refine lv_iload_n hx hb d_T_addFaceAbove_9 rfl (lv_at hl 2 rfl) ?_
    obtain ⟨r_3, S_3, e_3, h⟩ := zz_bind h
    refine zz_goI (zz_runV (As := [.int a2]) (rest := []) (k_T_isToldFace l z A Rr n _ _ _ _ e_3) ⟨hx, hb, hml, hown, hts⟩ (cwV 1 hts (zz_gV wq_184 wq_185 wq_186 wq_2 wq_187) rfl rfl rfl (by decide +kernel) ⟨Nat.le_of_ble_eq_true rfl, Nat.le_of_ble_eq_true rfl⟩) hK hN hP hD (va_recv hK hP (ci := 1) (q0 := 1) rfl rfl) rfl hl.1 rfl (Nat.le_of_ble_eq_true rfl) d_T_addFaceAbove_10 ⟨Nat.le_of_ble_eq_true rfl, Nat.le_of_ble_eq_true rfl⟩) hD hS hA (fun H locs hP hD hS => ?_)
    refine lv_if_ne (tgt := 18) hx hb d_T_addFaceAbove_13 (by decide) (fun c_4 => ?_) (fun c_4 => ?_)
    · replace h := zz_f c_4 h
      refine lv_aload_n hx hb d_T_addFaceAbove_18 rfl (lv_at hl 0 rfl) ?_
      refine lv_iload_n hx hb d_T_addFaceAbove_19 rfl (lv_at hl 2 rfl) ?_
      refine lv_iload_n hx hb d_T_addFaceAbove_20 rfl (lv_at hl 1 rfl) ?_
      obtain ⟨r_5, S_5, e_5, h⟩ := zz_bind h
      refine zz_goI (zz_runV (As := [.int a2, .int a1]) (rest := []) (k_T_isSubtype l z A Rr n _ _ _ _ _ e_5) ⟨hx, hb, hml, hown, hts⟩ (cwV 2 hts (zz_gV wq_188 wq_189 wq_190 wq_2 wq_191) rfl rfl rfl (by decide +kernel) ⟨Nat.le_of_ble_eq_true rfl, Nat.le_of_ble_eq_true rfl⟩) hK hN hP hD (va_recv hK hP (ci := 1) (q0 := 1) rfl rfl) rfl hl.1 rfl (Nat.le_of_ble_eq_true rfl) d_T_addFaceAbove_21 ⟨Nat.le_of_ble_eq_true rfl, Nat.le_of_ble_eq_true rfl⟩) hD hS hA (fun H locs hP hD hS => ?_)
      refine lv_if_ne (tgt := 36) hx hb d_T_addFaceAbove_24 (by decide) (fun c_6 => ?_) (fun c_6 => ?_)
      · replace h := zz_f c_6 h
        refine lv_iconst (v := 0) hx hb d_T_addFaceAbove_36 (by decide) ?_
        exact zz_zret (fun S => cw z A S ++ Rr) hx hb hr hlocks hP hD hS rfl h d_T_addFaceAbove_37
      · replace h := zz_t c_6 h
        refine lv_aload_n hx hb d_T_addFaceAbove_27 rfl (lv_at hl 0 rfl) ?_
        refine lv_iload_n hx hb d_T_addFaceAbove_28 rfl (lv_at hl 1 rfl) ?_
        refine lv_iload_n hx hb d_T_addFaceAbove_29 rfl (lv_at hl 2 rfl) ?_
        obtain ⟨r_7, S_7, e_7, h⟩ := zz_bind h
        refine zz_goI (zz_runV (As := [.int a1, .int a2]) (rest := []) (k_T_hasFace l z A Rr n _ _ _ _ _ e_7) ⟨hx, hb, hml, hown, hts⟩ (cwV 2 hts (zz_gV wq_192 wq_194 wp_0 wq_2 wq_195) rfl rfl rfl (by decide +kernel) ⟨Nat.le_of_ble_eq_true rfl, Nat.le_of_ble_eq_true rfl⟩) hK hN hP hD (va_recv hK hP (ci := 1) (q0 := 1) rfl rfl) rfl hl.1 rfl (Nat.le_of_ble_eq_true rfl) d_T_addFaceAbove_30 ⟨Nat.le_of_ble_eq_true rfl, Nat.le_of_ble_eq_true rfl⟩) hD hS hA (fun H locs hP hD hS => ?_)
        refine lv_if_eq (tgt := 38) hx hb d_T_addFaceAbove_33 (by decide) (fun c_8 => ?_) (fun c_8 => ?_)
        · replace h := zz_t c_8 h
          refine lv_aload_n hx hb d_T_addFaceAbove_38 rfl (lv_at hl 0 rfl) ?_
          refine va_get (D := z.1) (ci := 1) (v := .ref (A 7)) (C := R_T) (T := F_T) (N := 6) hx hb hts i_T hown hK hP 1 rfl rfl 2 (by decide) (hts _ wq_40) (fun _ h9 => h9) rfl d_T_addFaceAbove_39 ?_
          refine lv_iload_n hx hb d_T_addFaceAbove_42 rfl (lv_at hl 1 rfl) ?_
          obtain ⟨c_9, h⟩ := zz_oob h
          refine va_iald hx hb hK hP 7 0 rfl rfl c_9 d_T_addFaceAbove_43 ?_
          refine lv_istore_n (lv' := [(3, .int ((tFc S_7) a1.toNatClampNeg)), (0, .ref (A 1)), (1, .int a1), (2, .int a2)]) hx hb d_T_addFaceAbove_44 rfl hl (by decide) rfl (fun ls hl => ?_)
          refine lv_iload_n hx hb d_T_addFaceAbove_45 rfl (lv_at hl 0 rfl) ?_
          refine lv_bipush (v := 24) hx hb d_T_addFaceAbove_46 (by decide) ?_
          refine lv_icmp_lt (tgt := 53) hx hb d_T_addFaceAbove_48 (by decide) (fun c_10 => ?_) (fun c_10 => ?_)
          · replace h := zz_t c_10 h
            refine lv_aload_n hx hb d_T_addFaceAbove_53 rfl (lv_at hl 1 rfl) ?_
            refine va_get (D := z.1) (ci := 1) (v := .ref (A 8)) (C := R_T) (T := F_T) (N := 6) hx hb hts i_T hown hK hP 1 rfl rfl 3 (by decide) (hts _ wq_41) (fun _ h9 => h9) rfl d_T_addFaceAbove_54 ?_
            refine lv_iload_n hx hb d_T_addFaceAbove_57 rfl (lv_at hl 2 rfl) ?_
            obtain ⟨c_11, h⟩ := zz_oob h
            refine zz_aald hx hb hK hP 8 3 rfl rfl c_11 d_T_addFaceAbove_58 ?_
            have c_11 := zz_lt c_11
            refine lv_iload_n hx hb d_T_addFaceAbove_59 rfl (lv_at hl 0 rfl) ?_
            refine lv_iload_n hx hb d_T_addFaceAbove_60 rfl (lv_at hl 3 rfl) ?_
            obtain ⟨c_12, h⟩ := zz_oob h
            obtain ⟨S_13, e_13, h⟩ := zz_let h
            refine va_iast hx hb hK hP hD hS (23 + a1.toNatClampNeg) 0 (cw_row c_11) rfl c_12 d_T_addFaceAbove_61 (fun H locs hP hD hS => ?_)
            have hP : va_P z.1 vwCl (cw z A S_13 ++ Rr) H := by rw [e_13]; exact (by rw [← cw_srow c_11]; exact hP)
            have hD : va_D A0 (cw z A S_13 ++ Rr) := by rw [e_13]; exact (by rw [← cw_srow c_11]; exact hD)
            refine lv_aload_n hx hb d_T_addFaceAbove_62 rfl (lv_at hl 1 rfl) ?_
            refine va_get (D := z.1) (ci := 1) (v := .ref (A 7)) (C := R_T) (T := F_T) (N := 6) hx hb hts i_T hown hK hP 1 rfl rfl 2 (by decide) (hts _ wq_40) (fun _ h9 => h9) rfl d_T_addFaceAbove_63 ?_
            refine lv_iload_n hx hb d_T_addFaceAbove_66 rfl (lv_at hl 2 rfl) ?_
            refine lv_iload_n hx hb d_T_addFaceAbove_67 rfl (lv_at hl 0 rfl) ?_
            refine lv_iconst (v := 1) hx hb d_T_addFaceAbove_68 (by decide) ?_
            refine lv_iadd hx hb d_T_addFaceAbove_69 ?_
            obtain ⟨c_14, h⟩ := zz_oob h
            obtain ⟨S_15, e_15, h⟩ := zz_let h
            refine va_iast hx hb hK hP hD hS 7 0 rfl rfl c_14 d_T_addFaceAbove_70 (fun H locs hP hD hS => ?_)
            have hP : va_P z.1 vwCl (cw z A S_15 ++ Rr) H := by rw [e_15]; exact hP
            have hD : va_D A0 (cw z A S_15 ++ Rr) := by rw [e_15]; exact hD
            refine lv_aload_n hx hb d_T_addFaceAbove_71 rfl (lv_at hl 1 rfl) ?_
            refine lv_iload_n hx hb d_T_addFaceAbove_72 rfl (lv_at hl 2 rfl) ?_
            refine lv_iload_n hx hb d_T_addFaceAbove_73 rfl (lv_at hl 3 rfl) ?_
            obtain ⟨S_16, e_16, h⟩ := zz_bind1 h
            refine zz_goV (zz_runV (As := [.int a1, .int a2]) (rest := []) (k_T_raiseAllBelow l z A Rr n _ _ _ _ e_16) ⟨hx, hb, hml, hown, hts⟩ (cwV 2 hts (zz_gV wq_199 wq_201 wp_1 wq_2 wq_202) rfl rfl rfl (by decide +kernel) ⟨Nat.le_of_ble_eq_true rfl, Nat.le_of_ble_eq_true rfl⟩) hK hN hP hD (va_recv hK hP (ci := 1) (q0 := 1) rfl rfl) rfl hl.1 rfl (Nat.le_of_ble_eq_true rfl) d_T_addFaceAbove_74 ⟨Nat.le_of_ble_eq_true rfl, Nat.le_of_ble_eq_true rfl⟩) hD hS hA (fun H locs hP hD hS => ?_)
            refine lv_iconst (v := 1) hx hb d_T_addFaceAbove_77 (by decide) ?_
            exact zz_zret (fun S => cw z A S ++ Rr) hx hb hr hlocks hP hD hS rfl h d_T_addFaceAbove_78
          · replace h := zz_f c_10 h
            refine lv_iconst (v := 0) hx hb d_T_addFaceAbove_51 (by decide) ?_
            exact zz_zret (fun S => cw z A S ++ Rr) hx hb hr hlocks hP hD hS rfl h d_T_addFaceAbove_52
        · replace h := zz_f c_8 h
          refine lv_iconst (v := 0) hx hb d_T_addFaceAbove_36 (by decide) ?_
          exact zz_zret (fun S => cw z A S ++ Rr) hx hb hr hlocks hP hD hS rfl h d_T_addFaceAbove_37
    · replace h := zz_t c_4 h
      refine lv_iconst (v := 0) hx hb d_T_addFaceAbove_16 (by decide) ?_
      exact zz_zret (fun S => cw z A S ++ Rr) hx hb hr hlocks hP hD hS rfl h d_T_addFaceAbove_17

abbrev b_T_tell : ByteArray := prog_5_method_11_code
abbrev y_T_tell : MethodName := ⟨"MemberChooser$Types", "tell", "(II)I"⟩
abbrev w_T_tell : List Cond := Cond.code y_T_tell b_T_tell 3 (some .int) :: zTb
theorem d_T_tell_0 : decode b_T_tell 0 = .ok (.aload_n 0, 1) := by decide +kernel
theorem d_T_tell_1 : decode b_T_tell 1 = .ok (.iload_n 1, 1) := by decide +kernel
theorem d_T_tell_2 : decode b_T_tell 2 = .ok (.invokevirtual 45, 3) := by decide +kernel
theorem d_T_tell_5 : decode b_T_tell 5 = .ok (.ifCond .ne 5, 3) := by decide +kernel
theorem d_T_tell_8 : decode b_T_tell 8 = .ok (.iconst (-1), 1) := by decide +kernel
theorem d_T_tell_9 : decode b_T_tell 9 = .ok (.ireturn, 1) := by decide +kernel
theorem d_T_tell_10 : decode b_T_tell 10 = .ok (.iload_n 2, 1) := by decide +kernel
theorem d_T_tell_11 : decode b_T_tell 11 = .ok (.tableswitch 68 0 3 #[29, 44, 51, 58], 29) := by decide +kernel
theorem d_T_tell_40 : decode b_T_tell 40 = .ok (.aload_n 0, 1) := by decide +kernel
theorem d_T_tell_41 : decode b_T_tell 41 = .ok (.getfield 11, 3) := by decide +kernel
theorem d_T_tell_44 : decode b_T_tell 44 = .ok (.iload_n 1, 1) := by decide +kernel
theorem d_T_tell_45 : decode b_T_tell 45 = .ok (.baload, 1) := by decide +kernel
theorem d_T_tell_46 : decode b_T_tell 46 = .ok (.ifCond .eq 7, 3) := by decide +kernel
theorem d_T_tell_49 : decode b_T_tell 49 = .ok (.iconst 1, 1) := by decide +kernel
theorem d_T_tell_50 : decode b_T_tell 50 = .ok (.goto 4, 3) := by decide +kernel
theorem d_T_tell_53 : decode b_T_tell 53 = .ok (.iconst 0, 1) := by decide +kernel
theorem d_T_tell_54 : decode b_T_tell 54 = .ok (.ireturn, 1) := by decide +kernel
theorem d_T_tell_55 : decode b_T_tell 55 = .ok (.aload_n 0, 1) := by decide +kernel
theorem d_T_tell_56 : decode b_T_tell 56 = .ok (.getfield 15, 3) := by decide +kernel
theorem d_T_tell_59 : decode b_T_tell 59 = .ok (.iload_n 1, 1) := by decide +kernel
theorem d_T_tell_60 : decode b_T_tell 60 = .ok (.iaload, 1) := by decide +kernel
theorem d_T_tell_61 : decode b_T_tell 61 = .ok (.ireturn, 1) := by decide +kernel
theorem d_T_tell_62 : decode b_T_tell 62 = .ok (.aload_n 0, 1) := by decide +kernel
theorem d_T_tell_63 : decode b_T_tell 63 = .ok (.getfield 19, 3) := by decide +kernel
theorem d_T_tell_66 : decode b_T_tell 66 = .ok (.iload_n 1, 1) := by decide +kernel
theorem d_T_tell_67 : decode b_T_tell 67 = .ok (.iaload, 1) := by decide +kernel
theorem d_T_tell_68 : decode b_T_tell 68 = .ok (.ireturn, 1) := by decide +kernel
theorem d_T_tell_69 : decode b_T_tell 69 = .ok (.aload_n 0, 1) := by decide +kernel
theorem d_T_tell_70 : decode b_T_tell 70 = .ok (.getfield 27, 3) := by decide +kernel
theorem d_T_tell_73 : decode b_T_tell 73 = .ok (.iload_n 1, 1) := by decide +kernel
theorem d_T_tell_74 : decode b_T_tell 74 = .ok (.iaload, 1) := by decide +kernel
theorem d_T_tell_75 : decode b_T_tell 75 = .ok (.invokestatic 62, 3) := by decide +kernel
theorem d_T_tell_78 : decode b_T_tell 78 = .ok (.ireturn, 1) := by decide +kernel
theorem d_T_tell_79 : decode b_T_tell 79 = .ok (.iconst (-1), 1) := by decide +kernel
theorem d_T_tell_80 : decode b_T_tell 80 = .ok (.ireturn, 1) := by decide +kernel
abbrev rm_T_tell : Room := { frames := 2, cells := 0, slots := 0, locals := 42 }
def fx_T_tell (n : Nat) (S : ZC) (a1 : Int32) (a2 : Int32) : Option (Int32 × ZC) :=
  zbind (fx_T_isTold n S a1) (fun r_1 S_1 =>
  (if r_1 = 0 then
  some ((-1 : Int32), S_1)
  else
  (if a2 = (0 : Int32) then
    (if zoob a1 32 then none else
      (if ((tFm S_1) a1.toNatClampNeg) = 0 then
      some ((0 : Int32), S_1)
      else
      some ((1 : Int32), S_1)))
    else (if a2 = (1 : Int32) then
    (if zoob a1 32 then none else
      some (((tCa S_1) a1.toNatClampNeg), S_1))
    else (if a2 = (2 : Int32) then
    (if zoob a1 32 then none else
      some (((tFc S_1) a1.toNatClampNeg), S_1))
    else (if a2 = (3 : Int32) then
    (if zoob a1 32 then none else
      zbind1 (fx_I_bitCount n ((tUp S_1) a1.toNatClampNeg)) (fun r_12 =>
      some (r_12, S_1)))
    else some ((-1 : Int32), S_1)))))))

set_option maxRecDepth 100000 in
set_option maxHeartbeats 4000000 in
theorem k_T_tell (l : Launch) (z : zE) (A : Nat → Nat) (Rr : va_W) (n : Nat) (S : ZC) (a1 : Int32) (a2 : Int32) (r0 : Int32) (S' : ZC) (h : fx_T_tell n S a1 a2 = some (r0, S')) : zC z l y_T_tell w_T_tell rm_T_tell [.ref (A 1), .int a1, .int a2] (cw z A S ++ Rr) (some (.int r0)) (cw z A S' ++ Rr) := by
  refine zz_of (by decide) (Nat.le_of_ble_eq_true rfl) ?_
  intro p e s m args below meth c A0 ls hM hr hlocks hA hP hD hl
  have hM : zM z p s m args c b_T_tell 3 R_T := hM
  obtain ⟨hx, hb, hml, hown, hts, hK, hN⟩ := id hM
  have hS : va_S A0 s.heap s.heap [] := va_S.rf
  have hl : lv_has ls 3 [(0, .ref (A 1)), (1, .int a1), (2, .int a2)] := hl
  unfold fx_T_tell at h
  refine lv_aload_n hx hb d_T_tell_0 rfl (lv_at hl 0 rfl) ?_
  refine lv_iload_n hx hb d_T_tell_1 rfl (lv_at hl 1 rfl) ?_
  obtain ⟨r_1, S_1, e_1, h⟩ := zz_bind h
  refine zz_goI (zz_runV (As := [.int a1]) (rest := []) (k_T_isTold l z A Rr n _ _ _ _ e_1) ⟨hx, hb, hml, hown, hts⟩ (cwV 1 hts (zz_gV wq_176 wq_177 wq_178 wq_2 wq_179) rfl rfl rfl (by decide +kernel) ⟨Nat.le_of_ble_eq_true rfl, Nat.le_of_ble_eq_true rfl⟩) hK hN hP hD (va_recv hK hP (ci := 1) (q0 := 1) rfl rfl) rfl hl.1 rfl (Nat.le_of_ble_eq_true rfl) d_T_tell_2 ⟨Nat.le_of_ble_eq_true rfl, Nat.le_of_ble_eq_true rfl⟩) hD hS hA (fun H locs hP hD hS => ?_)
  refine lv_if_ne (tgt := 10) hx hb d_T_tell_5 (by decide) (fun c_2 => ?_) (fun c_2 => ?_)
  · replace h := zz_f c_2 h
    refine lv_iload_n hx hb d_T_tell_10 rfl (lv_at hl 2 rfl) ?_
    by_cases c_3 : a2 = (0 : Int32)
    · replace h := zz_t c_3 h
      refine lv_tableIn (tgt := 40) hx hb d_T_tell_11 (by rw [c_3]; decide) (by rw [c_3]; decide) (by rw [c_3]; rfl) (by decide) ?_
      refine lv_aload_n hx hb d_T_tell_40 rfl (lv_at hl 0 rfl) ?_
      refine va_get (D := z.1) (ci := 1) (v := .ref (A 5)) (C := R_T) (T := F_T) (N := 6) hx hb hts i_T hown hK hP 1 rfl rfl 0 (by decide) (hts _ wq_38) (fun _ h9 => h9) rfl d_T_tell_41 ?_
      refine lv_iload_n hx hb d_T_tell_44 rfl (lv_at hl 1 rfl) ?_
      obtain ⟨c_4, h⟩ := zz_oob h
      refine va_zald hx hb hK hP 5 1 rfl rfl c_4 d_T_tell_45 ?_
      refine lv_if_eq (tgt := 53) hx hb d_T_tell_46 (by decide) (fun c_5 => ?_) (fun c_5 => ?_)
      · replace h := zz_t c_5 h
        refine lv_iconst (v := 0) hx hb d_T_tell_53 (by decide) ?_
        exact zz_iret (fun S => cw z A S ++ Rr) hx hb hr hlocks hP hD hS h d_T_tell_54
      · replace h := zz_f c_5 h
        refine lv_iconst (v := 1) hx hb d_T_tell_49 (by decide) ?_
        refine lv_goto (tgt := 54) hx hb d_T_tell_50 (by decide) ?_
        exact zz_iret (fun S => cw z A S ++ Rr) hx hb hr hlocks hP hD hS h d_T_tell_54
    replace h := zz_f c_3 h
    by_cases c_6 : a2 = (1 : Int32)
    · replace h := zz_t c_6 h
      refine lv_tableIn (tgt := 55) hx hb d_T_tell_11 (by rw [c_6]; decide) (by rw [c_6]; decide) (by rw [c_6]; rfl) (by decide) ?_
      refine lv_aload_n hx hb d_T_tell_55 rfl (lv_at hl 0 rfl) ?_
      refine va_get (D := z.1) (ci := 1) (v := .ref (A 6)) (C := R_T) (T := F_T) (N := 6) hx hb hts i_T hown hK hP 1 rfl rfl 1 (by decide) (hts _ wq_39) (fun _ h9 => h9) rfl d_T_tell_56 ?_
      refine lv_iload_n hx hb d_T_tell_59 rfl (lv_at hl 1 rfl) ?_
      obtain ⟨c_7, h⟩ := zz_oob h
      refine va_iald hx hb hK hP 6 0 rfl rfl c_7 d_T_tell_60 ?_
      exact zz_iret (fun S => cw z A S ++ Rr) hx hb hr hlocks hP hD hS h d_T_tell_61
    replace h := zz_f c_6 h
    by_cases c_8 : a2 = (2 : Int32)
    · replace h := zz_t c_8 h
      refine lv_tableIn (tgt := 62) hx hb d_T_tell_11 (by rw [c_8]; decide) (by rw [c_8]; decide) (by rw [c_8]; rfl) (by decide) ?_
      refine lv_aload_n hx hb d_T_tell_62 rfl (lv_at hl 0 rfl) ?_
      refine va_get (D := z.1) (ci := 1) (v := .ref (A 7)) (C := R_T) (T := F_T) (N := 6) hx hb hts i_T hown hK hP 1 rfl rfl 2 (by decide) (hts _ wq_40) (fun _ h9 => h9) rfl d_T_tell_63 ?_
      refine lv_iload_n hx hb d_T_tell_66 rfl (lv_at hl 1 rfl) ?_
      obtain ⟨c_9, h⟩ := zz_oob h
      refine va_iald hx hb hK hP 7 0 rfl rfl c_9 d_T_tell_67 ?_
      exact zz_iret (fun S => cw z A S ++ Rr) hx hb hr hlocks hP hD hS h d_T_tell_68
    replace h := zz_f c_8 h
    by_cases c_10 : a2 = (3 : Int32)
    · replace h := zz_t c_10 h
      refine lv_tableIn (tgt := 69) hx hb d_T_tell_11 (by rw [c_10]; decide) (by rw [c_10]; decide) (by rw [c_10]; rfl) (by decide) ?_
      refine lv_aload_n hx hb d_T_tell_69 rfl (lv_at hl 0 rfl) ?_
      refine va_get (D := z.1) (ci := 1) (v := .ref (A 9)) (C := R_T) (T := F_T) (N := 6) hx hb hts i_T hown hK hP 1 rfl rfl 4 (by decide) (hts _ wq_42) (fun _ h9 => h9) rfl d_T_tell_70 ?_
      refine lv_iload_n hx hb d_T_tell_73 rfl (lv_at hl 1 rfl) ?_
      obtain ⟨c_11, h⟩ := zz_oob h
      refine va_iald hx hb hK hP 9 0 rfl rfl c_11 d_T_tell_74 ?_
      obtain ⟨r_12, e_12, h⟩ := zz_bind1 h
      refine zz_goI (zz_runS (As := [.int ((tUp S_1) a1.toNatClampNeg)]) (rest := []) (k_I_bitCount l z _ n _ _ e_12) ⟨hx, hb, hml, hown, hts⟩ (va_cwS 1 hts (zz_gS wq_267 wq_268 wq_15 wq_269) rfl rfl rfl (by decide +kernel) ⟨Nat.le_of_ble_eq_true rfl, Nat.le_of_ble_eq_true rfl⟩) hK hN hP hD rfl hl.1 rfl (Nat.le_of_ble_eq_true rfl) d_T_tell_75 ⟨Nat.le_of_ble_eq_true rfl, Nat.le_of_ble_eq_true rfl⟩) hD hS hA (fun H locs hP hD hS => ?_)
      exact zz_iret (fun S => cw z A S ++ Rr) hx hb hr hlocks hP hD hS h d_T_tell_78
    replace h := zz_f c_10 h
    refine lv_tableOut (tgt := 79) hx hb d_T_tell_11 (by have qc_3 := zz_tne (a := 0) (by decide) c_3; have qc_6 := zz_tne (a := 1) (by decide) c_6; have qc_8 := zz_tne (a := 2) (by decide) c_8; have qc_10 := zz_tne (a := 3) (by decide) c_10; omega) (by decide) ?_
    refine lv_iconst (v := -1) hx hb d_T_tell_79 (by decide) ?_
    exact zz_iret (fun S => cw z A S ++ Rr) hx hb hr hlocks hP hD hS h d_T_tell_80
  · replace h := zz_t c_2 h
    refine lv_iconst (v := -1) hx hb d_T_tell_8 (by decide) ?_
    exact zz_iret (fun S => cw z A S ++ Rr) hx hb hr hlocks hP hD hS h d_T_tell_9

abbrev b_K_find : ByteArray := prog_3_method_2_code
abbrev y_K_find : MethodName := ⟨"MemberChooser$KeptCalls", "find", "(IIIJ)I"⟩
abbrev w_K_find : List Cond := Cond.code y_K_find b_K_find 7 (some .int) :: zTb
theorem d_K_find_0 : decode b_K_find 0 = .ok (.iconst 0, 1) := by decide +kernel
theorem d_K_find_1 : decode b_K_find 1 = .ok (.istore 6, 2) := by decide +kernel
theorem d_K_find_3 : decode b_K_find 3 = .ok (.iload 6, 2) := by decide +kernel
theorem d_K_find_5 : decode b_K_find 5 = .ok (.aload_n 0, 1) := by decide +kernel
theorem d_K_find_6 : decode b_K_find 6 = .ok (.getfield 28, 3) := by decide +kernel
theorem d_K_find_9 : decode b_K_find 9 = .ok (.if_icmp .ge 58, 3) := by decide +kernel
theorem d_K_find_12 : decode b_K_find 12 = .ok (.aload_n 0, 1) := by decide +kernel
theorem d_K_find_13 : decode b_K_find 13 = .ok (.getfield 11, 3) := by decide +kernel
theorem d_K_find_16 : decode b_K_find 16 = .ok (.iload 6, 2) := by decide +kernel
theorem d_K_find_18 : decode b_K_find 18 = .ok (.iaload, 1) := by decide +kernel
theorem d_K_find_19 : decode b_K_find 19 = .ok (.iload_n 1, 1) := by decide +kernel
theorem d_K_find_20 : decode b_K_find 20 = .ok (.if_icmp .ne 41, 3) := by decide +kernel
theorem d_K_find_23 : decode b_K_find 23 = .ok (.aload_n 0, 1) := by decide +kernel
theorem d_K_find_24 : decode b_K_find 24 = .ok (.getfield 15, 3) := by decide +kernel
theorem d_K_find_27 : decode b_K_find 27 = .ok (.iload 6, 2) := by decide +kernel
theorem d_K_find_29 : decode b_K_find 29 = .ok (.iaload, 1) := by decide +kernel
theorem d_K_find_30 : decode b_K_find 30 = .ok (.iload_n 2, 1) := by decide +kernel
theorem d_K_find_31 : decode b_K_find 31 = .ok (.if_icmp .ne 30, 3) := by decide +kernel
theorem d_K_find_34 : decode b_K_find 34 = .ok (.aload_n 0, 1) := by decide +kernel
theorem d_K_find_35 : decode b_K_find 35 = .ok (.getfield 18, 3) := by decide +kernel
theorem d_K_find_38 : decode b_K_find 38 = .ok (.iload 6, 2) := by decide +kernel
theorem d_K_find_40 : decode b_K_find 40 = .ok (.iaload, 1) := by decide +kernel
theorem d_K_find_41 : decode b_K_find 41 = .ok (.iload_n 3, 1) := by decide +kernel
theorem d_K_find_42 : decode b_K_find 42 = .ok (.if_icmp .ne 19, 3) := by decide +kernel
theorem d_K_find_45 : decode b_K_find 45 = .ok (.aload_n 0, 1) := by decide +kernel
theorem d_K_find_46 : decode b_K_find 46 = .ok (.getfield 21, 3) := by decide +kernel
theorem d_K_find_49 : decode b_K_find 49 = .ok (.iload 6, 2) := by decide +kernel
theorem d_K_find_51 : decode b_K_find 51 = .ok (.laload, 1) := by decide +kernel
theorem d_K_find_52 : decode b_K_find 52 = .ok (.lload 4, 2) := by decide +kernel
theorem d_K_find_54 : decode b_K_find 54 = .ok (.lcmp, 1) := by decide +kernel
theorem d_K_find_55 : decode b_K_find 55 = .ok (.ifCond .ne 6, 3) := by decide +kernel
theorem d_K_find_58 : decode b_K_find 58 = .ok (.iload 6, 2) := by decide +kernel
theorem d_K_find_60 : decode b_K_find 60 = .ok (.ireturn, 1) := by decide +kernel
theorem d_K_find_61 : decode b_K_find 61 = .ok (.iinc 6 1, 3) := by decide +kernel
theorem d_K_find_64 : decode b_K_find 64 = .ok (.goto (-61), 3) := by decide +kernel
theorem d_K_find_67 : decode b_K_find 67 = .ok (.iconst (-1), 1) := by decide +kernel
theorem d_K_find_68 : decode b_K_find 68 = .ok (.ireturn, 1) := by decide +kernel
abbrev rm_K_find : Room := { frames := 0, cells := 0, slots := 0, locals := 0 }
def st_K_find_L3 (n : Nat) (v1 : Int32) (v2 : Int32) (v3 : Int32) (v4 : Int64) (v6 : Int32) (S : ZC) : Option ((Int32 × ZC) ⊕ (Nat × Int32 × ZC)) :=
  (if (kHe S) ≤ v6 then
  some (.inr (67, v6, S))
  else
  (if zoob v6 100 then none else
    (if ((kTy S) v6.toNatClampNeg) = v1 then
    (if zoob v6 100 then none else
      (if ((kNa S) v6.toNatClampNeg) = v2 then
      (if zoob v6 100 then none else
        (if ((kSz S) v6.toNatClampNeg) = v3 then
        (if zoob v6 100 then none else
          (if (lg_cmp ((kCl S) v6.toNatClampNeg) v4) = 0 then
          some (.inr (58, v6, S))
          else
          some (.inl ((v6 + (1 : Int32)), S))))
        else
        some (.inl ((v6 + (1 : Int32)), S))))
      else
      some (.inl ((v6 + (1 : Int32)), S))))
    else
    some (.inl ((v6 + (1 : Int32)), S)))))

def fx_K_find_L3 (n : Nat) (v1 : Int32) (v2 : Int32) (v3 : Int32) (v4 : Int64) (v6 : Int32) (S : ZC) : Option (Nat × Int32 × ZC) := zloop (fun (st : Int32 × ZC) => st_K_find_L3 n v1 v2 v3 v4 st.1 st.2) n (v6, S)

def fx_K_find (n : Nat) (S : ZC) (a1 : Int32) (a2 : Int32) (a3 : Int32) (a4 : Int64) : Option (Int32 × ZC) :=
  zbL2 (fx_K_find_L3 n a1 a2 a3 a4 (0 : Int32) S) (fun x_10 v6_10 S_10 =>
  if x_10 = 58 then
  some (v6_10, S_10)
  else if x_10 = 67 then
  some ((-1 : Int32), S_10)
  else none)

set_option maxRecDepth 100000 in
set_option maxHeartbeats 4000000 in
theorem lp_K_find_L3 {z : zE} {A : Nat → Nat} {Rr : va_W} {p : Program} {l : Launch} {e : Env} {s : State} {m : MethodId} {args : Array Value} {below : List Frame} {meth : Method} {c : Code} {Q : State → Prop} {H0 : Heap} {A0 : Nat → Prop} (hM : zM z p s m args c b_K_find 7 R_K) (hA : ∀ q : Nat, H0.size ≤ q → A0 q) (n : Nat) (v1 : Int32) (v2 : Int32) (v3 : Int32) (v4 : Int64) :
    ∀ (v6 : Int32) (S : ZC) (r : Nat × Int32 × ZC), fx_K_find_L3 n v1 v2 v3 v4 v6 S = some r → (∀ (H : Heap) (locs : List Loc) (ls : Array Slot), va_P z.1 vwCl (cw z A r.2.2 ++ Rr) H → va_D A0 (cw z A r.2.2 ++ Rr) → va_S A0 H0 H locs → lv_has ls 7 [(0, .ref (A 4)), (1, .int v1), (2, .int v2), (3, .int v3), (4, .long v4), (6, .int r.2.1)] → W p l e rm_K_find s m args below meth c H locs 0 0 Q (F0 m r.1 ls [])) →
    ∀ (H : Heap) (locs : List Loc) (ls : Array Slot), va_P z.1 vwCl (cw z A S ++ Rr) H → va_D A0 (cw z A S ++ Rr) → va_S A0 H0 H locs → lv_has ls 7 [(0, .ref (A 4)), (1, .int v1), (2, .int v2), (3, .int v3), (4, .long v4), (6, .int v6)] → W p l e rm_K_find s m args below meth c H locs 0 0 Q (F0 m 3 ls []) := by
  obtain ⟨hx, hb, hml, hown, hts, hK, hN⟩ := id hM
  intro v6 S r h hE
  refine zz_loop (G := fun (st : Int32 × ZC) => ∀ (H : Heap) (locs : List Loc) (ls : Array Slot), va_P z.1 vwCl (cw z A st.2 ++ Rr) H → va_D A0 (cw z A st.2 ++ Rr) → va_S A0 H0 H locs → lv_has ls 7 [(0, .ref (A 4)), (1, .int v1), (2, .int v2), (3, .int v3), (4, .long v4), (6, .int st.1)] → W p l e rm_K_find s m args below meth c H locs 0 0 Q (F0 m 3 ls [])) (E := fun (r : Nat × Int32 × ZC) => ∀ (H : Heap) (locs : List Loc) (ls : Array Slot), va_P z.1 vwCl (cw z A r.2.2 ++ Rr) H → va_D A0 (cw z A r.2.2 ++ Rr) → va_S A0 H0 H locs → lv_has ls 7 [(0, .ref (A 4)), (1, .int v1), (2, .int v2), (3, .int v3), (4, .long v4), (6, .int r.2.1)] → W p l e rm_K_find s m args below meth c H locs 0 0 Q (F0 m r.1 ls [])) ?_ n (v6, S) r h hE
  clear h hE r v6 S
  rintro ⟨v6, S⟩ o h hG hE H locs ls hP hD hS hl
  have h : st_K_find_L3 n v1 v2 v3 v4 v6 S = some o := h
  have hl : lv_has ls 7 [(0, .ref (A 4)), (1, .int v1), (2, .int v2), (3, .int v3), (4, .long v4), (6, .int v6)] := hl
  have hP : va_P z.1 vwCl (cw z A S ++ Rr) H := hP
  have hD : va_D A0 (cw z A S ++ Rr) := hD
  unfold st_K_find_L3 at h
  refine lv_iload hx hb d_K_find_3 (lv_at hl 5 rfl) ?_
  refine lv_aload_n hx hb d_K_find_5 rfl (lv_at hl 0 rfl) ?_
  refine va_get (D := z.1) (ci := 4) (v := .int (kHe S)) (C := R_K) (T := F_K) (N := 6) hx hb hts i_K hown hK hP 4 rfl rfl 5 (by decide) (hts _ wq_134) (fun _ h9 => h9) rfl d_K_find_6 ?_
  refine lv_icmp_ge (tgt := 67) hx hb d_K_find_9 (by decide) (fun c_1 => ?_) (fun c_1 => ?_)
  · replace h := zz_t c_1 h
    exact hE _ (Option.some.inj h).symm _ _ _ hP hD hS hl
  · replace h := zz_f c_1 h
    refine lv_aload_n hx hb d_K_find_12 rfl (lv_at hl 0 rfl) ?_
    refine va_get (D := z.1) (ci := 4) (v := .ref (A 18)) (C := R_K) (T := F_K) (N := 6) hx hb hts i_K hown hK hP 4 rfl rfl 0 (by decide) (hts _ wq_128) (fun _ h9 => h9) rfl d_K_find_13 ?_
    refine lv_iload hx hb d_K_find_16 (lv_at hl 5 rfl) ?_
    obtain ⟨c_2, h⟩ := zz_oob h
    refine va_iald hx hb hK hP 18 0 rfl rfl c_2 d_K_find_18 ?_
    refine lv_iload_n hx hb d_K_find_19 rfl (lv_at hl 1 rfl) ?_
    refine lv_icmp_ne (tgt := 61) hx hb d_K_find_20 (by decide) (fun c_3 => ?_) (fun c_3 => ?_)
    · replace h := zz_f c_3 h
      refine lv_iinc (v := (v6 + (1 : Int32))) (lv' := [(6, .int (v6 + (1 : Int32))), (0, .ref (A 4)), (1, .int v1), (2, .int v2), (3, .int v3), (4, .long v4)]) hx hb d_K_find_61 hl (k := 5) rfl rfl (by decide) rfl (fun ls hl => ?_)
      refine lv_goto (tgt := 3) hx hb d_K_find_64 (by decide) ?_
      exact hG _ (Option.some.inj h).symm _ _ _ hP hD hS (lv_sub hl [1, 2, 3, 4, 5, 0] rfl)
    · replace h := zz_t c_3 h
      refine lv_aload_n hx hb d_K_find_23 rfl (lv_at hl 0 rfl) ?_
      refine va_get (D := z.1) (ci := 4) (v := .ref (A 19)) (C := R_K) (T := F_K) (N := 6) hx hb hts i_K hown hK hP 4 rfl rfl 1 (by decide) (hts _ wq_129) (fun _ h9 => h9) rfl d_K_find_24 ?_
      refine lv_iload hx hb d_K_find_27 (lv_at hl 5 rfl) ?_
      obtain ⟨c_4, h⟩ := zz_oob h
      refine va_iald hx hb hK hP 19 0 rfl rfl c_4 d_K_find_29 ?_
      refine lv_iload_n hx hb d_K_find_30 rfl (lv_at hl 2 rfl) ?_
      refine lv_icmp_ne (tgt := 61) hx hb d_K_find_31 (by decide) (fun c_5 => ?_) (fun c_5 => ?_)
      · replace h := zz_f c_5 h
        refine lv_iinc (v := (v6 + (1 : Int32))) (lv' := [(6, .int (v6 + (1 : Int32))), (0, .ref (A 4)), (1, .int v1), (2, .int v2), (3, .int v3), (4, .long v4)]) hx hb d_K_find_61 hl (k := 5) rfl rfl (by decide) rfl (fun ls hl => ?_)
        refine lv_goto (tgt := 3) hx hb d_K_find_64 (by decide) ?_
        exact hG _ (Option.some.inj h).symm _ _ _ hP hD hS (lv_sub hl [1, 2, 3, 4, 5, 0] rfl)
      · replace h := zz_t c_5 h
        refine lv_aload_n hx hb d_K_find_34 rfl (lv_at hl 0 rfl) ?_
        refine va_get (D := z.1) (ci := 4) (v := .ref (A 20)) (C := R_K) (T := F_K) (N := 6) hx hb hts i_K hown hK hP 4 rfl rfl 2 (by decide) (hts _ wq_130) (fun _ h9 => h9) rfl d_K_find_35 ?_
        refine lv_iload hx hb d_K_find_38 (lv_at hl 5 rfl) ?_
        obtain ⟨c_6, h⟩ := zz_oob h
        refine va_iald hx hb hK hP 20 0 rfl rfl c_6 d_K_find_40 ?_
        refine lv_iload_n hx hb d_K_find_41 rfl (lv_at hl 3 rfl) ?_
        refine lv_icmp_ne (tgt := 61) hx hb d_K_find_42 (by decide) (fun c_7 => ?_) (fun c_7 => ?_)
        · replace h := zz_f c_7 h
          refine lv_iinc (v := (v6 + (1 : Int32))) (lv' := [(6, .int (v6 + (1 : Int32))), (0, .ref (A 4)), (1, .int v1), (2, .int v2), (3, .int v3), (4, .long v4)]) hx hb d_K_find_61 hl (k := 5) rfl rfl (by decide) rfl (fun ls hl => ?_)
          refine lv_goto (tgt := 3) hx hb d_K_find_64 (by decide) ?_
          exact hG _ (Option.some.inj h).symm _ _ _ hP hD hS (lv_sub hl [1, 2, 3, 4, 5, 0] rfl)
        · replace h := zz_t c_7 h
          refine lv_aload_n hx hb d_K_find_45 rfl (lv_at hl 0 rfl) ?_
          refine va_get (D := z.1) (ci := 4) (v := .ref (A 21)) (C := R_K) (T := F_K) (N := 6) hx hb hts i_K hown hK hP 4 rfl rfl 3 (by decide) (hts _ wq_131) (fun _ h9 => h9) rfl d_K_find_46 ?_
          refine lv_iload hx hb d_K_find_49 (lv_at hl 5 rfl) ?_
          obtain ⟨c_8, h⟩ := zz_oob h
          refine va_lald hx hb hK hP 21 2 rfl rfl c_8 d_K_find_51 ?_
          refine lv_lload hx hb d_K_find_52 (lv_at hl 4 rfl) ?_
          refine W.lcmp hx hb d_K_find_54 ?_
          refine lv_if_ne (tgt := 61) hx hb d_K_find_55 (by decide) (fun c_9 => ?_) (fun c_9 => ?_)
          · replace h := zz_f c_9 h
            refine lv_iinc (v := (v6 + (1 : Int32))) (lv' := [(6, .int (v6 + (1 : Int32))), (0, .ref (A 4)), (1, .int v1), (2, .int v2), (3, .int v3), (4, .long v4)]) hx hb d_K_find_61 hl (k := 5) rfl rfl (by decide) rfl (fun ls hl => ?_)
            refine lv_goto (tgt := 3) hx hb d_K_find_64 (by decide) ?_
            exact hG _ (Option.some.inj h).symm _ _ _ hP hD hS (lv_sub hl [1, 2, 3, 4, 5, 0] rfl)
          · replace h := zz_t c_9 h
            exact hE _ (Option.some.inj h).symm _ _ _ hP hD hS hl

set_option maxRecDepth 100000 in
set_option maxHeartbeats 4000000 in
theorem k_K_find (l : Launch) (z : zE) (A : Nat → Nat) (Rr : va_W) (n : Nat) (S : ZC) (a1 : Int32) (a2 : Int32) (a3 : Int32) (a4 : Int64) (r0 : Int32) (S' : ZC) (h : fx_K_find n S a1 a2 a3 a4 = some (r0, S')) : zC z l y_K_find w_K_find rm_K_find [.ref (A 4), .int a1, .int a2, .int a3, .long a4] (cw z A S ++ Rr) (some (.int r0)) (cw z A S' ++ Rr) := by
  refine zz_of (by decide) (Nat.le_of_ble_eq_true rfl) ?_
  intro p e s m args below meth c A0 ls hM hr hlocks hA hP hD hl
  have hM : zM z p s m args c b_K_find 7 R_K := hM
  obtain ⟨hx, hb, hml, hown, hts, hK, hN⟩ := id hM
  have hS : va_S A0 s.heap s.heap [] := va_S.rf
  have hl : lv_has ls 7 [(0, .ref (A 4)), (1, .int a1), (2, .int a2), (3, .int a3), (4, .long a4)] := hl
  unfold fx_K_find at h
  refine lv_iconst (v := 0) hx hb d_K_find_0 (by decide) ?_
  refine lv_istore (lv' := [(6, .int (0 : Int32)), (0, .ref (A 4)), (1, .int a1), (2, .int a2), (3, .int a3), (4, .long a4)]) hx hb d_K_find_1 hl (by decide) rfl (fun ls hl => ?_)
  replace h := zz_bL2 h
  obtain ⟨x_10, v6_10, S_10, e_10, h⟩ := h
  refine lp_K_find_L3 hM hA n a1 a2 a3 a4 _ _ _ e_10 ?_ _ _ _ hP hD hS (lv_sub hl [1, 2, 3, 4, 5, 0] rfl)
  intro H locs ls hP hD hS hl
  have hl : lv_has ls 7 [(0, .ref (A 4)), (1, .int a1), (2, .int a2), (3, .int a3), (4, .long a4), (6, .int v6_10)] := hl
  have hP : va_P z.1 vwCl (cw z A S_10 ++ Rr) H := hP
  have hD : va_D A0 (cw z A S_10 ++ Rr) := hD
  by_cases c_10 : x_10 = 58
  · replace h := zz_t c_10 h
    subst c_10
    refine W.eq (g2 := F0 m 58 ls []) rfl ?_
    refine lv_iload hx hb d_K_find_58 (lv_at hl 5 rfl) ?_
    exact zz_iret (fun S => cw z A S ++ Rr) hx hb hr hlocks hP hD hS h d_K_find_60
  replace h := zz_f c_10 h
  replace h := zz_grd h
  obtain ⟨c_10, h⟩ := h
  subst c_10
  refine W.eq (g2 := F0 m 67 ls []) rfl ?_
  refine lv_iconst (v := -1) hx hb d_K_find_67 (by decide) ?_
  exact zz_iret (fun S => cw z A S ++ Rr) hx hb hr hlocks hP hD hS h d_K_find_68

abbrev b_K_move : ByteArray := prog_3_method_7_code
abbrev y_K_move : MethodName := ⟨"MemberChooser$KeptCalls", "move", "(II)V"⟩
abbrev w_K_move : List Cond := Cond.code y_K_move b_K_move 3 none :: zTb
theorem d_K_move_0 : decode b_K_move 0 = .ok (.aload_n 0, 1) := by decide +kernel
theorem d_K_move_1 : decode b_K_move 1 = .ok (.getfield 11, 3) := by decide +kernel
theorem d_K_move_4 : decode b_K_move 4 = .ok (.iload_n 2, 1) := by decide +kernel
theorem d_K_move_5 : decode b_K_move 5 = .ok (.aload_n 0, 1) := by decide +kernel
theorem d_K_move_6 : decode b_K_move 6 = .ok (.getfield 11, 3) := by decide +kernel
theorem d_K_move_9 : decode b_K_move 9 = .ok (.iload_n 1, 1) := by decide +kernel
theorem d_K_move_10 : decode b_K_move 10 = .ok (.iaload, 1) := by decide +kernel
theorem d_K_move_11 : decode b_K_move 11 = .ok (.iastore, 1) := by decide +kernel
theorem d_K_move_12 : decode b_K_move 12 = .ok (.aload_n 0, 1) := by decide +kernel
theorem d_K_move_13 : decode b_K_move 13 = .ok (.getfield 15, 3) := by decide +kernel
theorem d_K_move_16 : decode b_K_move 16 = .ok (.iload_n 2, 1) := by decide +kernel
theorem d_K_move_17 : decode b_K_move 17 = .ok (.aload_n 0, 1) := by decide +kernel
theorem d_K_move_18 : decode b_K_move 18 = .ok (.getfield 15, 3) := by decide +kernel
theorem d_K_move_21 : decode b_K_move 21 = .ok (.iload_n 1, 1) := by decide +kernel
theorem d_K_move_22 : decode b_K_move 22 = .ok (.iaload, 1) := by decide +kernel
theorem d_K_move_23 : decode b_K_move 23 = .ok (.iastore, 1) := by decide +kernel
theorem d_K_move_24 : decode b_K_move 24 = .ok (.aload_n 0, 1) := by decide +kernel
theorem d_K_move_25 : decode b_K_move 25 = .ok (.getfield 18, 3) := by decide +kernel
theorem d_K_move_28 : decode b_K_move 28 = .ok (.iload_n 2, 1) := by decide +kernel
theorem d_K_move_29 : decode b_K_move 29 = .ok (.aload_n 0, 1) := by decide +kernel
theorem d_K_move_30 : decode b_K_move 30 = .ok (.getfield 18, 3) := by decide +kernel
theorem d_K_move_33 : decode b_K_move 33 = .ok (.iload_n 1, 1) := by decide +kernel
theorem d_K_move_34 : decode b_K_move 34 = .ok (.iaload, 1) := by decide +kernel
theorem d_K_move_35 : decode b_K_move 35 = .ok (.iastore, 1) := by decide +kernel
theorem d_K_move_36 : decode b_K_move 36 = .ok (.aload_n 0, 1) := by decide +kernel
theorem d_K_move_37 : decode b_K_move 37 = .ok (.getfield 21, 3) := by decide +kernel
theorem d_K_move_40 : decode b_K_move 40 = .ok (.iload_n 2, 1) := by decide +kernel
theorem d_K_move_41 : decode b_K_move 41 = .ok (.aload_n 0, 1) := by decide +kernel
theorem d_K_move_42 : decode b_K_move 42 = .ok (.getfield 21, 3) := by decide +kernel
theorem d_K_move_45 : decode b_K_move 45 = .ok (.iload_n 1, 1) := by decide +kernel
theorem d_K_move_46 : decode b_K_move 46 = .ok (.laload, 1) := by decide +kernel
theorem d_K_move_47 : decode b_K_move 47 = .ok (.lastore, 1) := by decide +kernel
theorem d_K_move_48 : decode b_K_move 48 = .ok (.aload_n 0, 1) := by decide +kernel
theorem d_K_move_49 : decode b_K_move 49 = .ok (.getfield 25, 3) := by decide +kernel
theorem d_K_move_52 : decode b_K_move 52 = .ok (.iload_n 2, 1) := by decide +kernel
theorem d_K_move_53 : decode b_K_move 53 = .ok (.aload_n 0, 1) := by decide +kernel
theorem d_K_move_54 : decode b_K_move 54 = .ok (.getfield 25, 3) := by decide +kernel
theorem d_K_move_57 : decode b_K_move 57 = .ok (.iload_n 1, 1) := by decide +kernel
theorem d_K_move_58 : decode b_K_move 58 = .ok (.iaload, 1) := by decide +kernel
theorem d_K_move_59 : decode b_K_move 59 = .ok (.iastore, 1) := by decide +kernel
theorem d_K_move_60 : decode b_K_move 60 = .ok (.return_, 1) := by decide +kernel
abbrev rm_K_move : Room := { frames := 0, cells := 0, slots := 0, locals := 0 }
def fx_K_move (n : Nat) (S : ZC) (a1 : Int32) (a2 : Int32) : Option (ZC) :=
  (if zoob a1 100 then none else
  (if zoob a2 100 then none else
  zlet (kTy' S (upd (kTy S) a2.toNatClampNeg ((kTy S) a1.toNatClampNeg))) (fun S_3 =>
  (if zoob a1 100 then none else
  (if zoob a2 100 then none else
  zlet (kNa' S_3 (upd (kNa S_3) a2.toNatClampNeg ((kNa S_3) a1.toNatClampNeg))) (fun S_6 =>
  (if zoob a1 100 then none else
  (if zoob a2 100 then none else
  zlet (kSz' S_6 (upd (kSz S_6) a2.toNatClampNeg ((kSz S_6) a1.toNatClampNeg))) (fun S_9 =>
  (if zoob a1 100 then none else
  (if zoob a2 100 then none else
  zlet (kCl' S_9 (vp_updL (kCl S_9) a2.toNatClampNeg ((kCl S_9) a1.toNatClampNeg))) (fun S_12 =>
  (if zoob a1 100 then none else
  (if zoob a2 100 then none else
  zlet (kOu' S_12 (upd (kOu S_12) a2.toNatClampNeg ((kOu S_12) a1.toNatClampNeg))) (fun S_15 =>
  some S_15)))))))))))))))

set_option maxRecDepth 100000 in
set_option maxHeartbeats 4000000 in
theorem k_K_move (l : Launch) (z : zE) (A : Nat → Nat) (Rr : va_W) (n : Nat) (S : ZC) (a1 : Int32) (a2 : Int32) (S' : ZC) (h : fx_K_move n S a1 a2 = some S') : zC z l y_K_move w_K_move rm_K_move [.ref (A 4), .int a1, .int a2] (cw z A S ++ Rr) none (cw z A S' ++ Rr) := by
  refine zz_of (by decide) (Nat.le_of_ble_eq_true rfl) ?_
  intro p e s m args below meth c A0 ls hM hr hlocks hA hP hD hl
  have hM : zM z p s m args c b_K_move 3 R_K := hM
  obtain ⟨hx, hb, hml, hown, hts, hK, hN⟩ := id hM
  have hS : va_S A0 s.heap s.heap [] := va_S.rf
  have hl : lv_has ls 3 [(0, .ref (A 4)), (1, .int a1), (2, .int a2)] := hl
  unfold fx_K_move at h
  refine lv_aload_n hx hb d_K_move_0 rfl (lv_at hl 0 rfl) ?_
  refine va_get (D := z.1) (ci := 4) (v := .ref (A 18)) (C := R_K) (T := F_K) (N := 6) hx hb hts i_K hown hK hP 4 rfl rfl 0 (by decide) (hts _ wq_128) (fun _ h9 => h9) rfl d_K_move_1 ?_
  refine lv_iload_n hx hb d_K_move_4 rfl (lv_at hl 2 rfl) ?_
  refine lv_aload_n hx hb d_K_move_5 rfl (lv_at hl 0 rfl) ?_
  refine va_get (D := z.1) (ci := 4) (v := .ref (A 18)) (C := R_K) (T := F_K) (N := 6) hx hb hts i_K hown hK hP 4 rfl rfl 0 (by decide) (hts _ wq_128) (fun _ h9 => h9) rfl d_K_move_6 ?_
  refine lv_iload_n hx hb d_K_move_9 rfl (lv_at hl 1 rfl) ?_
  obtain ⟨c_1, h⟩ := zz_oob h
  refine va_iald hx hb hK hP 18 0 rfl rfl c_1 d_K_move_10 ?_
  obtain ⟨c_2, h⟩ := zz_oob h
  obtain ⟨S_3, e_3, h⟩ := zz_let h
  refine va_iast hx hb hK hP hD hS 18 0 rfl rfl c_2 d_K_move_11 (fun H locs hP hD hS => ?_)
  have hP : va_P z.1 vwCl (cw z A S_3 ++ Rr) H := by rw [e_3]; exact hP
  have hD : va_D A0 (cw z A S_3 ++ Rr) := by rw [e_3]; exact hD
  refine lv_aload_n hx hb d_K_move_12 rfl (lv_at hl 0 rfl) ?_
  refine va_get (D := z.1) (ci := 4) (v := .ref (A 19)) (C := R_K) (T := F_K) (N := 6) hx hb hts i_K hown hK hP 4 rfl rfl 1 (by decide) (hts _ wq_129) (fun _ h9 => h9) rfl d_K_move_13 ?_
  refine lv_iload_n hx hb d_K_move_16 rfl (lv_at hl 2 rfl) ?_
  refine lv_aload_n hx hb d_K_move_17 rfl (lv_at hl 0 rfl) ?_
  refine va_get (D := z.1) (ci := 4) (v := .ref (A 19)) (C := R_K) (T := F_K) (N := 6) hx hb hts i_K hown hK hP 4 rfl rfl 1 (by decide) (hts _ wq_129) (fun _ h9 => h9) rfl d_K_move_18 ?_
  refine lv_iload_n hx hb d_K_move_21 rfl (lv_at hl 1 rfl) ?_
  obtain ⟨c_4, h⟩ := zz_oob h
  refine va_iald hx hb hK hP 19 0 rfl rfl c_4 d_K_move_22 ?_
  obtain ⟨c_5, h⟩ := zz_oob h
  obtain ⟨S_6, e_6, h⟩ := zz_let h
  refine va_iast hx hb hK hP hD hS 19 0 rfl rfl c_5 d_K_move_23 (fun H locs hP hD hS => ?_)
  have hP : va_P z.1 vwCl (cw z A S_6 ++ Rr) H := by rw [e_6]; exact hP
  have hD : va_D A0 (cw z A S_6 ++ Rr) := by rw [e_6]; exact hD
  refine lv_aload_n hx hb d_K_move_24 rfl (lv_at hl 0 rfl) ?_
  refine va_get (D := z.1) (ci := 4) (v := .ref (A 20)) (C := R_K) (T := F_K) (N := 6) hx hb hts i_K hown hK hP 4 rfl rfl 2 (by decide) (hts _ wq_130) (fun _ h9 => h9) rfl d_K_move_25 ?_
  refine lv_iload_n hx hb d_K_move_28 rfl (lv_at hl 2 rfl) ?_
  refine lv_aload_n hx hb d_K_move_29 rfl (lv_at hl 0 rfl) ?_
  refine va_get (D := z.1) (ci := 4) (v := .ref (A 20)) (C := R_K) (T := F_K) (N := 6) hx hb hts i_K hown hK hP 4 rfl rfl 2 (by decide) (hts _ wq_130) (fun _ h9 => h9) rfl d_K_move_30 ?_
  refine lv_iload_n hx hb d_K_move_33 rfl (lv_at hl 1 rfl) ?_
  obtain ⟨c_7, h⟩ := zz_oob h
  refine va_iald hx hb hK hP 20 0 rfl rfl c_7 d_K_move_34 ?_
  obtain ⟨c_8, h⟩ := zz_oob h
  obtain ⟨S_9, e_9, h⟩ := zz_let h
  refine va_iast hx hb hK hP hD hS 20 0 rfl rfl c_8 d_K_move_35 (fun H locs hP hD hS => ?_)
  have hP : va_P z.1 vwCl (cw z A S_9 ++ Rr) H := by rw [e_9]; exact hP
  have hD : va_D A0 (cw z A S_9 ++ Rr) := by rw [e_9]; exact hD
  refine lv_aload_n hx hb d_K_move_36 rfl (lv_at hl 0 rfl) ?_
  refine va_get (D := z.1) (ci := 4) (v := .ref (A 21)) (C := R_K) (T := F_K) (N := 6) hx hb hts i_K hown hK hP 4 rfl rfl 3 (by decide) (hts _ wq_131) (fun _ h9 => h9) rfl d_K_move_37 ?_
  refine lv_iload_n hx hb d_K_move_40 rfl (lv_at hl 2 rfl) ?_
  refine lv_aload_n hx hb d_K_move_41 rfl (lv_at hl 0 rfl) ?_
  refine va_get (D := z.1) (ci := 4) (v := .ref (A 21)) (C := R_K) (T := F_K) (N := 6) hx hb hts i_K hown hK hP 4 rfl rfl 3 (by decide) (hts _ wq_131) (fun _ h9 => h9) rfl d_K_move_42 ?_
  refine lv_iload_n hx hb d_K_move_45 rfl (lv_at hl 1 rfl) ?_
  obtain ⟨c_10, h⟩ := zz_oob h
  refine va_lald hx hb hK hP 21 2 rfl rfl c_10 d_K_move_46 ?_
  obtain ⟨c_11, h⟩ := zz_oob h
  obtain ⟨S_12, e_12, h⟩ := zz_let h
  refine va_last hx hb hK hP hD hS 21 2 rfl rfl c_11 d_K_move_47 (fun H locs hP hD hS => ?_)
  have hP : va_P z.1 vwCl (cw z A S_12 ++ Rr) H := by rw [e_12]; exact hP
  have hD : va_D A0 (cw z A S_12 ++ Rr) := by rw [e_12]; exact hD
  refine lv_aload_n hx hb d_K_move_48 rfl (lv_at hl 0 rfl) ?_
  refine va_get (D := z.1) (ci := 4) (v := .ref (A 22)) (C := R_K) (T := F_K) (N := 6) hx hb hts i_K hown hK hP 4 rfl rfl 4 (by decide) (hts _ wq_132) (fun _ h9 => h9) rfl d_K_move_49 ?_
  refine lv_iload_n hx hb d_K_move_52 rfl (lv_at hl 2 rfl) ?_
  refine lv_aload_n hx hb d_K_move_53 rfl (lv_at hl 0 rfl) ?_
  refine va_get (D := z.1) (ci := 4) (v := .ref (A 22)) (C := R_K) (T := F_K) (N := 6) hx hb hts i_K hown hK hP 4 rfl rfl 4 (by decide) (hts _ wq_132) (fun _ h9 => h9) rfl d_K_move_54 ?_
  refine lv_iload_n hx hb d_K_move_57 rfl (lv_at hl 1 rfl) ?_
  obtain ⟨c_13, h⟩ := zz_oob h
  refine va_iald hx hb hK hP 22 0 rfl rfl c_13 d_K_move_58 ?_
  obtain ⟨c_14, h⟩ := zz_oob h
  obtain ⟨S_15, e_15, h⟩ := zz_let h
  refine va_iast hx hb hK hP hD hS 22 0 rfl rfl c_14 d_K_move_59 (fun H locs hP hD hS => ?_)
  have hP : va_P z.1 vwCl (cw z A S_15 ++ Rr) H := by rw [e_15]; exact hP
  have hD : va_D A0 (cw z A S_15 ++ Rr) := by rw [e_15]; exact hD
  exact zz_vret (fun S => cw z A S ++ Rr) hx hb hr hlocks hP hD hS h d_K_move_60

abbrev b_K_letGoFirst : ByteArray := prog_3_method_6_code
abbrev y_K_letGoFirst : MethodName := ⟨"MemberChooser$KeptCalls", "letGoFirst", "()V"⟩
abbrev w_K_letGoFirst : List Cond := Cond.code y_K_letGoFirst b_K_letGoFirst 2 none :: zTb
theorem d_K_letGoFirst_0 : decode b_K_letGoFirst 0 = .ok (.iconst 1, 1) := by decide +kernel
theorem d_K_letGoFirst_1 : decode b_K_letGoFirst 1 = .ok (.istore_n 1, 1) := by decide +kernel
theorem d_K_letGoFirst_2 : decode b_K_letGoFirst 2 = .ok (.iload_n 1, 1) := by decide +kernel
theorem d_K_letGoFirst_3 : decode b_K_letGoFirst 3 = .ok (.aload_n 0, 1) := by decide +kernel
theorem d_K_letGoFirst_4 : decode b_K_letGoFirst 4 = .ok (.getfield 28, 3) := by decide +kernel
theorem d_K_letGoFirst_7 : decode b_K_letGoFirst 7 = .ok (.if_icmp .ge 17, 3) := by decide +kernel
theorem d_K_letGoFirst_10 : decode b_K_letGoFirst 10 = .ok (.aload_n 0, 1) := by decide +kernel
theorem d_K_letGoFirst_11 : decode b_K_letGoFirst 11 = .ok (.iload_n 1, 1) := by decide +kernel
theorem d_K_letGoFirst_12 : decode b_K_letGoFirst 12 = .ok (.iload_n 1, 1) := by decide +kernel
theorem d_K_letGoFirst_13 : decode b_K_letGoFirst 13 = .ok (.iconst 1, 1) := by decide +kernel
theorem d_K_letGoFirst_14 : decode b_K_letGoFirst 14 = .ok (.isub, 1) := by decide +kernel
theorem d_K_letGoFirst_15 : decode b_K_letGoFirst 15 = .ok (.invokevirtual 35, 3) := by decide +kernel
theorem d_K_letGoFirst_18 : decode b_K_letGoFirst 18 = .ok (.iinc 1 1, 3) := by decide +kernel
theorem d_K_letGoFirst_21 : decode b_K_letGoFirst 21 = .ok (.goto (-19), 3) := by decide +kernel
theorem d_K_letGoFirst_24 : decode b_K_letGoFirst 24 = .ok (.aload_n 0, 1) := by decide +kernel
theorem d_K_letGoFirst_25 : decode b_K_letGoFirst 25 = .ok (.dup, 1) := by decide +kernel
theorem d_K_letGoFirst_26 : decode b_K_letGoFirst 26 = .ok (.getfield 28, 3) := by decide +kernel
theorem d_K_letGoFirst_29 : decode b_K_letGoFirst 29 = .ok (.iconst 1, 1) := by decide +kernel
theorem d_K_letGoFirst_30 : decode b_K_letGoFirst 30 = .ok (.isub, 1) := by decide +kernel
theorem d_K_letGoFirst_31 : decode b_K_letGoFirst 31 = .ok (.putfield 28, 3) := by decide +kernel
theorem d_K_letGoFirst_34 : decode b_K_letGoFirst 34 = .ok (.return_, 1) := by decide +kernel
abbrev rm_K_letGoFirst : Room := { frames := 1, cells := 0, slots := 0, locals := 22 }
def st_K_letGoFirst_L2 (n : Nat)  (v1 : Int32) (S : ZC) : Option ((Int32 × ZC) ⊕ (Nat × Int32 × ZC)) :=
  (if (kHe S) ≤ v1 then
  some (.inr (24, v1, S))
  else
  zbind1 (fx_K_move n S v1 (v1 - (1 : Int32))) (fun S_2 =>
    some (.inl ((v1 + (1 : Int32)), S_2))))

def fx_K_letGoFirst_L2 (n : Nat)  (v1 : Int32) (S : ZC) : Option (Nat × Int32 × ZC) := zloop (fun (st : Int32 × ZC) => st_K_letGoFirst_L2 n st.1 st.2) n (v1, S)

def fx_K_letGoFirst (n : Nat) (S : ZC) : Option (ZC) :=
  zbL2 (fx_K_letGoFirst_L2 n (1 : Int32) S) (fun x_3 v1_3 S_3 =>
  if x_3 = 24 then
  zlet (kHe' S_3 ((kHe S_3) - (1 : Int32))) (fun S_4 =>
  some S_4)
  else none)

set_option maxRecDepth 100000 in
set_option maxHeartbeats 4000000 in
theorem lp_K_letGoFirst_L2 {z : zE} {A : Nat → Nat} {Rr : va_W} {p : Program} {l : Launch} {e : Env} {s : State} {m : MethodId} {args : Array Value} {below : List Frame} {meth : Method} {c : Code} {Q : State → Prop} {H0 : Heap} {A0 : Nat → Prop} (hM : zM z p s m args c b_K_letGoFirst 2 R_K) (hA : ∀ q : Nat, H0.size ≤ q → A0 q) (n : Nat) :
    ∀ (v1 : Int32) (S : ZC) (r : Nat × Int32 × ZC), fx_K_letGoFirst_L2 n v1 S = some r → (∀ (H : Heap) (locs : List Loc) (ls : Array Slot), va_P z.1 vwCl (cw z A r.2.2 ++ Rr) H → va_D A0 (cw z A r.2.2 ++ Rr) → va_S A0 H0 H locs → lv_has ls 2 [(0, .ref (A 4)), (1, .int r.2.1)] → W p l e rm_K_letGoFirst s m args below meth c H locs 0 0 Q (F0 m r.1 ls [])) →
    ∀ (H : Heap) (locs : List Loc) (ls : Array Slot), va_P z.1 vwCl (cw z A S ++ Rr) H → va_D A0 (cw z A S ++ Rr) → va_S A0 H0 H locs → lv_has ls 2 [(0, .ref (A 4)), (1, .int v1)] → W p l e rm_K_letGoFirst s m args below meth c H locs 0 0 Q (F0 m 2 ls []) := by
  obtain ⟨hx, hb, hml, hown, hts, hK, hN⟩ := id hM
  intro v1 S r h hE
  refine zz_loop (G := fun (st : Int32 × ZC) => ∀ (H : Heap) (locs : List Loc) (ls : Array Slot), va_P z.1 vwCl (cw z A st.2 ++ Rr) H → va_D A0 (cw z A st.2 ++ Rr) → va_S A0 H0 H locs → lv_has ls 2 [(0, .ref (A 4)), (1, .int st.1)] → W p l e rm_K_letGoFirst s m args below meth c H locs 0 0 Q (F0 m 2 ls [])) (E := fun (r : Nat × Int32 × ZC) => ∀ (H : Heap) (locs : List Loc) (ls : Array Slot), va_P z.1 vwCl (cw z A r.2.2 ++ Rr) H → va_D A0 (cw z A r.2.2 ++ Rr) → va_S A0 H0 H locs → lv_has ls 2 [(0, .ref (A 4)), (1, .int r.2.1)] → W p l e rm_K_letGoFirst s m args below meth c H locs 0 0 Q (F0 m r.1 ls [])) ?_ n (v1, S) r h hE
  clear h hE r v1 S
  rintro ⟨v1, S⟩ o h hG hE H locs ls hP hD hS hl
  have h : st_K_letGoFirst_L2 n v1 S = some o := h
  have hl : lv_has ls 2 [(0, .ref (A 4)), (1, .int v1)] := hl
  have hP : va_P z.1 vwCl (cw z A S ++ Rr) H := hP
  have hD : va_D A0 (cw z A S ++ Rr) := hD
  unfold st_K_letGoFirst_L2 at h
  refine lv_iload_n hx hb d_K_letGoFirst_2 rfl (lv_at hl 1 rfl) ?_
  refine lv_aload_n hx hb d_K_letGoFirst_3 rfl (lv_at hl 0 rfl) ?_
  refine va_get (D := z.1) (ci := 4) (v := .int (kHe S)) (C := R_K) (T := F_K) (N := 6) hx hb hts i_K hown hK hP 4 rfl rfl 5 (by decide) (hts _ wq_134) (fun _ h9 => h9) rfl d_K_letGoFirst_4 ?_
  refine lv_icmp_ge (tgt := 24) hx hb d_K_letGoFirst_7 (by decide) (fun c_1 => ?_) (fun c_1 => ?_)
  · replace h := zz_t c_1 h
    exact hE _ (Option.some.inj h).symm _ _ _ hP hD hS hl
  · replace h := zz_f c_1 h
    refine lv_aload_n hx hb d_K_letGoFirst_10 rfl (lv_at hl 0 rfl) ?_
    refine lv_iload_n hx hb d_K_letGoFirst_11 rfl (lv_at hl 1 rfl) ?_
    refine lv_iload_n hx hb d_K_letGoFirst_12 rfl (lv_at hl 1 rfl) ?_
    refine lv_iconst (v := 1) hx hb d_K_letGoFirst_13 (by decide) ?_
    refine lv_isub hx hb d_K_letGoFirst_14 ?_
    obtain ⟨S_2, e_2, h⟩ := zz_bind1 h
    refine zz_goV (zz_runV (As := [.int v1, .int (v1 - (1 : Int32))]) (rest := []) (k_K_move l z A Rr n _ _ _ _ e_2) ⟨hx, hb, hml, hown, hts⟩ (cwV 2 hts (zz_gV wq_426 wq_428 wp_7 wq_5 wq_429) rfl rfl rfl (by decide +kernel) ⟨Nat.le_of_ble_eq_true rfl, Nat.le_of_ble_eq_true rfl⟩) hK hN hP hD (va_recv hK hP (ci := 4) (q0 := 4) rfl rfl) rfl hl.1 rfl (Nat.le_of_ble_eq_true rfl) d_K_letGoFirst_15 ⟨Nat.le_of_ble_eq_true rfl, Nat.le_of_ble_eq_true rfl⟩) hD hS hA (fun H locs hP hD hS => ?_)
    refine lv_iinc (v := (v1 + (1 : Int32))) (lv' := [(1, .int (v1 + (1 : Int32))), (0, .ref (A 4))]) hx hb d_K_letGoFirst_18 hl (k := 1) rfl rfl (by decide) rfl (fun ls hl => ?_)
    refine lv_goto (tgt := 2) hx hb d_K_letGoFirst_21 (by decide) ?_
    exact hG _ (Option.some.inj h).symm _ _ _ hP hD hS (lv_sub hl [1, 0] rfl)

set_option maxRecDepth 100000 in
set_option maxHeartbeats 4000000 in
theorem k_K_letGoFirst (l : Launch) (z : zE) (A : Nat → Nat) (Rr : va_W) (n : Nat) (S : ZC) (S' : ZC) (h : fx_K_letGoFirst n S  = some S') : zC z l y_K_letGoFirst w_K_letGoFirst rm_K_letGoFirst [.ref (A 4)] (cw z A S ++ Rr) none (cw z A S' ++ Rr) := by
  refine zz_of (by decide) (Nat.le_of_ble_eq_true rfl) ?_
  intro p e s m args below meth c A0 ls hM hr hlocks hA hP hD hl
  have hM : zM z p s m args c b_K_letGoFirst 2 R_K := hM
  obtain ⟨hx, hb, hml, hown, hts, hK, hN⟩ := id hM
  have hS : va_S A0 s.heap s.heap [] := va_S.rf
  have hl : lv_has ls 2 [(0, .ref (A 4))] := hl
  unfold fx_K_letGoFirst at h
  refine lv_iconst (v := 1) hx hb d_K_letGoFirst_0 (by decide) ?_
  refine lv_istore_n (lv' := [(1, .int (1 : Int32)), (0, .ref (A 4))]) hx hb d_K_letGoFirst_1 rfl hl (by decide) rfl (fun ls hl => ?_)
  replace h := zz_bL2 h
  obtain ⟨x_3, v1_3, S_3, e_3, h⟩ := h
  refine lp_K_letGoFirst_L2 hM hA n _ _ _ e_3 ?_ _ _ _ hP hD hS (lv_sub hl [1, 0] rfl)
  intro H locs ls hP hD hS hl
  have hl : lv_has ls 2 [(0, .ref (A 4)), (1, .int v1_3)] := hl
  have hP : va_P z.1 vwCl (cw z A S_3 ++ Rr) H := hP
  have hD : va_D A0 (cw z A S_3 ++ Rr) := hD
  replace h := zz_grd h
  obtain ⟨c_3, h⟩ := h
  subst c_3
  refine W.eq (g2 := F0 m 24 ls []) rfl ?_
  refine lv_aload_n hx hb d_K_letGoFirst_24 rfl (lv_at hl 0 rfl) ?_
  refine lv_dup hx hb d_K_letGoFirst_25 rfl ?_
  refine va_get (D := z.1) (ci := 4) (v := .int (kHe S_3)) (C := R_K) (T := F_K) (N := 6) hx hb hts i_K hown hK hP 4 rfl rfl 5 (by decide) (hts _ wq_134) (fun _ h9 => h9) rfl d_K_letGoFirst_26 ?_
  refine lv_iconst (v := 1) hx hb d_K_letGoFirst_29 (by decide) ?_
  refine lv_isub hx hb d_K_letGoFirst_30 ?_
  obtain ⟨S_4, e_4, h⟩ := zz_let h
  refine va_put (D := z.1) (ci := 4) (v := .int ((kHe S_3) - (1 : Int32))) (ty := .int) (C := R_K) (T := F_K) (N := 6) hx hb hts i_K ty_K ty_K_ok n_K hown hK hP hD hS 4 rfl rfl 5 (by decide) (hts _ wq_134) (fun _ h9 => h9) rfl (by decide +kernel) rfl rfl (Nat.le_of_ble_eq_true rfl) d_K_letGoFirst_31 (fun H locs hP hD hS => ?_)
  have hP : va_P z.1 vwCl (cw z A S_4 ++ Rr) H := by rw [e_4]; exact hP
  have hD : va_D A0 (cw z A S_4 ++ Rr) := by rw [e_4]; exact hD
  exact zz_vret (fun S => cw z A S ++ Rr) hx hb hr hlocks hP hD hS h d_K_letGoFirst_34

abbrev b_K_keep : ByteArray := prog_3_method_3_code
abbrev y_K_keep : MethodName := ⟨"MemberChooser$KeptCalls", "keep", "(IIIJI)I"⟩
abbrev w_K_keep : List Cond := Cond.code y_K_keep b_K_keep 8 (some .int) :: zTb
theorem d_K_keep_0 : decode b_K_keep 0 = .ok (.aload_n 0, 1) := by decide +kernel
theorem d_K_keep_1 : decode b_K_keep 1 = .ok (.getfield 28, 3) := by decide +kernel
theorem d_K_keep_4 : decode b_K_keep 4 = .ok (.bipush 100, 2) := by decide +kernel
theorem d_K_keep_6 : decode b_K_keep 6 = .ok (.if_icmp .lt 7, 3) := by decide +kernel
theorem d_K_keep_9 : decode b_K_keep 9 = .ok (.aload_n 0, 1) := by decide +kernel
theorem d_K_keep_10 : decode b_K_keep 10 = .ok (.invokevirtual 32, 3) := by decide +kernel
theorem d_K_keep_13 : decode b_K_keep 13 = .ok (.aload_n 0, 1) := by decide +kernel
theorem d_K_keep_14 : decode b_K_keep 14 = .ok (.getfield 28, 3) := by decide +kernel
theorem d_K_keep_17 : decode b_K_keep 17 = .ok (.istore 7, 2) := by decide +kernel
theorem d_K_keep_19 : decode b_K_keep 19 = .ok (.aload_n 0, 1) := by decide +kernel
theorem d_K_keep_20 : decode b_K_keep 20 = .ok (.getfield 11, 3) := by decide +kernel
theorem d_K_keep_23 : decode b_K_keep 23 = .ok (.iload 7, 2) := by decide +kernel
theorem d_K_keep_25 : decode b_K_keep 25 = .ok (.iload_n 1, 1) := by decide +kernel
theorem d_K_keep_26 : decode b_K_keep 26 = .ok (.iastore, 1) := by decide +kernel
theorem d_K_keep_27 : decode b_K_keep 27 = .ok (.aload_n 0, 1) := by decide +kernel
theorem d_K_keep_28 : decode b_K_keep 28 = .ok (.getfield 15, 3) := by decide +kernel
theorem d_K_keep_31 : decode b_K_keep 31 = .ok (.iload 7, 2) := by decide +kernel
theorem d_K_keep_33 : decode b_K_keep 33 = .ok (.iload_n 2, 1) := by decide +kernel
theorem d_K_keep_34 : decode b_K_keep 34 = .ok (.iastore, 1) := by decide +kernel
theorem d_K_keep_35 : decode b_K_keep 35 = .ok (.aload_n 0, 1) := by decide +kernel
theorem d_K_keep_36 : decode b_K_keep 36 = .ok (.getfield 18, 3) := by decide +kernel
theorem d_K_keep_39 : decode b_K_keep 39 = .ok (.iload 7, 2) := by decide +kernel
theorem d_K_keep_41 : decode b_K_keep 41 = .ok (.iload_n 3, 1) := by decide +kernel
theorem d_K_keep_42 : decode b_K_keep 42 = .ok (.iastore, 1) := by decide +kernel
theorem d_K_keep_43 : decode b_K_keep 43 = .ok (.aload_n 0, 1) := by decide +kernel
theorem d_K_keep_44 : decode b_K_keep 44 = .ok (.getfield 21, 3) := by decide +kernel
theorem d_K_keep_47 : decode b_K_keep 47 = .ok (.iload 7, 2) := by decide +kernel
theorem d_K_keep_49 : decode b_K_keep 49 = .ok (.lload 4, 2) := by decide +kernel
theorem d_K_keep_51 : decode b_K_keep 51 = .ok (.lastore, 1) := by decide +kernel
theorem d_K_keep_52 : decode b_K_keep 52 = .ok (.aload_n 0, 1) := by decide +kernel
theorem d_K_keep_53 : decode b_K_keep 53 = .ok (.getfield 25, 3) := by decide +kernel
theorem d_K_keep_56 : decode b_K_keep 56 = .ok (.iload 7, 2) := by decide +kernel
theorem d_K_keep_58 : decode b_K_keep 58 = .ok (.iload 6, 2) := by decide +kernel
theorem d_K_keep_60 : decode b_K_keep 60 = .ok (.iastore, 1) := by decide +kernel
theorem d_K_keep_61 : decode b_K_keep 61 = .ok (.aload_n 0, 1) := by decide +kernel
theorem d_K_keep_62 : decode b_K_keep 62 = .ok (.dup, 1) := by decide +kernel
theorem d_K_keep_63 : decode b_K_keep 63 = .ok (.getfield 28, 3) := by decide +kernel
theorem d_K_keep_66 : decode b_K_keep 66 = .ok (.iconst 1, 1) := by decide +kernel
theorem d_K_keep_67 : decode b_K_keep 67 = .ok (.iadd, 1) := by decide +kernel
theorem d_K_keep_68 : decode b_K_keep 68 = .ok (.putfield 28, 3) := by decide +kernel
theorem d_K_keep_71 : decode b_K_keep 71 = .ok (.iload 7, 2) := by decide +kernel
theorem d_K_keep_73 : decode b_K_keep 73 = .ok (.ireturn, 1) := by decide +kernel
abbrev rm_K_keep : Room := { frames := 2, cells := 0, slots := 0, locals := 43 }
def jx_K_keep_13 (n : Nat) (v1 : Int32) (v2 : Int32) (v3 : Int32) (v4 : Int64) (v6 : Int32) (S : ZC) : Option (Int32 × ZC) :=
  (if zoob (kHe S) 100 then none else
    zlet (kTy' S (upd (kTy S) (kHe S).toNatClampNeg v1)) (fun S_4 =>
    (if zoob (kHe S) 100 then none else
    zlet (kNa' S_4 (upd (kNa S_4) (kHe S).toNatClampNeg v2)) (fun S_6 =>
    (if zoob (kHe S) 100 then none else
    zlet (kSz' S_6 (upd (kSz S_6) (kHe S).toNatClampNeg v3)) (fun S_8 =>
    (if zoob (kHe S) 100 then none else
    zlet (kCl' S_8 (vp_updL (kCl S_8) (kHe S).toNatClampNeg v4)) (fun S_10 =>
    (if zoob (kHe S) 100 then none else
    zlet (kOu' S_10 (upd (kOu S_10) (kHe S).toNatClampNeg v6)) (fun S_12 =>
    zlet (kHe' S_12 ((kHe S_12) + (1 : Int32))) (fun S_13 =>
    some ((kHe S), S_13))))))))))))

def fx_K_keep (n : Nat) (S : ZC) (a1 : Int32) (a2 : Int32) (a3 : Int32) (a4 : Int64) (a6 : Int32) : Option (Int32 × ZC) :=
  (if (kHe S) < (100 : Int32) then
  jx_K_keep_13 n a1 a2 a3 a4 a6 S
  else
  zbind1 (fx_K_letGoFirst n S) (fun S_2 =>
    jx_K_keep_13 n a1 a2 a3 a4 a6 S_2))

set_option maxRecDepth 100000 in
set_option maxHeartbeats 4000000 in
theorem k_K_keep (l : Launch) (z : zE) (A : Nat → Nat) (Rr : va_W) (n : Nat) (S : ZC) (a1 : Int32) (a2 : Int32) (a3 : Int32) (a4 : Int64) (a6 : Int32) (r0 : Int32) (S' : ZC) (h : fx_K_keep n S a1 a2 a3 a4 a6 = some (r0, S')) : zC z l y_K_keep w_K_keep rm_K_keep [.ref (A 4), .int a1, .int a2, .int a3, .long a4, .int a6] (cw z A S ++ Rr) (some (.int r0)) (cw z A S' ++ Rr) := by
  refine zz_of (by decide) (Nat.le_of_ble_eq_true rfl) ?_
  intro p e s m args below meth c A0 ls hM hr hlocks hA hP hD hl
  have hM : zM z p s m args c b_K_keep 8 R_K := hM
  obtain ⟨hx, hb, hml, hown, hts, hK, hN⟩ := id hM
  have hS : va_S A0 s.heap s.heap [] := va_S.rf
  have hl : lv_has ls 8 [(0, .ref (A 4)), (1, .int a1), (2, .int a2), (3, .int a3), (4, .long a4), (6, .int a6)] := hl
  have J13 : ∀ (v1 : Int32) (v2 : Int32) (v3 : Int32) (v4 : Int64) (v6 : Int32) (S : ZC), jx_K_keep_13 n v1 v2 v3 v4 v6 S = some (r0, S') → ∀ (H : Heap) (locs : List Loc) (ls : Array Slot), va_P z.1 vwCl (cw z A S ++ Rr) H → va_D A0 (cw z A S ++ Rr) → va_S A0 s.heap H locs → lv_has ls 8 [(0, .ref (A 4)), (1, .int v1), (2, .int v2), (3, .int v3), (4, .long v4), (6, .int v6)] → W p l e rm_K_keep s m args below meth c H locs 0 0 (zQ z below args s A0 (some (.int r0)) (cw z A S' ++ Rr)) (F0 m 13 ls []) := by
    intro v1 v2 v3 v4 v6 S h H locs ls hP hD hS hl
    unfold jx_K_keep_13 at h
    refine lv_aload_n hx hb d_K_keep_13 rfl (lv_at hl 0 rfl) ?_
    refine va_get (D := z.1) (ci := 4) (v := .int (kHe S)) (C := R_K) (T := F_K) (N := 6) hx hb hts i_K hown hK hP 4 rfl rfl 5 (by decide) (hts _ wq_134) (fun _ h9 => h9) rfl d_K_keep_14 ?_
    refine lv_istore (lv' := [(7, .int (kHe S)), (0, .ref (A 4)), (1, .int v1), (2, .int v2), (3, .int v3), (4, .long v4), (6, .int v6)]) hx hb d_K_keep_17 hl (by decide) rfl (fun ls hl => ?_)
    refine lv_aload_n hx hb d_K_keep_19 rfl (lv_at hl 1 rfl) ?_
    refine va_get (D := z.1) (ci := 4) (v := .ref (A 18)) (C := R_K) (T := F_K) (N := 6) hx hb hts i_K hown hK hP 4 rfl rfl 0 (by decide) (hts _ wq_128) (fun _ h9 => h9) rfl d_K_keep_20 ?_
    refine lv_iload hx hb d_K_keep_23 (lv_at hl 0 rfl) ?_
    refine lv_iload_n hx hb d_K_keep_25 rfl (lv_at hl 2 rfl) ?_
    obtain ⟨c_3, h⟩ := zz_oob h
    obtain ⟨S_4, e_4, h⟩ := zz_let h
    refine va_iast hx hb hK hP hD hS 18 0 rfl rfl c_3 d_K_keep_26 (fun H locs hP hD hS => ?_)
    have hP : va_P z.1 vwCl (cw z A S_4 ++ Rr) H := by rw [e_4]; exact hP
    have hD : va_D A0 (cw z A S_4 ++ Rr) := by rw [e_4]; exact hD
    refine lv_aload_n hx hb d_K_keep_27 rfl (lv_at hl 1 rfl) ?_
    refine va_get (D := z.1) (ci := 4) (v := .ref (A 19)) (C := R_K) (T := F_K) (N := 6) hx hb hts i_K hown hK hP 4 rfl rfl 1 (by decide) (hts _ wq_129) (fun _ h9 => h9) rfl d_K_keep_28 ?_
    refine lv_iload hx hb d_K_keep_31 (lv_at hl 0 rfl) ?_
    refine lv_iload_n hx hb d_K_keep_33 rfl (lv_at hl 3 rfl) ?_
    obtain ⟨c_5, h⟩ := zz_oob h
    obtain ⟨S_6, e_6, h⟩ := zz_let h
    refine va_iast hx hb hK hP hD hS 19 0 rfl rfl c_5 d_K_keep_34 (fun H locs hP hD hS => ?_)
    have hP : va_P z.1 vwCl (cw z A S_6 ++ Rr) H := by rw [e_6]; exact hP
    have hD : va_D A0 (cw z A S_6 ++ Rr) := by rw [e_6]; exact hD
    refine lv_aload_n hx hb d_K_keep_35 rfl (lv_at hl 1 rfl) ?_
    refine va_get (D := z.1) (ci := 4) (v := .ref (A 20)) (C := R_K) (T := F_K) (N := 6) hx hb hts i_K hown hK hP 4 rfl rfl 2 (by decide) (hts _ wq_130) (fun _ h9 => h9) rfl d_K_keep_36 ?_
    refine lv_iload hx hb d_K_keep_39 (lv_at hl 0 rfl) ?_
    refine lv_iload_n hx hb d_K_keep_41 rfl (lv_at hl 4 rfl) ?_
    obtain ⟨c_7, h⟩ := zz_oob h
    obtain ⟨S_8, e_8, h⟩ := zz_let h
    refine va_iast hx hb hK hP hD hS 20 0 rfl rfl c_7 d_K_keep_42 (fun H locs hP hD hS => ?_)
    have hP : va_P z.1 vwCl (cw z A S_8 ++ Rr) H := by rw [e_8]; exact hP
    have hD : va_D A0 (cw z A S_8 ++ Rr) := by rw [e_8]; exact hD
    refine lv_aload_n hx hb d_K_keep_43 rfl (lv_at hl 1 rfl) ?_
    refine va_get (D := z.1) (ci := 4) (v := .ref (A 21)) (C := R_K) (T := F_K) (N := 6) hx hb hts i_K hown hK hP 4 rfl rfl 3 (by decide) (hts _ wq_131) (fun _ h9 => h9) rfl d_K_keep_44 ?_
    refine lv_iload hx hb d_K_keep_47 (lv_at hl 0 rfl) ?_
    refine lv_lload hx hb d_K_keep_49 (lv_at hl 5 rfl) ?_
    obtain ⟨c_9, h⟩ := zz_oob h
    obtain ⟨S_10, e_10, h⟩ := zz_let h
    refine va_last hx hb hK hP hD hS 21 2 rfl rfl c_9 d_K_keep_51 (fun H locs hP hD hS => ?_)
    have hP : va_P z.1 vwCl (cw z A S_10 ++ Rr) H := by rw [e_10]; exact hP
    have hD : va_D A0 (cw z A S_10 ++ Rr) := by rw [e_10]; exact hD
    refine lv_aload_n hx hb d_K_keep_52 rfl (lv_at hl 1 rfl) ?_
    refine va_get (D := z.1) (ci := 4) (v := .ref (A 22)) (C := R_K) (T := F_K) (N := 6) hx hb hts i_K hown hK hP 4 rfl rfl 4 (by decide) (hts _ wq_132) (fun _ h9 => h9) rfl d_K_keep_53 ?_
    refine lv_iload hx hb d_K_keep_56 (lv_at hl 0 rfl) ?_
    refine lv_iload hx hb d_K_keep_58 (lv_at hl 6 rfl) ?_
    obtain ⟨c_11, h⟩ := zz_oob h
    obtain ⟨S_12, e_12, h⟩ := zz_let h
    refine va_iast hx hb hK hP hD hS 22 0 rfl rfl c_11 d_K_keep_60 (fun H locs hP hD hS => ?_)
    have hP : va_P z.1 vwCl (cw z A S_12 ++ Rr) H := by rw [e_12]; exact hP
    have hD : va_D A0 (cw z A S_12 ++ Rr) := by rw [e_12]; exact hD
    refine lv_aload_n hx hb d_K_keep_61 rfl (lv_at hl 1 rfl) ?_
    refine lv_dup hx hb d_K_keep_62 rfl ?_
    refine va_get (D := z.1) (ci := 4) (v := .int (kHe S_12)) (C := R_K) (T := F_K) (N := 6) hx hb hts i_K hown hK hP 4 rfl rfl 5 (by decide) (hts _ wq_134) (fun _ h9 => h9) rfl d_K_keep_63 ?_
    refine lv_iconst (v := 1) hx hb d_K_keep_66 (by decide) ?_
    refine lv_iadd hx hb d_K_keep_67 ?_
    obtain ⟨S_13, e_13, h⟩ := zz_let h
    refine va_put (D := z.1) (ci := 4) (v := .int ((kHe S_12) + (1 : Int32))) (ty := .int) (C := R_K) (T := F_K) (N := 6) hx hb hts i_K ty_K ty_K_ok n_K hown hK hP hD hS 4 rfl rfl 5 (by decide) (hts _ wq_134) (fun _ h9 => h9) rfl (by decide +kernel) rfl rfl (Nat.le_of_ble_eq_true rfl) d_K_keep_68 (fun H locs hP hD hS => ?_)
    have hP : va_P z.1 vwCl (cw z A S_13 ++ Rr) H := by rw [e_13]; exact hP
    have hD : va_D A0 (cw z A S_13 ++ Rr) := by rw [e_13]; exact hD
    refine lv_iload hx hb d_K_keep_71 (lv_at hl 0 rfl) ?_
    exact zz_iret (fun S => cw z A S ++ Rr) hx hb hr hlocks hP hD hS h d_K_keep_73
  unfold fx_K_keep at h
  refine lv_aload_n hx hb d_K_keep_0 rfl (lv_at hl 0 rfl) ?_
  refine va_get (D := z.1) (ci := 4) (v := .int (kHe S)) (C := R_K) (T := F_K) (N := 6) hx hb hts i_K hown hK hP 4 rfl rfl 5 (by decide) (hts _ wq_134) (fun _ h9 => h9) rfl d_K_keep_1 ?_
  refine lv_bipush (v := 100) hx hb d_K_keep_4 (by decide) ?_
  refine lv_icmp_lt (tgt := 13) hx hb d_K_keep_6 (by decide) (fun c_1 => ?_) (fun c_1 => ?_)
  · replace h := zz_t c_1 h
    exact J13 _ _ _ _ _ _ h _ _ _ hP hD hS hl
  · replace h := zz_f c_1 h
    refine lv_aload_n hx hb d_K_keep_9 rfl (lv_at hl 0 rfl) ?_
    obtain ⟨S_2, e_2, h⟩ := zz_bind1 h
    refine zz_goV (zz_runV (As := []) (rest := []) (k_K_letGoFirst l z A Rr n _ _ e_2) ⟨hx, hb, hml, hown, hts⟩ (cwV 0 hts (zz_gV wq_509 wq_511 wp_17 wq_5 wq_512) rfl rfl rfl (by decide +kernel) ⟨Nat.le_of_ble_eq_true rfl, Nat.le_of_ble_eq_true rfl⟩) hK hN hP hD (va_recv hK hP (ci := 4) (q0 := 4) rfl rfl) rfl hl.1 rfl (Nat.le_of_ble_eq_true rfl) d_K_keep_10 ⟨Nat.le_of_ble_eq_true rfl, Nat.le_of_ble_eq_true rfl⟩) hD hS hA (fun H locs hP hD hS => ?_)
    exact J13 _ _ _ _ _ _ h _ _ _ hP hD hS hl

abbrev b_K_letGoAll : ByteArray := prog_3_method_4_code
abbrev y_K_letGoAll : MethodName := ⟨"MemberChooser$KeptCalls", "letGoAll", "()V"⟩
abbrev w_K_letGoAll : List Cond := Cond.code y_K_letGoAll b_K_letGoAll 1 none :: zTb
theorem d_K_letGoAll_0 : decode b_K_letGoAll 0 = .ok (.aload_n 0, 1) := by decide +kernel
theorem d_K_letGoAll_1 : decode b_K_letGoAll 1 = .ok (.iconst 0, 1) := by decide +kernel
theorem d_K_letGoAll_2 : decode b_K_letGoAll 2 = .ok (.putfield 28, 3) := by decide +kernel
theorem d_K_letGoAll_5 : decode b_K_letGoAll 5 = .ok (.return_, 1) := by decide +kernel
abbrev rm_K_letGoAll : Room := { frames := 0, cells := 0, slots := 0, locals := 0 }
def fx_K_letGoAll (n : Nat) (S : ZC) : Option (ZC) :=
  zlet (kHe' S (0 : Int32)) (fun S_1 =>
  some S_1)

set_option maxRecDepth 100000 in
set_option maxHeartbeats 4000000 in
theorem k_K_letGoAll (l : Launch) (z : zE) (A : Nat → Nat) (Rr : va_W) (n : Nat) (S : ZC) (S' : ZC) (h : fx_K_letGoAll n S  = some S') : zC z l y_K_letGoAll w_K_letGoAll rm_K_letGoAll [.ref (A 4)] (cw z A S ++ Rr) none (cw z A S' ++ Rr) := by
  refine zz_of (by decide) (Nat.le_of_ble_eq_true rfl) ?_
  intro p e s m args below meth c A0 ls hM hr hlocks hA hP hD hl
  have hM : zM z p s m args c b_K_letGoAll 1 R_K := hM
  obtain ⟨hx, hb, hml, hown, hts, hK, hN⟩ := id hM
  have hS : va_S A0 s.heap s.heap [] := va_S.rf
  have hl : lv_has ls 1 [(0, .ref (A 4))] := hl
  unfold fx_K_letGoAll at h
  refine lv_aload_n hx hb d_K_letGoAll_0 rfl (lv_at hl 0 rfl) ?_
  refine lv_iconst (v := 0) hx hb d_K_letGoAll_1 (by decide) ?_
  obtain ⟨S_1, e_1, h⟩ := zz_let h
  refine va_put (D := z.1) (ci := 4) (v := .int (0 : Int32)) (ty := .int) (C := R_K) (T := F_K) (N := 6) hx hb hts i_K ty_K ty_K_ok n_K hown hK hP hD hS 4 rfl rfl 5 (by decide) (hts _ wq_134) (fun _ h9 => h9) rfl (by decide +kernel) rfl rfl (Nat.le_of_ble_eq_true rfl) d_K_letGoAll_2 (fun H locs hP hD hS => ?_)
  have hP : va_P z.1 vwCl (cw z A S_1 ++ Rr) H := by rw [e_1]; exact hP
  have hD : va_D A0 (cw z A S_1 ++ Rr) := by rw [e_1]; exact hD
  exact zz_vret (fun S => cw z A S ++ Rr) hx hb hr hlocks hP hD hS h d_K_letGoAll_5

abbrev b_K_letGoName : ByteArray := prog_3_method_5_code
abbrev y_K_letGoName : MethodName := ⟨"MemberChooser$KeptCalls", "letGoName", "(I)V"⟩
abbrev w_K_letGoName : List Cond := Cond.code y_K_letGoName b_K_letGoName 4 none :: zTb
theorem d_K_letGoName_0 : decode b_K_letGoName 0 = .ok (.iconst 0, 1) := by decide +kernel
theorem d_K_letGoName_1 : decode b_K_letGoName 1 = .ok (.istore_n 2, 1) := by decide +kernel
theorem d_K_letGoName_2 : decode b_K_letGoName 2 = .ok (.iconst 0, 1) := by decide +kernel
theorem d_K_letGoName_3 : decode b_K_letGoName 3 = .ok (.istore_n 3, 1) := by decide +kernel
theorem d_K_letGoName_4 : decode b_K_letGoName 4 = .ok (.iload_n 3, 1) := by decide +kernel
theorem d_K_letGoName_5 : decode b_K_letGoName 5 = .ok (.aload_n 0, 1) := by decide +kernel
theorem d_K_letGoName_6 : decode b_K_letGoName 6 = .ok (.getfield 28, 3) := by decide +kernel
theorem d_K_letGoName_9 : decode b_K_letGoName 9 = .ok (.if_icmp .ge 28, 3) := by decide +kernel
theorem d_K_letGoName_12 : decode b_K_letGoName 12 = .ok (.aload_n 0, 1) := by decide +kernel
theorem d_K_letGoName_13 : decode b_K_letGoName 13 = .ok (.getfield 15, 3) := by decide +kernel
theorem d_K_letGoName_16 : decode b_K_letGoName 16 = .ok (.iload_n 3, 1) := by decide +kernel
theorem d_K_letGoName_17 : decode b_K_letGoName 17 = .ok (.iaload, 1) := by decide +kernel
theorem d_K_letGoName_18 : decode b_K_letGoName 18 = .ok (.iload_n 1, 1) := by decide +kernel
theorem d_K_letGoName_19 : decode b_K_letGoName 19 = .ok (.if_icmp .eq 12, 3) := by decide +kernel
theorem d_K_letGoName_22 : decode b_K_letGoName 22 = .ok (.aload_n 0, 1) := by decide +kernel
theorem d_K_letGoName_23 : decode b_K_letGoName 23 = .ok (.iload_n 3, 1) := by decide +kernel
theorem d_K_letGoName_24 : decode b_K_letGoName 24 = .ok (.iload_n 2, 1) := by decide +kernel
theorem d_K_letGoName_25 : decode b_K_letGoName 25 = .ok (.invokevirtual 35, 3) := by decide +kernel
theorem d_K_letGoName_28 : decode b_K_letGoName 28 = .ok (.iinc 2 1, 3) := by decide +kernel
theorem d_K_letGoName_31 : decode b_K_letGoName 31 = .ok (.iinc 3 1, 3) := by decide +kernel
theorem d_K_letGoName_34 : decode b_K_letGoName 34 = .ok (.goto (-30), 3) := by decide +kernel
theorem d_K_letGoName_37 : decode b_K_letGoName 37 = .ok (.aload_n 0, 1) := by decide +kernel
theorem d_K_letGoName_38 : decode b_K_letGoName 38 = .ok (.iload_n 2, 1) := by decide +kernel
theorem d_K_letGoName_39 : decode b_K_letGoName 39 = .ok (.putfield 28, 3) := by decide +kernel
theorem d_K_letGoName_42 : decode b_K_letGoName 42 = .ok (.return_, 1) := by decide +kernel
abbrev rm_K_letGoName : Room := { frames := 1, cells := 0, slots := 0, locals := 22 }
def st_K_letGoName_L4 (n : Nat) (v1 : Int32) (v2 : Int32) (v3 : Int32) (S : ZC) : Option ((Int32 × Int32 × ZC) ⊕ (Nat × Int32 × Int32 × ZC)) :=
  (if (kHe S) ≤ v3 then
  some (.inr (37, v2, v3, S))
  else
  (if zoob v3 100 then none else
    (if ((kNa S) v3.toNatClampNeg) = v1 then
    some (.inl (v2, (v3 + (1 : Int32)), S))
    else
    zbind1 (fx_K_move n S v3 v2) (fun S_4 =>
      some (.inl ((v2 + (1 : Int32)), (v3 + (1 : Int32)), S_4))))))

def fx_K_letGoName_L4 (n : Nat) (v1 : Int32) (v2 : Int32) (v3 : Int32) (S : ZC) : Option (Nat × Int32 × Int32 × ZC) := zloop (fun (st : Int32 × Int32 × ZC) => st_K_letGoName_L4 n v1 st.1 st.2.1 st.2.2) n (v2, v3, S)

def fx_K_letGoName (n : Nat) (S : ZC) (a1 : Int32) : Option (ZC) :=
  zbL3 (fx_K_letGoName_L4 n a1 (0 : Int32) (0 : Int32) S) (fun x_5 v2_5 v3_5 S_5 =>
  if x_5 = 37 then
  zlet (kHe' S_5 v2_5) (fun S_6 =>
  some S_6)
  else none)

set_option maxRecDepth 100000 in
set_option maxHeartbeats 4000000 in
theorem lp_K_letGoName_L4 {z : zE} {A : Nat → Nat} {Rr : va_W} {p : Program} {l : Launch} {e : Env} {s : State} {m : MethodId} {args : Array Value} {below : List Frame} {meth : Method} {c : Code} {Q : State → Prop} {H0 : Heap} {A0 : Nat → Prop} (hM : zM z p s m args c b_K_letGoName 4 R_K) (hA : ∀ q : Nat, H0.size ≤ q → A0 q) (n : Nat) (v1 : Int32) :
    ∀ (v2 : Int32) (v3 : Int32) (S : ZC) (r : Nat × Int32 × Int32 × ZC), fx_K_letGoName_L4 n v1 v2 v3 S = some r → (∀ (H : Heap) (locs : List Loc) (ls : Array Slot), va_P z.1 vwCl (cw z A r.2.2.2 ++ Rr) H → va_D A0 (cw z A r.2.2.2 ++ Rr) → va_S A0 H0 H locs → lv_has ls 4 [(0, .ref (A 4)), (1, .int v1), (2, .int r.2.1), (3, .int r.2.2.1)] → W p l e rm_K_letGoName s m args below meth c H locs 0 0 Q (F0 m r.1 ls [])) →
    ∀ (H : Heap) (locs : List Loc) (ls : Array Slot), va_P z.1 vwCl (cw z A S ++ Rr) H → va_D A0 (cw z A S ++ Rr) → va_S A0 H0 H locs → lv_has ls 4 [(0, .ref (A 4)), (1, .int v1), (2, .int v2), (3, .int v3)] → W p l e rm_K_letGoName s m args below meth c H locs 0 0 Q (F0 m 4 ls []) := by
  obtain ⟨hx, hb, hml, hown, hts, hK, hN⟩ := id hM
  intro v2 v3 S r h hE
  refine zz_loop (G := fun (st : Int32 × Int32 × ZC) => ∀ (H : Heap) (locs : List Loc) (ls : Array Slot), va_P z.1 vwCl (cw z A st.2.2 ++ Rr) H → va_D A0 (cw z A st.2.2 ++ Rr) → va_S A0 H0 H locs → lv_has ls 4 [(0, .ref (A 4)), (1, .int v1), (2, .int st.1), (3, .int st.2.1)] → W p l e rm_K_letGoName s m args below meth c H locs 0 0 Q (F0 m 4 ls [])) (E := fun (r : Nat × Int32 × Int32 × ZC) => ∀ (H : Heap) (locs : List Loc) (ls : Array Slot), va_P z.1 vwCl (cw z A r.2.2.2 ++ Rr) H → va_D A0 (cw z A r.2.2.2 ++ Rr) → va_S A0 H0 H locs → lv_has ls 4 [(0, .ref (A 4)), (1, .int v1), (2, .int r.2.1), (3, .int r.2.2.1)] → W p l e rm_K_letGoName s m args below meth c H locs 0 0 Q (F0 m r.1 ls [])) ?_ n (v2, v3, S) r h hE
  clear h hE r v2 v3 S
  rintro ⟨v2, v3, S⟩ o h hG hE H locs ls hP hD hS hl
  have h : st_K_letGoName_L4 n v1 v2 v3 S = some o := h
  have hl : lv_has ls 4 [(0, .ref (A 4)), (1, .int v1), (2, .int v2), (3, .int v3)] := hl
  have hP : va_P z.1 vwCl (cw z A S ++ Rr) H := hP
  have hD : va_D A0 (cw z A S ++ Rr) := hD
  unfold st_K_letGoName_L4 at h
  refine lv_iload_n hx hb d_K_letGoName_4 rfl (lv_at hl 3 rfl) ?_
  refine lv_aload_n hx hb d_K_letGoName_5 rfl (lv_at hl 0 rfl) ?_
  refine va_get (D := z.1) (ci := 4) (v := .int (kHe S)) (C := R_K) (T := F_K) (N := 6) hx hb hts i_K hown hK hP 4 rfl rfl 5 (by decide) (hts _ wq_134) (fun _ h9 => h9) rfl d_K_letGoName_6 ?_
  refine lv_icmp_ge (tgt := 37) hx hb d_K_letGoName_9 (by decide) (fun c_1 => ?_) (fun c_1 => ?_)
  · replace h := zz_t c_1 h
    exact hE _ (Option.some.inj h).symm _ _ _ hP hD hS hl
  · replace h := zz_f c_1 h
    refine lv_aload_n hx hb d_K_letGoName_12 rfl (lv_at hl 0 rfl) ?_
    refine va_get (D := z.1) (ci := 4) (v := .ref (A 19)) (C := R_K) (T := F_K) (N := 6) hx hb hts i_K hown hK hP 4 rfl rfl 1 (by decide) (hts _ wq_129) (fun _ h9 => h9) rfl d_K_letGoName_13 ?_
    refine lv_iload_n hx hb d_K_letGoName_16 rfl (lv_at hl 3 rfl) ?_
    obtain ⟨c_2, h⟩ := zz_oob h
    refine va_iald hx hb hK hP 19 0 rfl rfl c_2 d_K_letGoName_17 ?_
    refine lv_iload_n hx hb d_K_letGoName_18 rfl (lv_at hl 1 rfl) ?_
    refine lv_icmp_eq (tgt := 31) hx hb d_K_letGoName_19 (by decide) (fun c_3 => ?_) (fun c_3 => ?_)
    · replace h := zz_t c_3 h
      refine lv_iinc (v := (v3 + (1 : Int32))) (lv' := [(3, .int (v3 + (1 : Int32))), (0, .ref (A 4)), (1, .int v1), (2, .int v2)]) hx hb d_K_letGoName_31 hl (k := 3) rfl rfl (by decide) rfl (fun ls hl => ?_)
      refine lv_goto (tgt := 4) hx hb d_K_letGoName_34 (by decide) ?_
      exact hG _ (Option.some.inj h).symm _ _ _ hP hD hS (lv_sub hl [1, 2, 3, 0] rfl)
    · replace h := zz_f c_3 h
      refine lv_aload_n hx hb d_K_letGoName_22 rfl (lv_at hl 0 rfl) ?_
      refine lv_iload_n hx hb d_K_letGoName_23 rfl (lv_at hl 3 rfl) ?_
      refine lv_iload_n hx hb d_K_letGoName_24 rfl (lv_at hl 2 rfl) ?_
      obtain ⟨S_4, e_4, h⟩ := zz_bind1 h
      refine zz_goV (zz_runV (As := [.int v3, .int v2]) (rest := []) (k_K_move l z A Rr n _ _ _ _ e_4) ⟨hx, hb, hml, hown, hts⟩ (cwV 2 hts (zz_gV wq_426 wq_428 wp_7 wq_5 wq_429) rfl rfl rfl (by decide +kernel) ⟨Nat.le_of_ble_eq_true rfl, Nat.le_of_ble_eq_true rfl⟩) hK hN hP hD (va_recv hK hP (ci := 4) (q0 := 4) rfl rfl) rfl hl.1 rfl (Nat.le_of_ble_eq_true rfl) d_K_letGoName_25 ⟨Nat.le_of_ble_eq_true rfl, Nat.le_of_ble_eq_true rfl⟩) hD hS hA (fun H locs hP hD hS => ?_)
      refine lv_iinc (v := (v2 + (1 : Int32))) (lv' := [(2, .int (v2 + (1 : Int32))), (0, .ref (A 4)), (1, .int v1), (3, .int v3)]) hx hb d_K_letGoName_28 hl (k := 2) rfl rfl (by decide) rfl (fun ls hl => ?_)
      refine lv_iinc (v := (v3 + (1 : Int32))) (lv' := [(3, .int (v3 + (1 : Int32))), (2, .int (v2 + (1 : Int32))), (0, .ref (A 4)), (1, .int v1)]) hx hb d_K_letGoName_31 hl (k := 3) rfl rfl (by decide) rfl (fun ls hl => ?_)
      refine lv_goto (tgt := 4) hx hb d_K_letGoName_34 (by decide) ?_
      exact hG _ (Option.some.inj h).symm _ _ _ hP hD hS (lv_sub hl [2, 3, 1, 0] rfl)

set_option maxRecDepth 100000 in
set_option maxHeartbeats 4000000 in
theorem k_K_letGoName (l : Launch) (z : zE) (A : Nat → Nat) (Rr : va_W) (n : Nat) (S : ZC) (a1 : Int32) (S' : ZC) (h : fx_K_letGoName n S a1 = some S') : zC z l y_K_letGoName w_K_letGoName rm_K_letGoName [.ref (A 4), .int a1] (cw z A S ++ Rr) none (cw z A S' ++ Rr) := by
  refine zz_of (by decide) (Nat.le_of_ble_eq_true rfl) ?_
  intro p e s m args below meth c A0 ls hM hr hlocks hA hP hD hl
  have hM : zM z p s m args c b_K_letGoName 4 R_K := hM
  obtain ⟨hx, hb, hml, hown, hts, hK, hN⟩ := id hM
  have hS : va_S A0 s.heap s.heap [] := va_S.rf
  have hl : lv_has ls 4 [(0, .ref (A 4)), (1, .int a1)] := hl
  unfold fx_K_letGoName at h
  refine lv_iconst (v := 0) hx hb d_K_letGoName_0 (by decide) ?_
  refine lv_istore_n (lv' := [(2, .int (0 : Int32)), (0, .ref (A 4)), (1, .int a1)]) hx hb d_K_letGoName_1 rfl hl (by decide) rfl (fun ls hl => ?_)
  refine lv_iconst (v := 0) hx hb d_K_letGoName_2 (by decide) ?_
  refine lv_istore_n (lv' := [(3, .int (0 : Int32)), (2, .int (0 : Int32)), (0, .ref (A 4)), (1, .int a1)]) hx hb d_K_letGoName_3 rfl hl (by decide) rfl (fun ls hl => ?_)
  replace h := zz_bL3 h
  obtain ⟨x_5, v2_5, v3_5, S_5, e_5, h⟩ := h
  refine lp_K_letGoName_L4 hM hA n a1 _ _ _ _ e_5 ?_ _ _ _ hP hD hS (lv_sub hl [2, 3, 1, 0] rfl)
  intro H locs ls hP hD hS hl
  have hl : lv_has ls 4 [(0, .ref (A 4)), (1, .int a1), (2, .int v2_5), (3, .int v3_5)] := hl
  have hP : va_P z.1 vwCl (cw z A S_5 ++ Rr) H := hP
  have hD : va_D A0 (cw z A S_5 ++ Rr) := hD
  replace h := zz_grd h
  obtain ⟨c_5, h⟩ := h
  subst c_5
  refine W.eq (g2 := F0 m 37 ls []) rfl ?_
  refine lv_aload_n hx hb d_K_letGoName_37 rfl (lv_at hl 0 rfl) ?_
  refine lv_iload_n hx hb d_K_letGoName_38 rfl (lv_at hl 2 rfl) ?_
  obtain ⟨S_6, e_6, h⟩ := zz_let h
  refine va_put (D := z.1) (ci := 4) (v := .int v2_5) (ty := .int) (C := R_K) (T := F_K) (N := 6) hx hb hts i_K ty_K ty_K_ok n_K hown hK hP hD hS 4 rfl rfl 5 (by decide) (hts _ wq_134) (fun _ h9 => h9) rfl (by decide +kernel) rfl rfl (Nat.le_of_ble_eq_true rfl) d_K_letGoName_39 (fun H locs hP hD hS => ?_)
  have hP : va_P z.1 vwCl (cw z A S_6 ++ Rr) H := by rw [e_6]; exact hP
  have hD : va_D A0 (cw z A S_6 ++ Rr) := by rw [e_6]; exact hD
  exact zz_vret (fun S => cw z A S ++ Rr) hx hb hr hlocks hP hD hS h d_K_letGoName_42

