abbrev b_H_choose : ByteArray := prog_2_method_3_code
abbrev y_H_choose : MethodName := ⟨"MemberChooser$Chooser", "choose", "(IIIJ)I"⟩
abbrev w_H_choose : List Cond := Cond.code y_H_choose b_H_choose 7 (some .int) :: zTb
theorem d_H_choose_0 : decode b_H_choose 0 = .ok (.aload_n 0, 1) := by decide +kernel
theorem d_H_choose_1 : decode b_H_choose 1 = .ok (.iload_n 1, 1) := by decide +kernel
theorem d_H_choose_2 : decode b_H_choose 2 = .ok (.iload_n 2, 1) := by decide +kernel
theorem d_H_choose_3 : decode b_H_choose 3 = .ok (.invokevirtual 43, 3) := by decide +kernel
theorem d_H_choose_6 : decode b_H_choose 6 = .ok (.iconst 1, 1) := by decide +kernel
theorem d_H_choose_7 : decode b_H_choose 7 = .ok (.istore 6, 2) := by decide +kernel
theorem d_H_choose_9 : decode b_H_choose 9 = .ok (.iload 6, 2) := by decide +kernel
theorem d_H_choose_11 : decode b_H_choose 11 = .ok (.iconst 3, 1) := by decide +kernel
theorem d_H_choose_12 : decode b_H_choose 12 = .ok (.if_icmp .gt 34, 3) := by decide +kernel
theorem d_H_choose_15 : decode b_H_choose 15 = .ok (.aload_n 0, 1) := by decide +kernel
theorem d_H_choose_16 : decode b_H_choose 16 = .ok (.iload 6, 2) := by decide +kernel
theorem d_H_choose_18 : decode b_H_choose 18 = .ok (.putfield 40, 3) := by decide +kernel
theorem d_H_choose_21 : decode b_H_choose 21 = .ok (.aload_n 0, 1) := by decide +kernel
theorem d_H_choose_22 : decode b_H_choose 22 = .ok (.iload_n 3, 1) := by decide +kernel
theorem d_H_choose_23 : decode b_H_choose 23 = .ok (.lload 4, 2) := by decide +kernel
theorem d_H_choose_25 : decode b_H_choose 25 = .ok (.invokevirtual 47, 3) := by decide +kernel
theorem d_H_choose_28 : decode b_H_choose 28 = .ok (.aload_n 0, 1) := by decide +kernel
theorem d_H_choose_29 : decode b_H_choose 29 = .ok (.getfield 37, 3) := by decide +kernel
theorem d_H_choose_32 : decode b_H_choose 32 = .ok (.ifCond .le 8, 3) := by decide +kernel
theorem d_H_choose_35 : decode b_H_choose 35 = .ok (.aload_n 0, 1) := by decide +kernel
theorem d_H_choose_36 : decode b_H_choose 36 = .ok (.invokevirtual 51, 3) := by decide +kernel
theorem d_H_choose_39 : decode b_H_choose 39 = .ok (.ireturn, 1) := by decide +kernel
theorem d_H_choose_40 : decode b_H_choose 40 = .ok (.iinc 6 1, 3) := by decide +kernel
theorem d_H_choose_43 : decode b_H_choose 43 = .ok (.goto (-34), 3) := by decide +kernel
theorem d_H_choose_46 : decode b_H_choose 46 = .ok (.aload_n 0, 1) := by decide +kernel
theorem d_H_choose_47 : decode b_H_choose 47 = .ok (.iconst 0, 1) := by decide +kernel
theorem d_H_choose_48 : decode b_H_choose 48 = .ok (.putfield 40, 3) := by decide +kernel
theorem d_H_choose_51 : decode b_H_choose 51 = .ok (.bipush (-3), 2) := by decide +kernel
theorem d_H_choose_53 : decode b_H_choose 53 = .ok (.ireturn, 1) := by decide +kernel
abbrev rm_H_choose : Room := { frames := 30, cells := 0, slots := 0, locals := 802 }
def st_H_choose_L9 (n : Nat) (v3 : Int32) (v4 : Int64) (v6 : Int32) (S : ZC) : Option ((Int32 × ZC) ⊕ (Nat × Int32 × ZC)) :=
  (if (3 : Int32) < v6 then
  some (.inr (46, v6, S))
  else
  zlet (hPh' S v6) (fun S_3 =>
    zbind1 (fx_H_gatherFitting n S_3 v3 v4) (fun S_4 =>
    (if (hFc S_4) ≤ 0 then
    some (.inl ((v6 + (1 : Int32)), S_4))
    else
    some (.inr (35, v6, S_4))))))

def fx_H_choose_L9 (n : Nat) (v3 : Int32) (v4 : Int64) (v6 : Int32) (S : ZC) : Option (Nat × Int32 × ZC) := zloop (fun (st : Int32 × ZC) => st_H_choose_L9 n v3 v4 st.1 st.2) n (v6, S)

def fx_H_choose (n : Nat) (S : ZC) (a1 : Int32) (a2 : Int32) (a3 : Int32) (a4 : Int64) : Option (Int32 × ZC) :=
  zbind1 (fx_H_gatherMeant n S a1 a2) (fun S_1 =>
  zbL2 (fx_H_choose_L9 n a3 a4 (1 : Int32) S_1) (fun x_6 v6_6 S_6 =>
  if x_6 = 35 then
  zbind (fx_H_mostSpecific n S_6) (fun r_7 S_7 =>
    some (r_7, S_7))
  else if x_6 = 46 then
  zlet (hPh' S_6 (0 : Int32)) (fun S_8 =>
  some ((-3 : Int32), S_8))
  else none))

set_option maxRecDepth 100000 in
set_option maxHeartbeats 4000000 in
theorem lp_H_choose_L9 {z : zE} {A : Nat → Nat} {Rr : va_W} {p : Program} {l : Launch} {e : Env} {s : State} {m : MethodId} {args : Array Value} {below : List Frame} {meth : Method} {c : Code} {Q : State → Prop} {H0 : Heap} {A0 : Nat → Prop} (hM : zM z p s m args c b_H_choose 7 R_H) (hA : ∀ q : Nat, H0.size ≤ q → A0 q) (n : Nat) (v3 : Int32) (v4 : Int64) :
    ∀ (v6 : Int32) (S : ZC) (r : Nat × Int32 × ZC), fx_H_choose_L9 n v3 v4 v6 S = some r → (∀ (H : Heap) (locs : List Loc) (ls : Array Slot), va_P z.1 vwCl (cw z A r.2.2 ++ Rr) H → va_D A0 (cw z A r.2.2 ++ Rr) → va_S A0 H0 H locs → lv_has ls 7 [(0, .ref (A 7)), (3, .int v3), (4, .long v4), (6, .int r.2.1)] → W p l e rm_H_choose s m args below meth c H locs 0 0 Q (F0 m r.1 ls [])) →
    ∀ (H : Heap) (locs : List Loc) (ls : Array Slot), va_P z.1 vwCl (cw z A S ++ Rr) H → va_D A0 (cw z A S ++ Rr) → va_S A0 H0 H locs → lv_has ls 7 [(0, .ref (A 7)), (3, .int v3), (4, .long v4), (6, .int v6)] → W p l e rm_H_choose s m args below meth c H locs 0 0 Q (F0 m 9 ls []) := by
  obtain ⟨hx, hb, hml, hown, hts, hK, hN⟩ := id hM
  intro v6 S r h hE
  refine zz_loop (G := fun (st : Int32 × ZC) => ∀ (H : Heap) (locs : List Loc) (ls : Array Slot), va_P z.1 vwCl (cw z A st.2 ++ Rr) H → va_D A0 (cw z A st.2 ++ Rr) → va_S A0 H0 H locs → lv_has ls 7 [(0, .ref (A 7)), (3, .int v3), (4, .long v4), (6, .int st.1)] → W p l e rm_H_choose s m args below meth c H locs 0 0 Q (F0 m 9 ls [])) (E := fun (r : Nat × Int32 × ZC) => ∀ (H : Heap) (locs : List Loc) (ls : Array Slot), va_P z.1 vwCl (cw z A r.2.2 ++ Rr) H → va_D A0 (cw z A r.2.2 ++ Rr) → va_S A0 H0 H locs → lv_has ls 7 [(0, .ref (A 7)), (3, .int v3), (4, .long v4), (6, .int r.2.1)] → W p l e rm_H_choose s m args below meth c H locs 0 0 Q (F0 m r.1 ls [])) ?_ n (v6, S) r h hE
  clear h hE r v6 S
  rintro ⟨v6, S⟩ o h hG hE H locs ls hP hD hS hl
  have h : st_H_choose_L9 n v3 v4 v6 S = some o := h
  have hl : lv_has ls 7 [(0, .ref (A 7)), (3, .int v3), (4, .long v4), (6, .int v6)] := hl
  have hP : va_P z.1 vwCl (cw z A S ++ Rr) H := hP
  have hD : va_D A0 (cw z A S ++ Rr) := hD
  unfold st_H_choose_L9 at h
  refine lv_iload hx hb d_H_choose_9 (lv_at hl 3 rfl) ?_
  refine lv_iconst (v := 3) hx hb d_H_choose_11 (by decide) ?_
  refine lv_icmp_gt (tgt := 46) hx hb d_H_choose_12 (by decide) (fun c_2 => ?_) (fun c_2 => ?_)
  · replace h := zz_t c_2 h
    exact hE _ (Option.some.inj h).symm _ _ _ hP hD hS hl
  · replace h := zz_f c_2 h
    refine lv_aload_n hx hb d_H_choose_15 rfl (lv_at hl 0 rfl) ?_
    refine lv_iload hx hb d_H_choose_16 (lv_at hl 3 rfl) ?_
    obtain ⟨S_3, e_3, h⟩ := zz_let h
    refine va_put (D := z.1) (ci := 3) (v := .int v6) (ty := .int) (C := R_H) (T := F_H) (N := 8) hx hb hts i_H ty_H ty_H_ok n_H hown hK hP hD hS 7 rfl rfl 7 (by decide) (hts _ wq_103) (fun _ h9 => h9) rfl (by decide +kernel) rfl rfl (Nat.le_of_ble_eq_true rfl) d_H_choose_18 (fun H locs hP hD hS => ?_)
    have hP : va_P z.1 vwCl (cw z A S_3 ++ Rr) H := by rw [e_3]; exact hP
    have hD : va_D A0 (cw z A S_3 ++ Rr) := by rw [e_3]; exact hD
    refine lv_aload_n hx hb d_H_choose_21 rfl (lv_at hl 0 rfl) ?_
    refine lv_iload_n hx hb d_H_choose_22 rfl (lv_at hl 1 rfl) ?_
    refine lv_lload hx hb d_H_choose_23 (lv_at hl 2 rfl) ?_
    obtain ⟨S_4, e_4, h⟩ := zz_bind1 h
    refine zz_goV (zz_runV (As := [.int v3, .long v4]) (rest := []) (k_H_gatherFitting l z A Rr n _ _ _ _ e_4) ⟨hx, hb, hml, hown, hts⟩ (cwV 2 hts (zz_gV wq_461 wq_463 wp_10 wq_4 wq_464) rfl rfl rfl (by decide +kernel) ⟨Nat.le_of_ble_eq_true rfl, Nat.le_of_ble_eq_true rfl⟩) hK hN hP hD (va_recv hK hP (ci := 3) (q0 := 7) rfl rfl) rfl hl.1 rfl (Nat.le_of_ble_eq_true rfl) d_H_choose_25 ⟨Nat.le_of_ble_eq_true rfl, Nat.le_of_ble_eq_true rfl⟩) hD hS hA (fun H locs hP hD hS => ?_)
    refine lv_aload_n hx hb d_H_choose_28 rfl (lv_at hl 0 rfl) ?_
    refine va_get (D := z.1) (ci := 3) (v := .int (hFc S_4)) (C := R_H) (T := F_H) (N := 8) hx hb hts i_H hown hK hP 7 rfl rfl 6 (by decide) (hts _ wq_102) (fun _ h9 => h9) rfl d_H_choose_29 ?_
    refine lv_if_le (tgt := 40) hx hb d_H_choose_32 (by decide) (fun c_5 => ?_) (fun c_5 => ?_)
    · replace h := zz_t c_5 h
      refine lv_iinc (v := (v6 + (1 : Int32))) (lv' := [(6, .int (v6 + (1 : Int32))), (0, .ref (A 7)), (3, .int v3), (4, .long v4)]) hx hb d_H_choose_40 hl (k := 3) rfl rfl (by decide) rfl (fun ls hl => ?_)
      refine lv_goto (tgt := 9) hx hb d_H_choose_43 (by decide) ?_
      exact hG _ (Option.some.inj h).symm _ _ _ hP hD hS (lv_sub hl [1, 2, 3, 0] rfl)
    · replace h := zz_f c_5 h
      exact hE _ (Option.some.inj h).symm _ _ _ hP hD hS hl

set_option maxRecDepth 100000 in
set_option maxHeartbeats 4000000 in
theorem k_H_choose (l : Launch) (z : zE) (A : Nat → Nat) (Rr : va_W) (n : Nat) (S : ZC) (a1 : Int32) (a2 : Int32) (a3 : Int32) (a4 : Int64) (r0 : Int32) (S' : ZC) (h : fx_H_choose n S a1 a2 a3 a4 = some (r0, S')) : zC z l y_H_choose w_H_choose rm_H_choose [.ref (A 7), .int a1, .int a2, .int a3, .long a4] (cw z A S ++ Rr) (some (.int r0)) (cw z A S' ++ Rr) := by
  refine zz_of (by decide) (Nat.le_of_ble_eq_true rfl) ?_
  intro p e s m args below meth c A0 ls hM hr hlocks hA hP hD hl
  have hM : zM z p s m args c b_H_choose 7 R_H := hM
  obtain ⟨hx, hb, hml, hown, hts, hK, hN⟩ := id hM
  have hS : va_S A0 s.heap s.heap [] := va_S.rf
  have hl : lv_has ls 7 [(0, .ref (A 7)), (1, .int a1), (2, .int a2), (3, .int a3), (4, .long a4)] := hl
  unfold fx_H_choose at h
  refine lv_aload_n hx hb d_H_choose_0 rfl (lv_at hl 0 rfl) ?_
  refine lv_iload_n hx hb d_H_choose_1 rfl (lv_at hl 1 rfl) ?_
  refine lv_iload_n hx hb d_H_choose_2 rfl (lv_at hl 2 rfl) ?_
  obtain ⟨S_1, e_1, h⟩ := zz_bind1 h
  refine zz_goV (zz_runV (As := [.int a1, .int a2]) (rest := []) (k_H_gatherMeant l z A Rr n _ _ _ _ e_1) ⟨hx, hb, hml, hown, hts⟩ (cwV 2 hts (zz_gV wq_220 wq_222 wp_2 wq_4 wq_223) rfl rfl rfl (by decide +kernel) ⟨Nat.le_of_ble_eq_true rfl, Nat.le_of_ble_eq_true rfl⟩) hK hN hP hD (va_recv hK hP (ci := 3) (q0 := 7) rfl rfl) rfl hl.1 rfl (Nat.le_of_ble_eq_true rfl) d_H_choose_3 ⟨Nat.le_of_ble_eq_true rfl, Nat.le_of_ble_eq_true rfl⟩) hD hS hA (fun H locs hP hD hS => ?_)
  refine lv_iconst (v := 1) hx hb d_H_choose_6 (by decide) ?_
  refine lv_istore (lv' := [(6, .int (1 : Int32)), (0, .ref (A 7)), (1, .int a1), (2, .int a2), (3, .int a3), (4, .long a4)]) hx hb d_H_choose_7 hl (by decide) rfl (fun ls hl => ?_)
  replace h := zz_bL2 h
  obtain ⟨x_6, v6_6, S_6, e_6, h⟩ := h
  refine lp_H_choose_L9 hM hA n a3 a4 _ _ _ e_6 ?_ _ _ _ hP hD hS (lv_sub hl [1, 4, 5, 0] rfl)
  intro H locs ls hP hD hS hl
  have hl : lv_has ls 7 [(0, .ref (A 7)), (3, .int a3), (4, .long a4), (6, .int v6_6)] := hl
  have hP : va_P z.1 vwCl (cw z A S_6 ++ Rr) H := hP
  have hD : va_D A0 (cw z A S_6 ++ Rr) := hD
  by_cases c_6 : x_6 = 35
  · replace h := zz_t c_6 h
    subst c_6
    refine W.eq (g2 := F0 m 35 ls []) rfl ?_
    refine lv_aload_n hx hb d_H_choose_35 rfl (lv_at hl 0 rfl) ?_
    obtain ⟨r_7, S_7, e_7, h⟩ := zz_bind h
    refine zz_goI (zz_runV (As := []) (rest := []) (k_H_mostSpecific l z A Rr n _ _ _ e_7) ⟨hx, hb, hml, hown, hts⟩ (cwV 0 hts (zz_gV wq_490 wq_492 wp_14 wq_4 wq_493) rfl rfl rfl (by decide +kernel) ⟨Nat.le_of_ble_eq_true rfl, Nat.le_of_ble_eq_true rfl⟩) hK hN hP hD (va_recv hK hP (ci := 3) (q0 := 7) rfl rfl) rfl hl.1 rfl (Nat.le_of_ble_eq_true rfl) d_H_choose_36 ⟨Nat.le_of_ble_eq_true rfl, Nat.le_of_ble_eq_true rfl⟩) hD hS hA (fun H locs hP hD hS => ?_)
    exact zz_iret (fun S => cw z A S ++ Rr) hx hb hr hlocks hP hD hS h d_H_choose_39
  replace h := zz_f c_6 h
  replace h := zz_grd h
  obtain ⟨c_6, h⟩ := h
  subst c_6
  refine W.eq (g2 := F0 m 46 ls []) rfl ?_
  refine lv_aload_n hx hb d_H_choose_46 rfl (lv_at hl 0 rfl) ?_
  refine lv_iconst (v := 0) hx hb d_H_choose_47 (by decide) ?_
  obtain ⟨S_8, e_8, h⟩ := zz_let h
  refine va_put (D := z.1) (ci := 3) (v := .int (0 : Int32)) (ty := .int) (C := R_H) (T := F_H) (N := 8) hx hb hts i_H ty_H ty_H_ok n_H hown hK hP hD hS 7 rfl rfl 7 (by decide) (hts _ wq_103) (fun _ h9 => h9) rfl (by decide +kernel) rfl rfl (Nat.le_of_ble_eq_true rfl) d_H_choose_48 (fun H locs hP hD hS => ?_)
  have hP : va_P z.1 vwCl (cw z A S_8 ++ Rr) H := by rw [e_8]; exact hP
  have hD : va_D A0 (cw z A S_8 ++ Rr) := by rw [e_8]; exact hD
  refine lv_bipush (v := -3) hx hb d_H_choose_51 (by decide) ?_
  exact zz_iret (fun S => cw z A S ++ Rr) hx hb hr hlocks hP hD hS h d_H_choose_53

abbrev b_X_look : ByteArray := prog_1_method_9_code
abbrev y_X_look : MethodName := ⟨"MemberChooser", "look", "(II)I"⟩
abbrev w_X_look : List Cond := Cond.code y_X_look b_X_look 3 (some .int) :: zTb
theorem d_X_look_0 : decode b_X_look 0 = .ok (.aload_n 0, 1) := by decide +kernel
theorem d_X_look_1 : decode b_X_look 1 = .ok (.getfield 19, 3) := by decide +kernel
theorem d_X_look_4 : decode b_X_look 4 = .ok (.iload_n 1, 1) := by decide +kernel
theorem d_X_look_5 : decode b_X_look 5 = .ok (.iload_n 2, 1) := by decide +kernel
theorem d_X_look_6 : decode b_X_look 6 = .ok (.invokevirtual 145, 3) := by decide +kernel
theorem d_X_look_9 : decode b_X_look 9 = .ok (.ireturn, 1) := by decide +kernel
abbrev rm_X_look : Room := { frames := 2, cells := 0, slots := 0, locals := 44 }
def fx_X_look (n : Nat) (S : ZC) (a1 : Int32) (a2 : Int32) : Option (Int32 × ZC) :=
  zbind (fx_M_tell n S a1 a2) (fun r_1 S_1 =>
  some (r_1, S_1))

set_option maxRecDepth 100000 in
set_option maxHeartbeats 4000000 in
theorem k_X_look (l : Launch) (z : zE) (A : Nat → Nat) (Rr : va_W) (n : Nat) (S : ZC) (a1 : Int32) (a2 : Int32) (r0 : Int32) (S' : ZC) (h : fx_X_look n S a1 a2 = some (r0, S')) : zC z l y_X_look w_X_look rm_X_look [.ref (A 0), .int a1, .int a2] (cw z A S ++ Rr) (some (.int r0)) (cw z A S' ++ Rr) := by
  refine zz_of (by decide) (Nat.le_of_ble_eq_true rfl) ?_
  intro p e s m args below meth c A0 ls hM hr hlocks hA hP hD hl
  have hM : zM z p s m args c b_X_look 3 R_X := hM
  obtain ⟨hx, hb, hml, hown, hts, hK, hN⟩ := id hM
  have hS : va_S A0 s.heap s.heap [] := va_S.rf
  have hl : lv_has ls 3 [(0, .ref (A 0)), (1, .int a1), (2, .int a2)] := hl
  unfold fx_X_look at h
  refine lv_aload_n hx hb d_X_look_0 rfl (lv_at hl 0 rfl) ?_
  refine va_get (D := z.1) (ci := 0) (v := .ref (A 11)) (C := R_X) (T := F_X) (N := 6) hx hb hts i_X hown hK hP 0 rfl rfl 1 (by decide) (hts _ wq_150) (fun _ h9 => h9) rfl d_X_look_1 ?_
  refine lv_iload_n hx hb d_X_look_4 rfl (lv_at hl 1 rfl) ?_
  refine lv_iload_n hx hb d_X_look_5 rfl (lv_at hl 2 rfl) ?_
  obtain ⟨r_1, S_1, e_1, h⟩ := zz_bind h
  refine zz_goI (zz_runV (As := [.int a1, .int a2]) (rest := []) (k_M_tell l z A Rr n _ _ _ _ _ e_1) ⟨hx, hb, hml, hown, hts⟩ (cwV 2 hts (zz_gV wq_251 wq_252 wq_253 wq_3 wq_254) rfl rfl rfl (by decide +kernel) ⟨Nat.le_of_ble_eq_true rfl, Nat.le_of_ble_eq_true rfl⟩) hK hN hP hD (va_recv hK hP (ci := 2) (q0 := 11) rfl rfl) rfl hl.1 rfl (Nat.le_of_ble_eq_true rfl) d_X_look_6 ⟨Nat.le_of_ble_eq_true rfl, Nat.le_of_ble_eq_true rfl⟩) hD hS hA (fun H locs hP hD hS => ?_)
  exact zz_iret (fun S => cw z A S ++ Rr) hx hb hr hlocks hP hD hS h d_X_look_9

abbrev b_X_above : ByteArray := prog_1_method_10_code
abbrev y_X_above : MethodName := ⟨"MemberChooser", "above", "(II)I"⟩
abbrev w_X_above : List Cond := Cond.code y_X_above b_X_above 3 (some .int) :: zTb
theorem d_X_above_0 : decode b_X_above 0 = .ok (.aload_n 0, 1) := by decide +kernel
theorem d_X_above_1 : decode b_X_above 1 = .ok (.getfield 10, 3) := by decide +kernel
theorem d_X_above_4 : decode b_X_above 4 = .ok (.iload_n 1, 1) := by decide +kernel
theorem d_X_above_5 : decode b_X_above 5 = .ok (.iload_n 2, 1) := by decide +kernel
theorem d_X_above_6 : decode b_X_above 6 = .ok (.invokevirtual 149, 3) := by decide +kernel
theorem d_X_above_9 : decode b_X_above 9 = .ok (.ireturn, 1) := by decide +kernel
abbrev rm_X_above : Room := { frames := 3, cells := 0, slots := 0, locals := 64 }
def fx_X_above (n : Nat) (S : ZC) (a1 : Int32) (a2 : Int32) : Option (Int32 × ZC) :=
  zbind (fx_T_tell n S a1 a2) (fun r_1 S_1 =>
  some (r_1, S_1))

set_option maxRecDepth 100000 in
set_option maxHeartbeats 4000000 in
theorem k_X_above (l : Launch) (z : zE) (A : Nat → Nat) (Rr : va_W) (n : Nat) (S : ZC) (a1 : Int32) (a2 : Int32) (r0 : Int32) (S' : ZC) (h : fx_X_above n S a1 a2 = some (r0, S')) : zC z l y_X_above w_X_above rm_X_above [.ref (A 0), .int a1, .int a2] (cw z A S ++ Rr) (some (.int r0)) (cw z A S' ++ Rr) := by
  refine zz_of (by decide) (Nat.le_of_ble_eq_true rfl) ?_
  intro p e s m args below meth c A0 ls hM hr hlocks hA hP hD hl
  have hM : zM z p s m args c b_X_above 3 R_X := hM
  obtain ⟨hx, hb, hml, hown, hts, hK, hN⟩ := id hM
  have hS : va_S A0 s.heap s.heap [] := va_S.rf
  have hl : lv_has ls 3 [(0, .ref (A 0)), (1, .int a1), (2, .int a2)] := hl
  unfold fx_X_above at h
  refine lv_aload_n hx hb d_X_above_0 rfl (lv_at hl 0 rfl) ?_
  refine va_get (D := z.1) (ci := 0) (v := .ref (A 17)) (C := R_X) (T := F_X) (N := 6) hx hb hts i_X hown hK hP 0 rfl rfl 0 (by decide) (hts _ wq_149) (fun _ h9 => h9) rfl d_X_above_1 ?_
  refine lv_iload_n hx hb d_X_above_4 rfl (lv_at hl 1 rfl) ?_
  refine lv_iload_n hx hb d_X_above_5 rfl (lv_at hl 2 rfl) ?_
  obtain ⟨r_1, S_1, e_1, h⟩ := zz_bind h
  refine zz_goI (zz_runV (As := [.int a1, .int a2]) (rest := []) (k_T_tell l z A Rr n _ _ _ _ _ e_1) ⟨hx, hb, hml, hown, hts⟩ (cwV 2 hts (zz_gV wq_263 wq_264 wq_265 wq_2 wq_266) rfl rfl rfl (by decide +kernel) ⟨Nat.le_of_ble_eq_true rfl, Nat.le_of_ble_eq_true rfl⟩) hK hN hP hD (va_recv hK hP (ci := 1) (q0 := 17) rfl rfl) rfl hl.1 rfl (Nat.le_of_ble_eq_true rfl) d_X_above_6 ⟨Nat.le_of_ble_eq_true rfl, Nat.le_of_ble_eq_true rfl⟩) hD hS hA (fun H locs hP hD hS => ?_)
  exact zz_iret (fun S => cw z A S ++ Rr) hx hb hr hlocks hP hD hS h d_X_above_9

abbrev b_X_count : ByteArray := prog_1_method_11_code
abbrev y_X_count : MethodName := ⟨"MemberChooser", "count", "(I)I"⟩
abbrev w_X_count : List Cond := Cond.code y_X_count b_X_count 2 (some .int) :: zTb
theorem d_X_count_0 : decode b_X_count 0 = .ok (.iload_n 1, 1) := by decide +kernel
theorem d_X_count_1 : decode b_X_count 1 = .ok (.tableswitch 81 0 5 #[39, 47, 55, 63, 68, 73], 39) := by decide +kernel
theorem d_X_count_40 : decode b_X_count 40 = .ok (.aload_n 0, 1) := by decide +kernel
theorem d_X_count_41 : decode b_X_count 41 = .ok (.getfield 10, 3) := by decide +kernel
theorem d_X_count_44 : decode b_X_count 44 = .ok (.getfield 150, 3) := by decide +kernel
theorem d_X_count_47 : decode b_X_count 47 = .ok (.ireturn, 1) := by decide +kernel
theorem d_X_count_48 : decode b_X_count 48 = .ok (.aload_n 0, 1) := by decide +kernel
theorem d_X_count_49 : decode b_X_count 49 = .ok (.getfield 19, 3) := by decide +kernel
theorem d_X_count_52 : decode b_X_count 52 = .ok (.getfield 153, 3) := by decide +kernel
theorem d_X_count_55 : decode b_X_count 55 = .ok (.ireturn, 1) := by decide +kernel
theorem d_X_count_56 : decode b_X_count 56 = .ok (.aload_n 0, 1) := by decide +kernel
theorem d_X_count_57 : decode b_X_count 57 = .ok (.getfield 35, 3) := by decide +kernel
theorem d_X_count_60 : decode b_X_count 60 = .ok (.getfield 154, 3) := by decide +kernel
theorem d_X_count_63 : decode b_X_count 63 = .ok (.ireturn, 1) := by decide +kernel
theorem d_X_count_64 : decode b_X_count 64 = .ok (.aload_n 0, 1) := by decide +kernel
theorem d_X_count_65 : decode b_X_count 65 = .ok (.getfield 39, 3) := by decide +kernel
theorem d_X_count_68 : decode b_X_count 68 = .ok (.ireturn, 1) := by decide +kernel
theorem d_X_count_69 : decode b_X_count 69 = .ok (.aload_n 0, 1) := by decide +kernel
theorem d_X_count_70 : decode b_X_count 70 = .ok (.getfield 43, 3) := by decide +kernel
theorem d_X_count_73 : decode b_X_count 73 = .ok (.ireturn, 1) := by decide +kernel
theorem d_X_count_74 : decode b_X_count 74 = .ok (.aload_n 0, 1) := by decide +kernel
theorem d_X_count_75 : decode b_X_count 75 = .ok (.getfield 28, 3) := by decide +kernel
theorem d_X_count_78 : decode b_X_count 78 = .ok (.getfield 157, 3) := by decide +kernel
theorem d_X_count_81 : decode b_X_count 81 = .ok (.ireturn, 1) := by decide +kernel
theorem d_X_count_82 : decode b_X_count 82 = .ok (.iconst (-1), 1) := by decide +kernel
theorem d_X_count_83 : decode b_X_count 83 = .ok (.ireturn, 1) := by decide +kernel
abbrev rm_X_count : Room := { frames := 0, cells := 0, slots := 0, locals := 0 }
def fx_X_count (n : Nat) (S : ZC) (a1 : Int32) : Option (Int32 × ZC) :=
  (if a1 = (0 : Int32) then
  some ((tTo S), S)
  else (if a1 = (1 : Int32) then
  some ((mTo S), S)
  else (if a1 = (2 : Int32) then
  some ((kHe S), S)
  else (if a1 = (3 : Int32) then
  some ((xWk S), S)
  else (if a1 = (4 : Int32) then
  some ((xFk S), S)
  else (if a1 = (5 : Int32) then
  some ((hPh S), S)
  else some ((-1 : Int32), S)))))))

set_option maxRecDepth 100000 in
set_option maxHeartbeats 4000000 in
theorem k_X_count (l : Launch) (z : zE) (A : Nat → Nat) (Rr : va_W) (n : Nat) (S : ZC) (a1 : Int32) (r0 : Int32) (S' : ZC) (h : fx_X_count n S a1 = some (r0, S')) : zC z l y_X_count w_X_count rm_X_count [.ref (A 0), .int a1] (cw z A S ++ Rr) (some (.int r0)) (cw z A S' ++ Rr) := by
  refine zz_of (by decide) (Nat.le_of_ble_eq_true rfl) ?_
  intro p e s m args below meth c A0 ls hM hr hlocks hA hP hD hl
  have hM : zM z p s m args c b_X_count 2 R_X := hM
  obtain ⟨hx, hb, hml, hown, hts, hK, hN⟩ := id hM
  have hS : va_S A0 s.heap s.heap [] := va_S.rf
  have hl : lv_has ls 2 [(0, .ref (A 0)), (1, .int a1)] := hl
  unfold fx_X_count at h
  refine lv_iload_n hx hb d_X_count_0 rfl (lv_at hl 1 rfl) ?_
  by_cases c_1 : a1 = (0 : Int32)
  · replace h := zz_t c_1 h
    refine lv_tableIn (tgt := 40) hx hb d_X_count_1 (by rw [c_1]; decide) (by rw [c_1]; decide) (by rw [c_1]; rfl) (by decide) ?_
    refine lv_aload_n hx hb d_X_count_40 rfl (lv_at hl 0 rfl) ?_
    refine va_get (D := z.1) (ci := 0) (v := .ref (A 17)) (C := R_X) (T := F_X) (N := 6) hx hb hts i_X hown hK hP 0 rfl rfl 0 (by decide) (hts _ wq_149) (fun _ h9 => h9) rfl d_X_count_41 ?_
    refine va_getN (D := z.1) (ci := 1) (v := .int (tTo S)) (C := R_T) (T := F_T) (N := 6) hx hb hts i_T hown hK hP 17 rfl rfl 5 (by decide) (zz_nf hN 1 rfl) (fun _ h9 => h9) rfl d_X_count_44 ?_
    exact zz_iret (fun S => cw z A S ++ Rr) hx hb hr hlocks hP hD hS h d_X_count_47
  replace h := zz_f c_1 h
  by_cases c_2 : a1 = (1 : Int32)
  · replace h := zz_t c_2 h
    refine lv_tableIn (tgt := 48) hx hb d_X_count_1 (by rw [c_2]; decide) (by rw [c_2]; decide) (by rw [c_2]; rfl) (by decide) ?_
    refine lv_aload_n hx hb d_X_count_48 rfl (lv_at hl 0 rfl) ?_
    refine va_get (D := z.1) (ci := 0) (v := .ref (A 11)) (C := R_X) (T := F_X) (N := 6) hx hb hts i_X hown hK hP 0 rfl rfl 1 (by decide) (hts _ wq_150) (fun _ h9 => h9) rfl d_X_count_49 ?_
    refine va_getN (D := z.1) (ci := 2) (v := .int (mTo S)) (C := R_M) (T := F_M) (N := 6) hx hb hts i_M hown hK hP 11 rfl rfl 5 (by decide) (zz_nf hN 2 rfl) (fun _ h9 => h9) rfl d_X_count_52 ?_
    exact zz_iret (fun S => cw z A S ++ Rr) hx hb hr hlocks hP hD hS h d_X_count_55
  replace h := zz_f c_2 h
  by_cases c_3 : a1 = (2 : Int32)
  · replace h := zz_t c_3 h
    refine lv_tableIn (tgt := 56) hx hb d_X_count_1 (by rw [c_3]; decide) (by rw [c_3]; decide) (by rw [c_3]; rfl) (by decide) ?_
    refine lv_aload_n hx hb d_X_count_56 rfl (lv_at hl 0 rfl) ?_
    refine va_get (D := z.1) (ci := 0) (v := .ref (A 1)) (C := R_X) (T := F_X) (N := 6) hx hb hts i_X hown hK hP 0 rfl rfl 3 (by decide) (hts _ wq_152) (fun _ h9 => h9) rfl d_X_count_57 ?_
    refine va_getN (D := z.1) (ci := 4) (v := .int (kHe S)) (C := R_K) (T := F_K) (N := 6) hx hb hts i_K hown hK hP 1 rfl rfl 5 (by decide) (zz_nf hN 3 rfl) (fun _ h9 => h9) rfl d_X_count_60 ?_
    exact zz_iret (fun S => cw z A S ++ Rr) hx hb hr hlocks hP hD hS h d_X_count_63
  replace h := zz_f c_3 h
  by_cases c_4 : a1 = (3 : Int32)
  · replace h := zz_t c_4 h
    refine lv_tableIn (tgt := 64) hx hb d_X_count_1 (by rw [c_4]; decide) (by rw [c_4]; decide) (by rw [c_4]; rfl) (by decide) ?_
    refine lv_aload_n hx hb d_X_count_64 rfl (lv_at hl 0 rfl) ?_
    refine va_get (D := z.1) (ci := 0) (v := .int (xWk S)) (C := R_X) (T := F_X) (N := 6) hx hb hts i_X hown hK hP 0 rfl rfl 4 (by decide) (hts _ wq_153) (fun _ h9 => h9) rfl d_X_count_65 ?_
    exact zz_iret (fun S => cw z A S ++ Rr) hx hb hr hlocks hP hD hS h d_X_count_68
  replace h := zz_f c_4 h
  by_cases c_5 : a1 = (4 : Int32)
  · replace h := zz_t c_5 h
    refine lv_tableIn (tgt := 69) hx hb d_X_count_1 (by rw [c_5]; decide) (by rw [c_5]; decide) (by rw [c_5]; rfl) (by decide) ?_
    refine lv_aload_n hx hb d_X_count_69 rfl (lv_at hl 0 rfl) ?_
    refine va_get (D := z.1) (ci := 0) (v := .int (xFk S)) (C := R_X) (T := F_X) (N := 6) hx hb hts i_X hown hK hP 0 rfl rfl 5 (by decide) (hts _ wq_154) (fun _ h9 => h9) rfl d_X_count_70 ?_
    exact zz_iret (fun S => cw z A S ++ Rr) hx hb hr hlocks hP hD hS h d_X_count_73
  replace h := zz_f c_5 h
  by_cases c_6 : a1 = (5 : Int32)
  · replace h := zz_t c_6 h
    refine lv_tableIn (tgt := 74) hx hb d_X_count_1 (by rw [c_6]; decide) (by rw [c_6]; decide) (by rw [c_6]; rfl) (by decide) ?_
    refine lv_aload_n hx hb d_X_count_74 rfl (lv_at hl 0 rfl) ?_
    refine va_get (D := z.1) (ci := 0) (v := .ref (A 7)) (C := R_X) (T := F_X) (N := 6) hx hb hts i_X hown hK hP 0 rfl rfl 2 (by decide) (hts _ wq_151) (fun _ h9 => h9) rfl d_X_count_75 ?_
    refine va_getN (D := z.1) (ci := 3) (v := .int (hPh S)) (C := R_H) (T := F_H) (N := 8) hx hb hts i_H hown hK hP 7 rfl rfl 7 (by decide) (zz_nf hN 4 rfl) (fun _ h9 => h9) rfl d_X_count_78 ?_
    exact zz_iret (fun S => cw z A S ++ Rr) hx hb hr hlocks hP hD hS h d_X_count_81
  replace h := zz_f c_6 h
  refine lv_tableOut (tgt := 82) hx hb d_X_count_1 (by have qc_1 := zz_tne (a := 0) (by decide) c_1; have qc_2 := zz_tne (a := 1) (by decide) c_2; have qc_3 := zz_tne (a := 2) (by decide) c_3; have qc_4 := zz_tne (a := 3) (by decide) c_4; have qc_5 := zz_tne (a := 4) (by decide) c_5; have qc_6 := zz_tne (a := 5) (by decide) c_6; omega) (by decide) ?_
  refine lv_iconst (v := -1) hx hb d_X_count_82 (by decide) ?_
  exact zz_iret (fun S => cw z A S ++ Rr) hx hb hr hlocks hP hD hS h d_X_count_83

