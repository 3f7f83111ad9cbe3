abbrev b_H_mostSpecific : ByteArray := prog_2_method_12_code
abbrev y_H_mostSpecific : MethodName := ⟨"MemberChooser$Chooser", "mostSpecific", "()I"⟩
abbrev w_H_mostSpecific : List Cond := Cond.code y_H_mostSpecific b_H_mostSpecific 3 (some .int) :: zTb
theorem d_H_mostSpecific_0 : decode b_H_mostSpecific 0 = .ok (.bipush (-2), 2) := by decide +kernel
theorem d_H_mostSpecific_2 : decode b_H_mostSpecific 2 = .ok (.istore_n 1, 1) := by decide +kernel
theorem d_H_mostSpecific_3 : decode b_H_mostSpecific 3 = .ok (.iconst 0, 1) := by decide +kernel
theorem d_H_mostSpecific_4 : decode b_H_mostSpecific 4 = .ok (.istore_n 2, 1) := by decide +kernel
theorem d_H_mostSpecific_5 : decode b_H_mostSpecific 5 = .ok (.iload_n 2, 1) := by decide +kernel
theorem d_H_mostSpecific_6 : decode b_H_mostSpecific 6 = .ok (.aload_n 0, 1) := by decide +kernel
theorem d_H_mostSpecific_7 : decode b_H_mostSpecific 7 = .ok (.getfield 37, 3) := by decide +kernel
theorem d_H_mostSpecific_10 : decode b_H_mostSpecific 10 = .ok (.if_icmp .ge 38, 3) := by decide +kernel
theorem d_H_mostSpecific_13 : decode b_H_mostSpecific 13 = .ok (.aload_n 0, 1) := by decide +kernel
theorem d_H_mostSpecific_14 : decode b_H_mostSpecific 14 = .ok (.aload_n 0, 1) := by decide +kernel
theorem d_H_mostSpecific_15 : decode b_H_mostSpecific 15 = .ok (.getfield 30, 3) := by decide +kernel
theorem d_H_mostSpecific_18 : decode b_H_mostSpecific 18 = .ok (.iload_n 2, 1) := by decide +kernel
theorem d_H_mostSpecific_19 : decode b_H_mostSpecific 19 = .ok (.iaload, 1) := by decide +kernel
theorem d_H_mostSpecific_20 : decode b_H_mostSpecific 20 = .ok (.invokevirtual 111, 3) := by decide +kernel
theorem d_H_mostSpecific_23 : decode b_H_mostSpecific 23 = .ok (.ifCond .eq 19, 3) := by decide +kernel
theorem d_H_mostSpecific_26 : decode b_H_mostSpecific 26 = .ok (.iload_n 1, 1) := by decide +kernel
theorem d_H_mostSpecific_27 : decode b_H_mostSpecific 27 = .ok (.bipush (-2), 2) := by decide +kernel
theorem d_H_mostSpecific_29 : decode b_H_mostSpecific 29 = .ok (.if_icmp .eq 6, 3) := by decide +kernel
theorem d_H_mostSpecific_32 : decode b_H_mostSpecific 32 = .ok (.bipush (-2), 2) := by decide +kernel
theorem d_H_mostSpecific_34 : decode b_H_mostSpecific 34 = .ok (.ireturn, 1) := by decide +kernel
theorem d_H_mostSpecific_35 : decode b_H_mostSpecific 35 = .ok (.aload_n 0, 1) := by decide +kernel
theorem d_H_mostSpecific_36 : decode b_H_mostSpecific 36 = .ok (.getfield 30, 3) := by decide +kernel
theorem d_H_mostSpecific_39 : decode b_H_mostSpecific 39 = .ok (.iload_n 2, 1) := by decide +kernel
theorem d_H_mostSpecific_40 : decode b_H_mostSpecific 40 = .ok (.iaload, 1) := by decide +kernel
theorem d_H_mostSpecific_41 : decode b_H_mostSpecific 41 = .ok (.istore_n 1, 1) := by decide +kernel
theorem d_H_mostSpecific_42 : decode b_H_mostSpecific 42 = .ok (.iinc 2 1, 3) := by decide +kernel
theorem d_H_mostSpecific_45 : decode b_H_mostSpecific 45 = .ok (.goto (-40), 3) := by decide +kernel
theorem d_H_mostSpecific_48 : decode b_H_mostSpecific 48 = .ok (.iload_n 1, 1) := by decide +kernel
theorem d_H_mostSpecific_49 : decode b_H_mostSpecific 49 = .ok (.ireturn, 1) := by decide +kernel
abbrev rm_H_mostSpecific : Room := { frames := 4, cells := 0, slots := 0, locals := 90 }
def st_H_mostSpecific_L5 (n : Nat)  (v1 : Int32) (v2 : Int32) (S : ZC) : Option ((Int32 × Int32 × ZC) ⊕ (Nat × Int32 × Int32 × ZC)) :=
  (if (hFc S) ≤ v2 then
  some (.inr (48, v1, v2, S))
  else
  (if zoob v2 80 then none else
    zbind (fx_H_isMoreSpecificThanAll n S ((hFi S) v2.toNatClampNeg)) (fun r_3 S_3 =>
    (if r_3 = 0 then
    some (.inl (v1, (v2 + (1 : Int32)), S_3))
    else
    (if v1 = (-2 : Int32) then
      (if zoob v2 80 then none else
        some (.inl (((hFi S_3) v2.toNatClampNeg), (v2 + (1 : Int32)), S_3)))
      else
      some (.inr (32, v1, v2, S_3)))))))

def fx_H_mostSpecific_L5 (n : Nat)  (v1 : Int32) (v2 : Int32) (S : ZC) : Option (Nat × Int32 × Int32 × ZC) := zloop (fun (st : Int32 × Int32 × ZC) => st_H_mostSpecific_L5 n st.1 st.2.1 st.2.2) n (v1, v2, S)

def fx_H_mostSpecific (n : Nat) (S : ZC) : Option (Int32 × ZC) :=
  zbL3 (fx_H_mostSpecific_L5 n (-2 : Int32) (0 : Int32) S) (fun x_7 v1_7 v2_7 S_7 =>
  if x_7 = 32 then
  some ((-2 : Int32), S_7)
  else if x_7 = 48 then
  some (v1_7, S_7)
  else none)

set_option maxRecDepth 100000 in
set_option maxHeartbeats 4000000 in
theorem lp_H_mostSpecific_L5 {z : zE} {A : Nat → Nat} {Rr : va_W} {p : Program} {l : Launch} {e : Env} {s : State} {m : MethodId} {args : Array Value} {below : List Frame} {meth : Method} {c : Code} {Q : State → Prop} {H0 : Heap} {A0 : Nat → Prop} (hM : zM z p s m args c b_H_mostSpecific 3 R_H) (hA : ∀ q : Nat, H0.size ≤ q → A0 q) (n : Nat) :
    ∀ (v1 : Int32) (v2 : Int32) (S : ZC) (r : Nat × Int32 × Int32 × ZC), fx_H_mostSpecific_L5 n v1 v2 S = some r → (∀ (H : Heap) (locs : List Loc) (ls : Array Slot), va_P z.1 vwCl (cw z A r.2.2.2 ++ Rr) H → va_D A0 (cw z A r.2.2.2 ++ Rr) → va_S A0 H0 H locs → lv_has ls 3 [(0, .ref (A 3)), (1, .int r.2.1), (2, .int r.2.2.1)] → W p l e rm_H_mostSpecific s m args below meth c H locs 0 0 Q (F0 m r.1 ls [])) →
    ∀ (H : Heap) (locs : List Loc) (ls : Array Slot), va_P z.1 vwCl (cw z A S ++ Rr) H → va_D A0 (cw z A S ++ Rr) → va_S A0 H0 H locs → lv_has ls 3 [(0, .ref (A 3)), (1, .int v1), (2, .int v2)] → W p l e rm_H_mostSpecific s m args below meth c H locs 0 0 Q (F0 m 5 ls []) := by
  obtain ⟨hx, hb, hml, hown, hts, hK, hN⟩ := id hM
  intro v1 v2 S r h hE
  refine zz_loop (G := fun (st : Int32 × Int32 × ZC) => ∀ (H : Heap) (locs : List Loc) (ls : Array Slot), va_P z.1 vwCl (cw z A st.2.2 ++ Rr) H → va_D A0 (cw z A st.2.2 ++ Rr) → va_S A0 H0 H locs → lv_has ls 3 [(0, .ref (A 3)), (1, .int st.1), (2, .int st.2.1)] → W p l e rm_H_mostSpecific s m args below meth c H locs 0 0 Q (F0 m 5 ls [])) (E := fun (r : Nat × Int32 × Int32 × ZC) => ∀ (H : Heap) (locs : List Loc) (ls : Array Slot), va_P z.1 vwCl (cw z A r.2.2.2 ++ Rr) H → va_D A0 (cw z A r.2.2.2 ++ Rr) → va_S A0 H0 H locs → lv_has ls 3 [(0, .ref (A 3)), (1, .int r.2.1), (2, .int r.2.2.1)] → W p l e rm_H_mostSpecific s m args below meth c H locs 0 0 Q (F0 m r.1 ls [])) ?_ n (v1, v2, S) r h hE
  clear h hE r v1 v2 S
  rintro ⟨v1, v2, S⟩ o h hG hE H locs ls hP hD hS hl
  have h : st_H_mostSpecific_L5 n v1 v2 S = some o := h
  have hl : lv_has ls 3 [(0, .ref (A 3)), (1, .int v1), (2, .int v2)] := hl
  have hP : va_P z.1 vwCl (cw z A S ++ Rr) H := hP
  have hD : va_D A0 (cw z A S ++ Rr) := hD
  unfold st_H_mostSpecific_L5 at h
  refine lv_iload_n hx hb d_H_mostSpecific_5 rfl (lv_at hl 2 rfl) ?_
  refine lv_aload_n hx hb d_H_mostSpecific_6 rfl (lv_at hl 0 rfl) ?_
  refine va_get (D := z.1) (ci := 3) (v := .int (hFc S)) (C := R_H) (T := F_H) (N := 8) hx hb hts i_H hown hK hP 3 rfl rfl 6 (by decide) (hts _ wq_102) (fun _ h9 => h9) rfl d_H_mostSpecific_7 ?_
  refine lv_icmp_ge (tgt := 48) hx hb d_H_mostSpecific_10 (by decide) (fun c_1 => ?_) (fun c_1 => ?_)
  · replace h := zz_t c_1 h
    exact hE _ (Option.some.inj h).symm _ _ _ hP hD hS hl
  · replace h := zz_f c_1 h
    refine lv_aload_n hx hb d_H_mostSpecific_13 rfl (lv_at hl 0 rfl) ?_
    refine lv_aload_n hx hb d_H_mostSpecific_14 rfl (lv_at hl 0 rfl) ?_
    refine va_get (D := z.1) (ci := 3) (v := .ref (A 17)) (C := R_H) (T := F_H) (N := 8) hx hb hts i_H hown hK hP 3 rfl rfl 4 (by decide) (hts _ wq_100) (fun _ h9 => h9) rfl d_H_mostSpecific_15 ?_
    refine lv_iload_n hx hb d_H_mostSpecific_18 rfl (lv_at hl 2 rfl) ?_
    obtain ⟨c_2, h⟩ := zz_oob h
    refine va_iald hx hb hK hP 17 0 rfl rfl c_2 d_H_mostSpecific_19 ?_
    obtain ⟨r_3, S_3, e_3, h⟩ := zz_bind h
    refine zz_goI (zz_runV (As := [.int ((hFi S) v2.toNatClampNeg)]) (rest := []) (k_H_isMoreSpecificThanAll l z A Rr n _ _ _ _ e_3) ⟨hx, hb, hml, hown, hts⟩ (cwV 1 hts (zz_gV wq_494 wq_496 wp_15 wq_4 wq_497) rfl rfl rfl (by decide +kernel) ⟨Nat.le_of_ble_eq_true rfl, Nat.le_of_ble_eq_true rfl⟩) hK hN hP hD (va_recv hK hP (ci := 3) (q0 := 3) rfl rfl) rfl hl.1 rfl (Nat.le_of_ble_eq_true rfl) d_H_mostSpecific_20 ⟨Nat.le_of_ble_eq_true rfl, Nat.le_of_ble_eq_true rfl⟩) hD hS hA (fun H locs hP hD hS => ?_)
    refine lv_if_eq (tgt := 42) hx hb d_H_mostSpecific_23 (by decide) (fun c_4 => ?_) (fun c_4 => ?_)
    · replace h := zz_t c_4 h
      refine lv_iinc (v := (v2 + (1 : Int32))) (lv' := [(2, .int (v2 + (1 : Int32))), (0, .ref (A 3)), (1, .int v1)]) hx hb d_H_mostSpecific_42 hl (k := 2) rfl rfl (by decide) rfl (fun ls hl => ?_)
      refine lv_goto (tgt := 5) hx hb d_H_mostSpecific_45 (by decide) ?_
      exact hG _ (Option.some.inj h).symm _ _ _ hP hD hS (lv_sub hl [1, 2, 0] rfl)
    · replace h := zz_f c_4 h
      refine lv_iload_n hx hb d_H_mostSpecific_26 rfl (lv_at hl 1 rfl) ?_
      refine lv_bipush (v := -2) hx hb d_H_mostSpecific_27 (by decide) ?_
      refine lv_icmp_eq (tgt := 35) hx hb d_H_mostSpecific_29 (by decide) (fun c_5 => ?_) (fun c_5 => ?_)
      · replace h := zz_t c_5 h
        refine lv_aload_n hx hb d_H_mostSpecific_35 rfl (lv_at hl 0 rfl) ?_
        refine va_get (D := z.1) (ci := 3) (v := .ref (A 17)) (C := R_H) (T := F_H) (N := 8) hx hb hts i_H hown hK hP 3 rfl rfl 4 (by decide) (hts _ wq_100) (fun _ h9 => h9) rfl d_H_mostSpecific_36 ?_
        refine lv_iload_n hx hb d_H_mostSpecific_39 rfl (lv_at hl 2 rfl) ?_
        obtain ⟨c_6, h⟩ := zz_oob h
        refine va_iald hx hb hK hP 17 0 rfl rfl c_6 d_H_mostSpecific_40 ?_
        refine lv_istore_n (lv' := [(1, .int ((hFi S_3) v2.toNatClampNeg)), (0, .ref (A 3)), (2, .int v2)]) hx hb d_H_mostSpecific_41 rfl hl (by decide) rfl (fun ls hl => ?_)
        refine lv_iinc (v := (v2 + (1 : Int32))) (lv' := [(2, .int (v2 + (1 : Int32))), (1, .int ((hFi S_3) v2.toNatClampNeg)), (0, .ref (A 3))]) hx hb d_H_mostSpecific_42 hl (k := 2) rfl rfl (by decide) rfl (fun ls hl => ?_)
        refine lv_goto (tgt := 5) hx hb d_H_mostSpecific_45 (by decide) ?_
        exact hG _ (Option.some.inj h).symm _ _ _ hP hD hS (lv_sub hl [2, 1, 0] rfl)
      · replace h := zz_f c_5 h
        exact hE _ (Option.some.inj h).symm _ _ _ hP hD hS hl

set_option maxRecDepth 100000 in
set_option maxHeartbeats 4000000 in
theorem k_H_mostSpecific (l : Launch) (z : zE) (A : Nat → Nat) (Rr : va_W) (n : Nat) (S : ZC) (r0 : Int32) (S' : ZC) (h : fx_H_mostSpecific n S  = some (r0, S')) : zC z l y_H_mostSpecific w_H_mostSpecific rm_H_mostSpecific [.ref (A 3)] (cw z A S ++ Rr) (some (.int r0)) (cw z A S' ++ Rr) := by
  refine zz_of (by decide) (Nat.le_of_ble_eq_true rfl) ?_
  intro p e s m args below meth c A0 ls hM hr hlocks hA hP hD hl
  have hM : zM z p s m args c b_H_mostSpecific 3 R_H := hM
  obtain ⟨hx, hb, hml, hown, hts, hK, hN⟩ := id hM
  have hS : va_S A0 s.heap s.heap [] := va_S.rf
  have hl : lv_has ls 3 [(0, .ref (A 3))] := hl
  unfold fx_H_mostSpecific at h
  refine lv_bipush (v := -2) hx hb d_H_mostSpecific_0 (by decide) ?_
  refine lv_istore_n (lv' := [(1, .int (-2 : Int32)), (0, .ref (A 3))]) hx hb d_H_mostSpecific_2 rfl hl (by decide) rfl (fun ls hl => ?_)
  refine lv_iconst (v := 0) hx hb d_H_mostSpecific_3 (by decide) ?_
  refine lv_istore_n (lv' := [(2, .int (0 : Int32)), (1, .int (-2 : Int32)), (0, .ref (A 3))]) hx hb d_H_mostSpecific_4 rfl hl (by decide) rfl (fun ls hl => ?_)
  replace h := zz_bL3 h
  obtain ⟨x_7, v1_7, v2_7, S_7, e_7, h⟩ := h
  refine lp_H_mostSpecific_L5 hM hA n _ _ _ _ e_7 ?_ _ _ _ hP hD hS (lv_sub hl [2, 1, 0] rfl)
  intro H locs ls hP hD hS hl
  have hl : lv_has ls 3 [(0, .ref (A 3)), (1, .int v1_7), (2, .int v2_7)] := hl
  have hP : va_P z.1 vwCl (cw z A S_7 ++ Rr) H := hP
  have hD : va_D A0 (cw z A S_7 ++ Rr) := hD
  by_cases c_7 : x_7 = 32
  · replace h := zz_t c_7 h
    subst c_7
    refine W.eq (g2 := F0 m 32 ls []) rfl ?_
    refine lv_bipush (v := -2) hx hb d_H_mostSpecific_32 (by decide) ?_
    exact zz_iret (fun S => cw z A S ++ Rr) hx hb hr hlocks hP hD hS h d_H_mostSpecific_34
  replace h := zz_f c_7 h
  replace h := zz_grd h
  obtain ⟨c_7, h⟩ := h
  subst c_7
  refine W.eq (g2 := F0 m 48 ls []) rfl ?_
  refine lv_iload_n hx hb d_H_mostSpecific_48 rfl (lv_at hl 1 rfl) ?_
  exact zz_iret (fun S => cw z A S ++ Rr) hx hb hr hlocks hP hD hS h d_H_mostSpecific_49

abbrev b_H_choose : ByteArray := prog_2_method_3_code
abbrev y_H_choose : MethodName := ⟨"MemberChooser$Chooser", "choose", "(IIIJ)I"⟩
abbrev w_H_choose : List Cond := Cond.code y_H_choose b_H_choose 7 (some .int) :: zTb
theorem d_H_choose_0 : decode b_H_choose 0 = .ok (.aload_n 0, 1) := by decide +kernel
theorem d_H_choose_1 : decode b_H_choose 1 = .ok (.iload_n 1, 1) := by decide +kernel
theorem d_H_choose_2 : decode b_H_choose 2 = .ok (.iload_n 2, 1) := by decide +kernel
theorem d_H_choose_3 : decode b_H_choose 3 = .ok (.invokevirtual 43, 3) := by decide +kernel
theorem d_H_choose_6 : decode b_H_choose 6 = .ok (.iconst 1, 1) := by decide +kernel
theorem d_H_choose_7 : decode b_H_choose 7 = .ok (.istore 6, 2) := by decide +kernel
theorem d_H_choose_9 : decode b_H_choose 9 = .ok (.iload 6, 2) := by decide +kernel
theorem d_H_choose_11 : decode b_H_choose 11 = .ok (.iconst 3, 1) := by decide +kernel
theorem d_H_choose_12 : decode b_H_choose 12 = .ok (.if_icmp .gt 34, 3) := by decide +kernel
theorem d_H_choose_15 : decode b_H_choose 15 = .ok (.aload_n 0, 1) := by decide +kernel
theorem d_H_choose_16 : decode b_H_choose 16 = .ok (.iload 6, 2) := by decide +kernel
theorem d_H_choose_18 : decode b_H_choose 18 = .ok (.putfield 40, 3) := by decide +kernel
theorem d_H_choose_21 : decode b_H_choose 21 = .ok (.aload_n 0, 1) := by decide +kernel
theorem d_H_choose_22 : decode b_H_choose 22 = .ok (.iload_n 3, 1) := by decide +kernel
theorem d_H_choose_23 : decode b_H_choose 23 = .ok (.lload 4, 2) := by decide +kernel
theorem d_H_choose_25 : decode b_H_choose 25 = .ok (.invokevirtual 47, 3) := by decide +kernel
theorem d_H_choose_28 : decode b_H_choose 28 = .ok (.aload_n 0, 1) := by decide +kernel
theorem d_H_choose_29 : decode b_H_choose 29 = .ok (.getfield 37, 3) := by decide +kernel
theorem d_H_choose_32 : decode b_H_choose 32 = .ok (.ifCond .le 8, 3) := by decide +kernel
theorem d_H_choose_35 : decode b_H_choose 35 = .ok (.aload_n 0, 1) := by decide +kernel
theorem d_H_choose_36 : decode b_H_choose 36 = .ok (.invokevirtual 51, 3) := by decide +kernel
theorem d_H_choose_39 : decode b_H_choose 39 = .ok (.ireturn, 1) := by decide +kernel
theorem d_H_choose_40 : decode b_H_choose 40 = .ok (.iinc 6 1, 3) := by decide +kernel
theorem d_H_choose_43 : decode b_H_choose 43 = .ok (.goto (-34), 3) := by decide +kernel
theorem d_H_choose_46 : decode b_H_choose 46 = .ok (.aload_n 0, 1) := by decide +kernel
theorem d_H_choose_47 : decode b_H_choose 47 = .ok (.iconst 0, 1) := by decide +kernel
theorem d_H_choose_48 : decode b_H_choose 48 = .ok (.putfield 40, 3) := by decide +kernel
theorem d_H_choose_51 : decode b_H_choose 51 = .ok (.bipush (-3), 2) := by decide +kernel
theorem d_H_choose_53 : decode b_H_choose 53 = .ok (.ireturn, 1) := by decide +kernel
abbrev rm_H_choose : Room := { frames := 30, cells := 0, slots := 0, locals := 802 }
def st_H_choose_L9 (n : Nat) (v3 : Int32) (v4 : Int64) (v6 : Int32) (S : ZC) : Option ((Int32 × ZC) ⊕ (Nat × Int32 × ZC)) :=
  (if (3 : Int32) < v6 then
  some (.inr (46, v6, S))
  else
  zlet (hPh' S v6) (fun S_3 =>
    zbind1 (fx_H_gatherFitting n S_3 v3 v4) (fun S_4 =>
    (if (hFc S_4) ≤ 0 then
    some (.inl ((v6 + (1 : Int32)), S_4))
    else
    some (.inr (35, v6, S_4))))))

def fx_H_choose_L9 (n : Nat) (v3 : Int32) (v4 : Int64) (v6 : Int32) (S : ZC) : Option (Nat × Int32 × ZC) := zloop (fun (st : Int32 × ZC) => st_H_choose_L9 n v3 v4 st.1 st.2) n (v6, S)

def fx_H_choose (n : Nat) (S : ZC) (a1 : Int32) (a2 : Int32) (a3 : Int32) (a4 : Int64) : Option (Int32 × ZC) :=
  zbind1 (fx_H_gatherMeant n S a1 a2) (fun S_1 =>
  zbL2 (fx_H_choose_L9 n a3 a4 (1 : Int32) S_1) (fun x_6 v6_6 S_6 =>
  if x_6 = 35 then
  zbind (fx_H_mostSpecific n S_6) (fun r_7 S_7 =>
    some (r_7, S_7))
  else if x_6 = 46 then
  zlet (hPh' S_6 (0 : Int32)) (fun S_8 =>
  some ((-3 : Int32), S_8))
  else none))

set_option maxRecDepth 100000 in
set_option maxHeartbeats 4000000 in
theorem lp_H_choose_L9 {z : zE} {A : Nat → Nat} {Rr : va_W} {p : Program} {l : Launch} {e : Env} {s : State} {m : MethodId} {args : Array Value} {below : List Frame} {meth : Method} {c : Code} {Q : State → Prop} {H0 : Heap} {A0 : Nat → Prop} (hM : zM z p s m args c b_H_choose 7 R_H) (hA : ∀ q : Nat, H0.size ≤ q → A0 q) (n : Nat) (v3 : Int32) (v4 : Int64) :
    ∀ (v6 : Int32) (S : ZC) (r : Nat × Int32 × ZC), fx_H_choose_L9 n v3 v4 v6 S = some r → (∀ (H : Heap) (locs : List Loc) (ls : Array Slot), va_P z.1 vwCl (cw z A r.2.2 ++ Rr) H → va_D A0 (cw z A r.2.2 ++ Rr) → va_S A0 H0 H locs → lv_has ls 7 [(0, .ref (A 3)), (3, .int v3), (4, .long v4), (6, .int r.2.1)] → W p l e rm_H_choose s m args below meth c H locs 0 0 Q (F0 m r.1 ls [])) →
    ∀ (H : Heap) (locs : List Loc) (ls : Array Slot), va_P z.1 vwCl (cw z A S ++ Rr) H → va_D A0 (cw z A S ++ Rr) → va_S A0 H0 H locs → lv_has ls 7 [(0, .ref (A 3)), (3, .int v3), (4, .long v4), (6, .int v6)] → W p l e rm_H_choose s m args below meth c H locs 0 0 Q (F0 m 9 ls []) := by
  obtain ⟨hx, hb, hml, hown, hts, hK, hN⟩ := id hM
  intro v6 S r h hE
  refine zz_loop (G := fun (st : Int32 × ZC) => ∀ (H : Heap) (locs : List Loc) (ls : Array Slot), va_P z.1 vwCl (cw z A st.2 ++ Rr) H → va_D A0 (cw z A st.2 ++ Rr) → va_S A0 H0 H locs → lv_has ls 7 [(0, .ref (A 3)), (3, .int v3), (4, .long v4), (6, .int st.1)] → W p l e rm_H_choose s m args below meth c H locs 0 0 Q (F0 m 9 ls [])) (E := fun (r : Nat × Int32 × ZC) => ∀ (H : Heap) (locs : List Loc) (ls : Array Slot), va_P z.1 vwCl (cw z A r.2.2 ++ Rr) H → va_D A0 (cw z A r.2.2 ++ Rr) → va_S A0 H0 H locs → lv_has ls 7 [(0, .ref (A 3)), (3, .int v3), (4, .long v4), (6, .int r.2.1)] → W p l e rm_H_choose s m args below meth c H locs 0 0 Q (F0 m r.1 ls [])) ?_ n (v6, S) r h hE
  clear h hE r v6 S
  rintro ⟨v6, S⟩ o h hG hE H locs ls hP hD hS hl
  have h : st_H_choose_L9 n v3 v4 v6 S = some o := h
  have hl : lv_has ls 7 [(0, .ref (A 3)), (3, .int v3), (4, .long v4), (6, .int v6)] := hl
  have hP : va_P z.1 vwCl (cw z A S ++ Rr) H := hP
  have hD : va_D A0 (cw z A S ++ Rr) := hD
  unfold st_H_choose_L9 at h
  refine lv_iload hx hb d_H_choose_9 (lv_at hl 3 rfl) ?_
  refine lv_iconst (v := 3) hx hb d_H_choose_11 (by decide) ?_
  refine lv_icmp_gt (tgt := 46) hx hb d_H_choose_12 (by decide) (fun c_2 => ?_) (fun c_2 => ?_)
  · replace h := zz_t c_2 h
    exact hE _ (Option.some.inj h).symm _ _ _ hP hD hS hl
  · replace h := zz_f c_2 h
    refine lv_aload_n hx hb d_H_choose_15 rfl (lv_at hl 0 rfl) ?_
    refine lv_iload hx hb d_H_choose_16 (lv_at hl 3 rfl) ?_
    obtain ⟨S_3, e_3, h⟩ := zz_let h
    refine va_put (D := z.1) (ci := 3) (v := .int v6) (ty := .int) (C := R_H) (T := F_H) (N := 8) hx hb hts i_H ty_H ty_H_ok n_H hown hK hP hD hS 3 rfl rfl 7 (by decide) (hts _ wq_103) (fun _ h9 => h9) rfl (by decide +kernel) rfl rfl (Nat.le_of_ble_eq_true rfl) d_H_choose_18 (fun H locs hP hD hS => ?_)
    have hP : va_P z.1 vwCl (cw z A S_3 ++ Rr) H := by rw [e_3]; exact hP
    have hD : va_D A0 (cw z A S_3 ++ Rr) := by rw [e_3]; exact hD
    refine lv_aload_n hx hb d_H_choose_21 rfl (lv_at hl 0 rfl) ?_
    refine lv_iload_n hx hb d_H_choose_22 rfl (lv_at hl 1 rfl) ?_
    refine lv_lload hx hb d_H_choose_23 (lv_at hl 2 rfl) ?_
    obtain ⟨S_4, e_4, h⟩ := zz_bind1 h
    refine zz_goV (zz_runV (As := [.int v3, .long v4]) (rest := []) (k_H_gatherFitting l z A Rr n _ _ _ _ e_4) ⟨hx, hb, hml, hown, hts⟩ (cwV 2 hts (zz_gV wq_461 wq_463 wp_10 wq_4 wq_464) rfl rfl rfl (by decide +kernel) ⟨Nat.le_of_ble_eq_true rfl, Nat.le_of_ble_eq_true rfl⟩) hK hN hP hD (va_recv hK hP (ci := 3) (q0 := 3) rfl rfl) rfl hl.1 rfl (Nat.le_of_ble_eq_true rfl) d_H_choose_25 ⟨Nat.le_of_ble_eq_true rfl, Nat.le_of_ble_eq_true rfl⟩) hD hS hA (fun H locs hP hD hS => ?_)
    refine lv_aload_n hx hb d_H_choose_28 rfl (lv_at hl 0 rfl) ?_
    refine va_get (D := z.1) (ci := 3) (v := .int (hFc S_4)) (C := R_H) (T := F_H) (N := 8) hx hb hts i_H hown hK hP 3 rfl rfl 6 (by decide) (hts _ wq_102) (fun _ h9 => h9) rfl d_H_choose_29 ?_
    refine lv_if_le (tgt := 40) hx hb d_H_choose_32 (by decide) (fun c_5 => ?_) (fun c_5 => ?_)
    · replace h := zz_t c_5 h
      refine lv_iinc (v := (v6 + (1 : Int32))) (lv' := [(6, .int (v6 + (1 : Int32))), (0, .ref (A 3)), (3, .int v3), (4, .long v4)]) hx hb d_H_choose_40 hl (k := 3) rfl rfl (by decide) rfl (fun ls hl => ?_)
      refine lv_goto (tgt := 9) hx hb d_H_choose_43 (by decide) ?_
      exact hG _ (Option.some.inj h).symm _ _ _ hP hD hS (lv_sub hl [1, 2, 3, 0] rfl)
    · replace h := zz_f c_5 h
      exact hE _ (Option.some.inj h).symm _ _ _ hP hD hS hl

set_option maxRecDepth 100000 in
set_option maxHeartbeats 4000000 in
theorem k_H_choose (l : Launch) (z : zE) (A : Nat → Nat) (Rr : va_W) (n : Nat) (S : ZC) (a1 : Int32) (a2 : Int32) (a3 : Int32) (a4 : Int64) (r0 : Int32) (S' : ZC) (h : fx_H_choose n S a1 a2 a3 a4 = some (r0, S')) : zC z l y_H_choose w_H_choose rm_H_choose [.ref (A 3), .int a1, .int a2, .int a3, .long a4] (cw z A S ++ Rr) (some (.int r0)) (cw z A S' ++ Rr) := by
  refine zz_of (by decide) (Nat.le_of_ble_eq_true rfl) ?_
  intro p e s m args below meth c A0 ls hM hr hlocks hA hP hD hl
  have hM : zM z p s m args c b_H_choose 7 R_H := hM
  obtain ⟨hx, hb, hml, hown, hts, hK, hN⟩ := id hM
  have hS : va_S A0 s.heap s.heap [] := va_S.rf
  have hl : lv_has ls 7 [(0, .ref (A 3)), (1, .int a1), (2, .int a2), (3, .int a3), (4, .long a4)] := hl
  unfold fx_H_choose at h
  refine lv_aload_n hx hb d_H_choose_0 rfl (lv_at hl 0 rfl) ?_
  refine lv_iload_n hx hb d_H_choose_1 rfl (lv_at hl 1 rfl) ?_
  refine lv_iload_n hx hb d_H_choose_2 rfl (lv_at hl 2 rfl) ?_
  obtain ⟨S_1, e_1, h⟩ := zz_bind1 h
  refine zz_goV (zz_runV (As := [.int a1, .int a2]) (rest := []) (k_H_gatherMeant l z A Rr n _ _ _ _ e_1) ⟨hx, hb, hml, hown, hts⟩ (cwV 2 hts (zz_gV wq_220 wq_222 wp_2 wq_4 wq_223) rfl rfl rfl (by decide +kernel) ⟨Nat.le_of_ble_eq_true rfl, Nat.le_of_ble_eq_true rfl⟩) hK hN hP hD (va_recv hK hP (ci := 3) (q0 := 3) rfl rfl) rfl hl.1 rfl (Nat.le_of_ble_eq_true rfl) d_H_choose_3 ⟨Nat.le_of_ble_eq_true rfl, Nat.le_of_ble_eq_true rfl⟩) hD hS hA (fun H locs hP hD hS => ?_)
  refine lv_iconst (v := 1) hx hb d_H_choose_6 (by decide) ?_
  refine lv_istore (lv' := [(6, .int (1 : Int32)), (0, .ref (A 3)), (1, .int a1), (2, .int a2), (3, .int a3), (4, .long a4)]) hx hb d_H_choose_7 hl (by decide) rfl (fun ls hl => ?_)
  replace h := zz_bL2 h
  obtain ⟨x_6, v6_6, S_6, e_6, h⟩ := h
  refine lp_H_choose_L9 hM hA n a3 a4 _ _ _ e_6 ?_ _ _ _ hP hD hS (lv_sub hl [1, 4, 5, 0] rfl)
  intro H locs ls hP hD hS hl
  have hl : lv_has ls 7 [(0, .ref (A 3)), (3, .int a3), (4, .long a4), (6, .int v6_6)] := hl
  have hP : va_P z.1 vwCl (cw z A S_6 ++ Rr) H := hP
  have hD : va_D A0 (cw z A S_6 ++ Rr) := hD
  by_cases c_6 : x_6 = 35
  · replace h := zz_t c_6 h
    subst c_6
    refine W.eq (g2 := F0 m 35 ls []) rfl ?_
    refine lv_aload_n hx hb d_H_choose_35 rfl (lv_at hl 0 rfl) ?_
    obtain ⟨r_7, S_7, e_7, h⟩ := zz_bind h
    refine zz_goI (zz_runV (As := []) (rest := []) (k_H_mostSpecific l z A Rr n _ _ _ e_7) ⟨hx, hb, hml, hown, hts⟩ (cwV 0 hts (zz_gV wq_490 wq_492 wp_14 wq_4 wq_493) rfl rfl rfl (by decide +kernel) ⟨Nat.le_of_ble_eq_true rfl, Nat.le_of_ble_eq_true rfl⟩) hK hN hP hD (va_recv hK hP (ci := 3) (q0 := 3) rfl rfl) rfl hl.1 rfl (Nat.le_of_ble_eq_true rfl) d_H_choose_36 ⟨Nat.le_of_ble_eq_true rfl, Nat.le_of_ble_eq_true rfl⟩) hD hS hA (fun H locs hP hD hS => ?_)
    exact zz_iret (fun S => cw z A S ++ Rr) hx hb hr hlocks hP hD hS h d_H_choose_39
  replace h := zz_f c_6 h
  replace h := zz_grd h
  obtain ⟨c_6, h⟩ := h
  subst c_6
  refine W.eq (g2 := F0 m 46 ls []) rfl ?_
  refine lv_aload_n hx hb d_H_choose_46 rfl (lv_at hl 0 rfl) ?_
  refine lv_iconst (v := 0) hx hb d_H_choose_47 (by decide) ?_
  obtain ⟨S_8, e_8, h⟩ := zz_let h
  refine va_put (D := z.1) (ci := 3) (v := .int (0 : Int32)) (ty := .int) (C := R_H) (T := F_H) (N := 8) hx hb hts i_H ty_H ty_H_ok n_H hown hK hP hD hS 3 rfl rfl 7 (by decide) (hts _ wq_103) (fun _ h9 => h9) rfl (by decide +kernel) rfl rfl (Nat.le_of_ble_eq_true rfl) d_H_choose_48 (fun H locs hP hD hS => ?_)
  have hP : va_P z.1 vwCl (cw z A S_8 ++ Rr) H := by rw [e_8]; exact hP
  have hD : va_D A0 (cw z A S_8 ++ Rr) := by rw [e_8]; exact hD
  refine lv_bipush (v := -3) hx hb d_H_choose_51 (by decide) ?_
  exact zz_iret (fun S => cw z A S ++ Rr) hx hb hr hlocks hP hD hS h d_H_choose_53

