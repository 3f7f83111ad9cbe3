abbrev b_K_letGoFirst : ByteArray := prog_3_method_6_code
abbrev y_K_letGoFirst : MethodName := ⟨"MemberChooser$KeptCalls", "letGoFirst", "()V"⟩
abbrev w_K_letGoFirst : List Cond := Cond.code y_K_letGoFirst b_K_letGoFirst 2 none :: zTb
theorem d_K_letGoFirst_0 : decode b_K_letGoFirst 0 = .ok (.iconst 1, 1) := by decide +kernel
theorem d_K_letGoFirst_1 : decode b_K_letGoFirst 1 = .ok (.istore_n 1, 1) := by decide +kernel
theorem d_K_letGoFirst_2 : decode b_K_letGoFirst 2 = .ok (.iload_n 1, 1) := by decide +kernel
theorem d_K_letGoFirst_3 : decode b_K_letGoFirst 3 = .ok (.aload_n 0, 1) := by decide +kernel
theorem d_K_letGoFirst_4 : decode b_K_letGoFirst 4 = .ok (.getfield 28, 3) := by decide +kernel
theorem d_K_letGoFirst_7 : decode b_K_letGoFirst 7 = .ok (.if_icmp .ge 17, 3) := by decide +kernel
theorem d_K_letGoFirst_10 : decode b_K_letGoFirst 10 = .ok (.aload_n 0, 1) := by decide +kernel
theorem d_K_letGoFirst_11 : decode b_K_letGoFirst 11 = .ok (.iload_n 1, 1) := by decide +kernel
theorem d_K_letGoFirst_12 : decode b_K_letGoFirst 12 = .ok (.iload_n 1, 1) := by decide +kernel
theorem d_K_letGoFirst_13 : decode b_K_letGoFirst 13 = .ok (.iconst 1, 1) := by decide +kernel
theorem d_K_letGoFirst_14 : decode b_K_letGoFirst 14 = .ok (.isub, 1) := by decide +kernel
theorem d_K_letGoFirst_15 : decode b_K_letGoFirst 15 = .ok (.invokevirtual 35, 3) := by decide +kernel
theorem d_K_letGoFirst_18 : decode b_K_letGoFirst 18 = .ok (.iinc 1 1, 3) := by decide +kernel
theorem d_K_letGoFirst_21 : decode b_K_letGoFirst 21 = .ok (.goto (-19), 3) := by decide +kernel
theorem d_K_letGoFirst_24 : decode b_K_letGoFirst 24 = .ok (.aload_n 0, 1) := by decide +kernel
theorem d_K_letGoFirst_25 : decode b_K_letGoFirst 25 = .ok (.dup, 1) := by decide +kernel
theorem d_K_letGoFirst_26 : decode b_K_letGoFirst 26 = .ok (.getfield 28, 3) := by decide +kernel
theorem d_K_letGoFirst_29 : decode b_K_letGoFirst 29 = .ok (.iconst 1, 1) := by decide +kernel
theorem d_K_letGoFirst_30 : decode b_K_letGoFirst 30 = .ok (.isub, 1) := by decide +kernel
theorem d_K_letGoFirst_31 : decode b_K_letGoFirst 31 = .ok (.putfield 28, 3) := by decide +kernel
theorem d_K_letGoFirst_34 : decode b_K_letGoFirst 34 = .ok (.return_, 1) := by decide +kernel
abbrev rm_K_letGoFirst : Room := { frames := 1, cells := 0, slots := 0, locals := 22 }
def st_K_letGoFirst_L2 (n : Nat)  (v1 : Int32) (S : ZC) : Option ((Int32 × ZC) ⊕ (Nat × Int32 × ZC)) :=
  (if (kHe S) ≤ v1 then
  some (.inr (24, v1, S))
  else
  zbind1 (fx_K_move n S v1 (v1 - (1 : Int32))) (fun S_2 =>
    some (.inl ((v1 + (1 : Int32)), S_2))))

def fx_K_letGoFirst_L2 (n : Nat)  (v1 : Int32) (S : ZC) : Option (Nat × Int32 × ZC) := zloop (fun (st : Int32 × ZC) => st_K_letGoFirst_L2 n st.1 st.2) n (v1, S)

def fx_K_letGoFirst (n : Nat) (S : ZC) : Option (ZC) :=
  zbL2 (fx_K_letGoFirst_L2 n (1 : Int32) S) (fun x_3 v1_3 S_3 =>
  if x_3 = 24 then
  zlet (kHe' S_3 ((kHe S_3) - (1 : Int32))) (fun S_4 =>
  some S_4)
  else none)

set_option maxRecDepth 100000 in
set_option maxHeartbeats 4000000 in
theorem lp_K_letGoFirst_L2 {z : zE} {A : Nat → Nat} {Rr : va_W} {p : Program} {l : Launch} {e : Env} {s : State} {m : MethodId} {args : Array Value} {below : List Frame} {meth : Method} {c : Code} {Q : State → Prop} {H0 : Heap} {A0 : Nat → Prop} (hM : zM z p s m args c b_K_letGoFirst 2 R_K) (hA : ∀ q : Nat, H0.size ≤ q → A0 q) (n : Nat) :
    ∀ (v1 : Int32) (S : ZC) (r : Nat × Int32 × ZC), fx_K_letGoFirst_L2 n v1 S = some r → (∀ (H : Heap) (locs : List Loc) (ls : Array Slot), va_P z.1 vwCl (cw z A r.2.2 ++ Rr) H → va_D A0 (cw z A r.2.2 ++ Rr) → va_S A0 H0 H locs → lv_has ls 2 [(0, .ref (A 1)), (1, .int r.2.1)] → W p l e rm_K_letGoFirst s m args below meth c H locs 0 0 Q (F0 m r.1 ls [])) →
    ∀ (H : Heap) (locs : List Loc) (ls : Array Slot), va_P z.1 vwCl (cw z A S ++ Rr) H → va_D A0 (cw z A S ++ Rr) → va_S A0 H0 H locs → lv_has ls 2 [(0, .ref (A 1)), (1, .int v1)] → W p l e rm_K_letGoFirst s m args below meth c H locs 0 0 Q (F0 m 2 ls []) := by
  obtain ⟨hx, hb, hml, hown, hts, hK, hN⟩ := id hM
  intro v1 S r h hE
  refine zz_loop (G := fun (st : Int32 × ZC) => ∀ (H : Heap) (locs : List Loc) (ls : Array Slot), va_P z.1 vwCl (cw z A st.2 ++ Rr) H → va_D A0 (cw z A st.2 ++ Rr) → va_S A0 H0 H locs → lv_has ls 2 [(0, .ref (A 1)), (1, .int st.1)] → W p l e rm_K_letGoFirst s m args below meth c H locs 0 0 Q (F0 m 2 ls [])) (E := fun (r : Nat × Int32 × ZC) => ∀ (H : Heap) (locs : List Loc) (ls : Array Slot), va_P z.1 vwCl (cw z A r.2.2 ++ Rr) H → va_D A0 (cw z A r.2.2 ++ Rr) → va_S A0 H0 H locs → lv_has ls 2 [(0, .ref (A 1)), (1, .int r.2.1)] → W p l e rm_K_letGoFirst s m args below meth c H locs 0 0 Q (F0 m r.1 ls [])) ?_ n (v1, S) r h hE
  clear h hE r v1 S
  rintro ⟨v1, S⟩ o h hG hE H locs ls hP hD hS hl
  have h : st_K_letGoFirst_L2 n v1 S = some o := h
  have hl : lv_has ls 2 [(0, .ref (A 1)), (1, .int v1)] := hl
  have hP : va_P z.1 vwCl (cw z A S ++ Rr) H := hP
  have hD : va_D A0 (cw z A S ++ Rr) := hD
  unfold st_K_letGoFirst_L2 at h
  refine lv_iload_n hx hb d_K_letGoFirst_2 rfl (lv_at hl 1 rfl) ?_
  refine lv_aload_n hx hb d_K_letGoFirst_3 rfl (lv_at hl 0 rfl) ?_
  refine va_get (D := z.1) (ci := 4) (v := .int (kHe S)) (C := R_K) (T := F_K) (N := 6) hx hb hts i_K hown hK hP 1 rfl rfl 5 (by decide) (hts _ wq_134) (fun _ h9 => h9) rfl d_K_letGoFirst_4 ?_
  refine lv_icmp_ge (tgt := 24) hx hb d_K_letGoFirst_7 (by decide) (fun c_1 => ?_) (fun c_1 => ?_)
  · replace h := zz_t c_1 h
    exact hE _ (Option.some.inj h).symm _ _ _ hP hD hS hl
  · replace h := zz_f c_1 h
    refine lv_aload_n hx hb d_K_letGoFirst_10 rfl (lv_at hl 0 rfl) ?_
    refine lv_iload_n hx hb d_K_letGoFirst_11 rfl (lv_at hl 1 rfl) ?_
    refine lv_iload_n hx hb d_K_letGoFirst_12 rfl (lv_at hl 1 rfl) ?_
    refine lv_iconst (v := 1) hx hb d_K_letGoFirst_13 (by decide) ?_
    refine lv_isub hx hb d_K_letGoFirst_14 ?_
    obtain ⟨S_2, e_2, h⟩ := zz_bind1 h
    refine zz_goV (zz_runV (As := [.int v1, .int (v1 - (1 : Int32))]) (rest := []) (k_K_move l z A Rr n _ _ _ _ e_2) ⟨hx, hb, hml, hown, hts⟩ (cwV 2 hts (zz_gV wq_426 wq_428 wp_7 wq_5 wq_429) rfl rfl rfl (by decide +kernel) ⟨Nat.le_of_ble_eq_true rfl, Nat.le_of_ble_eq_true rfl⟩) hK hN hP hD (va_recv hK hP (ci := 4) (q0 := 1) rfl rfl) rfl hl.1 rfl (Nat.le_of_ble_eq_true rfl) d_K_letGoFirst_15 ⟨Nat.le_of_ble_eq_true rfl, Nat.le_of_ble_eq_true rfl⟩) hD hS hA (fun H locs hP hD hS => ?_)
    refine lv_iinc (v := (v1 + (1 : Int32))) (lv' := [(1, .int (v1 + (1 : Int32))), (0, .ref (A 1))]) hx hb d_K_letGoFirst_18 hl (k := 1) rfl rfl (by decide) rfl (fun ls hl => ?_)
    refine lv_goto (tgt := 2) hx hb d_K_letGoFirst_21 (by decide) ?_
    exact hG _ (Option.some.inj h).symm _ _ _ hP hD hS (lv_sub hl [1, 0] rfl)

set_option maxRecDepth 100000 in
set_option maxHeartbeats 4000000 in
theorem k_K_letGoFirst (l : Launch) (z : zE) (A : Nat → Nat) (Rr : va_W) (n : Nat) (S : ZC) (S' : ZC) (h : fx_K_letGoFirst n S  = some S') : zC z l y_K_letGoFirst w_K_letGoFirst rm_K_letGoFirst [.ref (A 1)] (cw z A S ++ Rr) none (cw z A S' ++ Rr) := by
  refine zz_of (by decide) (Nat.le_of_ble_eq_true rfl) ?_
  intro p e s m args below meth c A0 ls hM hr hlocks hA hP hD hl
  have hM : zM z p s m args c b_K_letGoFirst 2 R_K := hM
  obtain ⟨hx, hb, hml, hown, hts, hK, hN⟩ := id hM
  have hS : va_S A0 s.heap s.heap [] := va_S.rf
  have hl : lv_has ls 2 [(0, .ref (A 1))] := hl
  unfold fx_K_letGoFirst at h
  refine lv_iconst (v := 1) hx hb d_K_letGoFirst_0 (by decide) ?_
  refine lv_istore_n (lv' := [(1, .int (1 : Int32)), (0, .ref (A 1))]) hx hb d_K_letGoFirst_1 rfl hl (by decide) rfl (fun ls hl => ?_)
  replace h := zz_bL2 h
  obtain ⟨x_3, v1_3, S_3, e_3, h⟩ := h
  refine lp_K_letGoFirst_L2 hM hA n _ _ _ e_3 ?_ _ _ _ hP hD hS (lv_sub hl [1, 0] rfl)
  intro H locs ls hP hD hS hl
  have hl : lv_has ls 2 [(0, .ref (A 1)), (1, .int v1_3)] := hl
  have hP : va_P z.1 vwCl (cw z A S_3 ++ Rr) H := hP
  have hD : va_D A0 (cw z A S_3 ++ Rr) := hD
  replace h := zz_grd h
  obtain ⟨c_3, h⟩ := h
  subst c_3
  refine W.eq (g2 := F0 m 24 ls []) rfl ?_
  refine lv_aload_n hx hb d_K_letGoFirst_24 rfl (lv_at hl 0 rfl) ?_
  refine lv_dup hx hb d_K_letGoFirst_25 rfl ?_
  refine va_get (D := z.1) (ci := 4) (v := .int (kHe S_3)) (C := R_K) (T := F_K) (N := 6) hx hb hts i_K hown hK hP 1 rfl rfl 5 (by decide) (hts _ wq_134) (fun _ h9 => h9) rfl d_K_letGoFirst_26 ?_
  refine lv_iconst (v := 1) hx hb d_K_letGoFirst_29 (by decide) ?_
  refine lv_isub hx hb d_K_letGoFirst_30 ?_
  obtain ⟨S_4, e_4, h⟩ := zz_let h
  refine va_put (D := z.1) (ci := 4) (v := .int ((kHe S_3) - (1 : Int32))) (ty := .int) (C := R_K) (T := F_K) (N := 6) hx hb hts i_K ty_K ty_K_ok n_K hown hK hP hD hS 1 rfl rfl 5 (by decide) (hts _ wq_134) (fun _ h9 => h9) rfl (by decide +kernel) rfl rfl (Nat.le_of_ble_eq_true rfl) d_K_letGoFirst_31 (fun H locs hP hD hS => ?_)
  have hP : va_P z.1 vwCl (cw z A S_4 ++ Rr) H := by rw [e_4]; exact hP
  have hD : va_D A0 (cw z A S_4 ++ Rr) := by rw [e_4]; exact hD
  exact zz_vret (fun S => cw z A S ++ Rr) hx hb hr hlocks hP hD hS h d_K_letGoFirst_34

abbrev b_K_keep : ByteArray := prog_3_method_3_code
abbrev y_K_keep : MethodName := ⟨"MemberChooser$KeptCalls", "keep", "(IIIJI)I"⟩
abbrev w_K_keep : List Cond := Cond.code y_K_keep b_K_keep 8 (some .int) :: zTb
theorem d_K_keep_0 : decode b_K_keep 0 = .ok (.aload_n 0, 1) := by decide +kernel
theorem d_K_keep_1 : decode b_K_keep 1 = .ok (.getfield 28, 3) := by decide +kernel
theorem d_K_keep_4 : decode b_K_keep 4 = .ok (.bipush 100, 2) := by decide +kernel
theorem d_K_keep_6 : decode b_K_keep 6 = .ok (.if_icmp .lt 7, 3) := by decide +kernel
theorem d_K_keep_9 : decode b_K_keep 9 = .ok (.aload_n 0, 1) := by decide +kernel
theorem d_K_keep_10 : decode b_K_keep 10 = .ok (.invokevirtual 32, 3) := by decide +kernel
theorem d_K_keep_13 : decode b_K_keep 13 = .ok (.aload_n 0, 1) := by decide +kernel
theorem d_K_keep_14 : decode b_K_keep 14 = .ok (.getfield 28, 3) := by decide +kernel
theorem d_K_keep_17 : decode b_K_keep 17 = .ok (.istore 7, 2) := by decide +kernel
theorem d_K_keep_19 : decode b_K_keep 19 = .ok (.aload_n 0, 1) := by decide +kernel
theorem d_K_keep_20 : decode b_K_keep 20 = .ok (.getfield 11, 3) := by decide +kernel
theorem d_K_keep_23 : decode b_K_keep 23 = .ok (.iload 7, 2) := by decide +kernel
theorem d_K_keep_25 : decode b_K_keep 25 = .ok (.iload_n 1, 1) := by decide +kernel
theorem d_K_keep_26 : decode b_K_keep 26 = .ok (.iastore, 1) := by decide +kernel
theorem d_K_keep_27 : decode b_K_keep 27 = .ok (.aload_n 0, 1) := by decide +kernel
theorem d_K_keep_28 : decode b_K_keep 28 = .ok (.getfield 15, 3) := by decide +kernel
theorem d_K_keep_31 : decode b_K_keep 31 = .ok (.iload 7, 2) := by decide +kernel
theorem d_K_keep_33 : decode b_K_keep 33 = .ok (.iload_n 2, 1) := by decide +kernel
theorem d_K_keep_34 : decode b_K_keep 34 = .ok (.iastore, 1) := by decide +kernel
theorem d_K_keep_35 : decode b_K_keep 35 = .ok (.aload_n 0, 1) := by decide +kernel
theorem d_K_keep_36 : decode b_K_keep 36 = .ok (.getfield 18, 3) := by decide +kernel
theorem d_K_keep_39 : decode b_K_keep 39 = .ok (.iload 7, 2) := by decide +kernel
theorem d_K_keep_41 : decode b_K_keep 41 = .ok (.iload_n 3, 1) := by decide +kernel
theorem d_K_keep_42 : decode b_K_keep 42 = .ok (.iastore, 1) := by decide +kernel
theorem d_K_keep_43 : decode b_K_keep 43 = .ok (.aload_n 0, 1) := by decide +kernel
theorem d_K_keep_44 : decode b_K_keep 44 = .ok (.getfield 21, 3) := by decide +kernel
theorem d_K_keep_47 : decode b_K_keep 47 = .ok (.iload 7, 2) := by decide +kernel
theorem d_K_keep_49 : decode b_K_keep 49 = .ok (.lload 4, 2) := by decide +kernel
theorem d_K_keep_51 : decode b_K_keep 51 = .ok (.lastore, 1) := by decide +kernel
theorem d_K_keep_52 : decode b_K_keep 52 = .ok (.aload_n 0, 1) := by decide +kernel
theorem d_K_keep_53 : decode b_K_keep 53 = .ok (.getfield 25, 3) := by decide +kernel
theorem d_K_keep_56 : decode b_K_keep 56 = .ok (.iload 7, 2) := by decide +kernel
theorem d_K_keep_58 : decode b_K_keep 58 = .ok (.iload 6, 2) := by decide +kernel
theorem d_K_keep_60 : decode b_K_keep 60 = .ok (.iastore, 1) := by decide +kernel
theorem d_K_keep_61 : decode b_K_keep 61 = .ok (.aload_n 0, 1) := by decide +kernel
theorem d_K_keep_62 : decode b_K_keep 62 = .ok (.dup, 1) := by decide +kernel
theorem d_K_keep_63 : decode b_K_keep 63 = .ok (.getfield 28, 3) := by decide +kernel
theorem d_K_keep_66 : decode b_K_keep 66 = .ok (.iconst 1, 1) := by decide +kernel
theorem d_K_keep_67 : decode b_K_keep 67 = .ok (.iadd, 1) := by decide +kernel
theorem d_K_keep_68 : decode b_K_keep 68 = .ok (.putfield 28, 3) := by decide +kernel
theorem d_K_keep_71 : decode b_K_keep 71 = .ok (.iload 7, 2) := by decide +kernel
theorem d_K_keep_73 : decode b_K_keep 73 = .ok (.ireturn, 1) := by decide +kernel
abbrev rm_K_keep : Room := { frames := 2, cells := 0, slots := 0, locals := 43 }
def jx_K_keep_13 (n : Nat) (v1 : Int32) (v2 : Int32) (v3 : Int32) (v4 : Int64) (v6 : Int32) (S : ZC) : Option (Int32 × ZC) :=
  (if zoob (kHe S) 100 then none else
    zlet (kTy' S (upd (kTy S) (kHe S).toNatClampNeg v1)) (fun S_4 =>
    (if zoob (kHe S) 100 then none else
    zlet (kNa' S_4 (upd (kNa S_4) (kHe S).toNatClampNeg v2)) (fun S_6 =>
    (if zoob (kHe S) 100 then none else
    zlet (kSz' S_6 (upd (kSz S_6) (kHe S).toNatClampNeg v3)) (fun S_8 =>
    (if zoob (kHe S) 100 then none else
    zlet (kCl' S_8 (vp_updL (kCl S_8) (kHe S).toNatClampNeg v4)) (fun S_10 =>
    (if zoob (kHe S) 100 then none else
    zlet (kOu' S_10 (upd (kOu S_10) (kHe S).toNatClampNeg v6)) (fun S_12 =>
    zlet (kHe' S_12 ((kHe S_12) + (1 : Int32))) (fun S_13 =>
    some ((kHe S), S_13))))))))))))

def fx_K_keep (n : Nat) (S : ZC) (a1 : Int32) (a2 : Int32) (a3 : Int32) (a4 : Int64) (a6 : Int32) : Option (Int32 × ZC) :=
  (if (kHe S) < (100 : Int32) then
  jx_K_keep_13 n a1 a2 a3 a4 a6 S
  else
  zbind1 (fx_K_letGoFirst n S) (fun S_2 =>
    jx_K_keep_13 n a1 a2 a3 a4 a6 S_2))

set_option maxRecDepth 100000 in
set_option maxHeartbeats 4000000 in
theorem k_K_keep (l : Launch) (z : zE) (A : Nat → Nat) (Rr : va_W) (n : Nat) (S : ZC) (a1 : Int32) (a2 : Int32) (a3 : Int32) (a4 : Int64) (a6 : Int32) (r0 : Int32) (S' : ZC) (h : fx_K_keep n S a1 a2 a3 a4 a6 = some (r0, S')) : zC z l y_K_keep w_K_keep rm_K_keep [.ref (A 1), .int a1, .int a2, .int a3, .long a4, .int a6] (cw z A S ++ Rr) (some (.int r0)) (cw z A S' ++ Rr) := by
  refine zz_of (by decide) (Nat.le_of_ble_eq_true rfl) ?_
  intro p e s m args below meth c A0 ls hM hr hlocks hA hP hD hl
  have hM : zM z p s m args c b_K_keep 8 R_K := hM
  obtain ⟨hx, hb, hml, hown, hts, hK, hN⟩ := id hM
  have hS : va_S A0 s.heap s.heap [] := va_S.rf
  have hl : lv_has ls 8 [(0, .ref (A 1)), (1, .int a1), (2, .int a2), (3, .int a3), (4, .long a4), (6, .int a6)] := hl
  have J13 : ∀ (v1 : Int32) (v2 : Int32) (v3 : Int32) (v4 : Int64) (v6 : Int32) (S : ZC), jx_K_keep_13 n v1 v2 v3 v4 v6 S = some (r0, S') → ∀ (H : Heap) (locs : List Loc) (ls : Array Slot), va_P z.1 vwCl (cw z A S ++ Rr) H → va_D A0 (cw z A S ++ Rr) → va_S A0 s.heap H locs → lv_has ls 8 [(0, .ref (A 1)), (1, .int v1), (2, .int v2), (3, .int v3), (4, .long v4), (6, .int v6)] → W p l e rm_K_keep s m args below meth c H locs 0 0 (zQ z below args s A0 (some (.int r0)) (cw z A S' ++ Rr)) (F0 m 13 ls []) := by
    intro v1 v2 v3 v4 v6 S h H locs ls hP hD hS hl
    unfold jx_K_keep_13 at h
    refine lv_aload_n hx hb d_K_keep_13 rfl (lv_at hl 0 rfl) ?_
    refine va_get (D := z.1) (ci := 4) (v := .int (kHe S)) (C := R_K) (T := F_K) (N := 6) hx hb hts i_K hown hK hP 1 rfl rfl 5 (by decide) (hts _ wq_134) (fun _ h9 => h9) rfl d_K_keep_14 ?_
    refine lv_istore (lv' := [(7, .int (kHe S)), (0, .ref (A 1)), (1, .int v1), (2, .int v2), (3, .int v3), (4, .long v4), (6, .int v6)]) hx hb d_K_keep_17 hl (by decide) rfl (fun ls hl => ?_)
    refine lv_aload_n hx hb d_K_keep_19 rfl (lv_at hl 1 rfl) ?_
    refine va_get (D := z.1) (ci := 4) (v := .ref (A 2)) (C := R_K) (T := F_K) (N := 6) hx hb hts i_K hown hK hP 1 rfl rfl 0 (by decide) (hts _ wq_128) (fun _ h9 => h9) rfl d_K_keep_20 ?_
    refine lv_iload hx hb d_K_keep_23 (lv_at hl 0 rfl) ?_
    refine lv_iload_n hx hb d_K_keep_25 rfl (lv_at hl 2 rfl) ?_
    obtain ⟨c_3, h⟩ := zz_oob h
    obtain ⟨S_4, e_4, h⟩ := zz_let h
    refine va_iast hx hb hK hP hD hS 2 0 rfl rfl c_3 d_K_keep_26 (fun H locs hP hD hS => ?_)
    have hP : va_P z.1 vwCl (cw z A S_4 ++ Rr) H := by rw [e_4]; exact hP
    have hD : va_D A0 (cw z A S_4 ++ Rr) := by rw [e_4]; exact hD
    refine lv_aload_n hx hb d_K_keep_27 rfl (lv_at hl 1 rfl) ?_
    refine va_get (D := z.1) (ci := 4) (v := .ref (A 3)) (C := R_K) (T := F_K) (N := 6) hx hb hts i_K hown hK hP 1 rfl rfl 1 (by decide) (hts _ wq_129) (fun _ h9 => h9) rfl d_K_keep_28 ?_
    refine lv_iload hx hb d_K_keep_31 (lv_at hl 0 rfl) ?_
    refine lv_iload_n hx hb d_K_keep_33 rfl (lv_at hl 3 rfl) ?_
    obtain ⟨c_5, h⟩ := zz_oob h
    obtain ⟨S_6, e_6, h⟩ := zz_let h
    refine va_iast hx hb hK hP hD hS 3 0 rfl rfl c_5 d_K_keep_34 (fun H locs hP hD hS => ?_)
    have hP : va_P z.1 vwCl (cw z A S_6 ++ Rr) H := by rw [e_6]; exact hP
    have hD : va_D A0 (cw z A S_6 ++ Rr) := by rw [e_6]; exact hD
    refine lv_aload_n hx hb d_K_keep_35 rfl (lv_at hl 1 rfl) ?_
    refine va_get (D := z.1) (ci := 4) (v := .ref (A 4)) (C := R_K) (T := F_K) (N := 6) hx hb hts i_K hown hK hP 1 rfl rfl 2 (by decide) (hts _ wq_130) (fun _ h9 => h9) rfl d_K_keep_36 ?_
    refine lv_iload hx hb d_K_keep_39 (lv_at hl 0 rfl) ?_
    refine lv_iload_n hx hb d_K_keep_41 rfl (lv_at hl 4 rfl) ?_
    obtain ⟨c_7, h⟩ := zz_oob h
    obtain ⟨S_8, e_8, h⟩ := zz_let h
    refine va_iast hx hb hK hP hD hS 4 0 rfl rfl c_7 d_K_keep_42 (fun H locs hP hD hS => ?_)
    have hP : va_P z.1 vwCl (cw z A S_8 ++ Rr) H := by rw [e_8]; exact hP
    have hD : va_D A0 (cw z A S_8 ++ Rr) := by rw [e_8]; exact hD
    refine lv_aload_n hx hb d_K_keep_43 rfl (lv_at hl 1 rfl) ?_
    refine va_get (D := z.1) (ci := 4) (v := .ref (A 5)) (C := R_K) (T := F_K) (N := 6) hx hb hts i_K hown hK hP 1 rfl rfl 3 (by decide) (hts _ wq_131) (fun _ h9 => h9) rfl d_K_keep_44 ?_
    refine lv_iload hx hb d_K_keep_47 (lv_at hl 0 rfl) ?_
    refine lv_lload hx hb d_K_keep_49 (lv_at hl 5 rfl) ?_
    obtain ⟨c_9, h⟩ := zz_oob h
    obtain ⟨S_10, e_10, h⟩ := zz_let h
    refine va_last hx hb hK hP hD hS 5 2 rfl rfl c_9 d_K_keep_51 (fun H locs hP hD hS => ?_)
    have hP : va_P z.1 vwCl (cw z A S_10 ++ Rr) H := by rw [e_10]; exact hP
    have hD : va_D A0 (cw z A S_10 ++ Rr) := by rw [e_10]; exact hD
    refine lv_aload_n hx hb d_K_keep_52 rfl (lv_at hl 1 rfl) ?_
    refine va_get (D := z.1) (ci := 4) (v := .ref (A 6)) (C := R_K) (T := F_K) (N := 6) hx hb hts i_K hown hK hP 1 rfl rfl 4 (by decide) (hts _ wq_132) (fun _ h9 => h9) rfl d_K_keep_53 ?_
    refine lv_iload hx hb d_K_keep_56 (lv_at hl 0 rfl) ?_
    refine lv_iload hx hb d_K_keep_58 (lv_at hl 6 rfl) ?_
    obtain ⟨c_11, h⟩ := zz_oob h
    obtain ⟨S_12, e_12, h⟩ := zz_let h
    refine va_iast hx hb hK hP hD hS 6 0 rfl rfl c_11 d_K_keep_60 (fun H locs hP hD hS => ?_)
    have hP : va_P z.1 vwCl (cw z A S_12 ++ Rr) H := by rw [e_12]; exact hP
    have hD : va_D A0 (cw z A S_12 ++ Rr) := by rw [e_12]; exact hD
    refine lv_aload_n hx hb d_K_keep_61 rfl (lv_at hl 1 rfl) ?_
    refine lv_dup hx hb d_K_keep_62 rfl ?_
    refine va_get (D := z.1) (ci := 4) (v := .int (kHe S_12)) (C := R_K) (T := F_K) (N := 6) hx hb hts i_K hown hK hP 1 rfl rfl 5 (by decide) (hts _ wq_134) (fun _ h9 => h9) rfl d_K_keep_63 ?_
    refine lv_iconst (v := 1) hx hb d_K_keep_66 (by decide) ?_
    refine lv_iadd hx hb d_K_keep_67 ?_
    obtain ⟨S_13, e_13, h⟩ := zz_let h
    refine va_put (D := z.1) (ci := 4) (v := .int ((kHe S_12) + (1 : Int32))) (ty := .int) (C := R_K) (T := F_K) (N := 6) hx hb hts i_K ty_K ty_K_ok n_K hown hK hP hD hS 1 rfl rfl 5 (by decide) (hts _ wq_134) (fun _ h9 => h9) rfl (by decide +kernel) rfl rfl (Nat.le_of_ble_eq_true rfl) d_K_keep_68 (fun H locs hP hD hS => ?_)
    have hP : va_P z.1 vwCl (cw z A S_13 ++ Rr) H := by rw [e_13]; exact hP
    have hD : va_D A0 (cw z A S_13 ++ Rr) := by rw [e_13]; exact hD
    refine lv_iload hx hb d_K_keep_71 (lv_at hl 0 rfl) ?_
    exact zz_iret (fun S => cw z A S ++ Rr) hx hb hr hlocks hP hD hS h d_K_keep_73
  unfold fx_K_keep at h
  refine lv_aload_n hx hb d_K_keep_0 rfl (lv_at hl 0 rfl) ?_
  refine va_get (D := z.1) (ci := 4) (v := .int (kHe S)) (C := R_K) (T := F_K) (N := 6) hx hb hts i_K hown hK hP 1 rfl rfl 5 (by decide) (hts _ wq_134) (fun _ h9 => h9) rfl d_K_keep_1 ?_
  refine lv_bipush (v := 100) hx hb d_K_keep_4 (by decide) ?_
  refine lv_icmp_lt (tgt := 13) hx hb d_K_keep_6 (by decide) (fun c_1 => ?_) (fun c_1 => ?_)
  · replace h := zz_t c_1 h
    exact J13 _ _ _ _ _ _ h _ _ _ hP hD hS hl
  · replace h := zz_f c_1 h
    refine lv_aload_n hx hb d_K_keep_9 rfl (lv_at hl 0 rfl) ?_
    obtain ⟨S_2, e_2, h⟩ := zz_bind1 h
    refine zz_goV (zz_runV (As := []) (rest := []) (k_K_letGoFirst l z A Rr n _ _ e_2) ⟨hx, hb, hml, hown, hts⟩ (cwV 0 hts (zz_gV wq_509 wq_511 wp_17 wq_5 wq_512) rfl rfl rfl (by decide +kernel) ⟨Nat.le_of_ble_eq_true rfl, Nat.le_of_ble_eq_true rfl⟩) hK hN hP hD (va_recv hK hP (ci := 4) (q0 := 1) rfl rfl) rfl hl.1 rfl (Nat.le_of_ble_eq_true rfl) d_K_keep_10 ⟨Nat.le_of_ble_eq_true rfl, Nat.le_of_ble_eq_true rfl⟩) hD hS hA (fun H locs hP hD hS => ?_)
    exact J13 _ _ _ _ _ _ h _ _ _ hP hD hS hl

abbrev b_K_letGoAll : ByteArray := prog_3_method_4_code
abbrev y_K_letGoAll : MethodName := ⟨"MemberChooser$KeptCalls", "letGoAll", "()V"⟩
abbrev w_K_letGoAll : List Cond := Cond.code y_K_letGoAll b_K_letGoAll 1 none :: zTb
theorem d_K_letGoAll_0 : decode b_K_letGoAll 0 = .ok (.aload_n 0, 1) := by decide +kernel
theorem d_K_letGoAll_1 : decode b_K_letGoAll 1 = .ok (.iconst 0, 1) := by decide +kernel
theorem d_K_letGoAll_2 : decode b_K_letGoAll 2 = .ok (.putfield 28, 3) := by decide +kernel
theorem d_K_letGoAll_5 : decode b_K_letGoAll 5 = .ok (.return_, 1) := by decide +kernel
abbrev rm_K_letGoAll : Room := { frames := 0, cells := 0, slots := 0, locals := 0 }
def fx_K_letGoAll (n : Nat) (S : ZC) : Option (ZC) :=
  zlet (kHe' S (0 : Int32)) (fun S_1 =>
  some S_1)

set_option maxRecDepth 100000 in
set_option maxHeartbeats 4000000 in
theorem k_K_letGoAll (l : Launch) (z : zE) (A : Nat → Nat) (Rr : va_W) (n : Nat) (S : ZC) (S' : ZC) (h : fx_K_letGoAll n S  = some S') : zC z l y_K_letGoAll w_K_letGoAll rm_K_letGoAll [.ref (A 1)] (cw z A S ++ Rr) none (cw z A S' ++ Rr) := by
  refine zz_of (by decide) (Nat.le_of_ble_eq_true rfl) ?_
  intro p e s m args below meth c A0 ls hM hr hlocks hA hP hD hl
  have hM : zM z p s m args c b_K_letGoAll 1 R_K := hM
  obtain ⟨hx, hb, hml, hown, hts, hK, hN⟩ := id hM
  have hS : va_S A0 s.heap s.heap [] := va_S.rf
  have hl : lv_has ls 1 [(0, .ref (A 1))] := hl
  unfold fx_K_letGoAll at h
  refine lv_aload_n hx hb d_K_letGoAll_0 rfl (lv_at hl 0 rfl) ?_
  refine lv_iconst (v := 0) hx hb d_K_letGoAll_1 (by decide) ?_
  obtain ⟨S_1, e_1, h⟩ := zz_let h
  refine va_put (D := z.1) (ci := 4) (v := .int (0 : Int32)) (ty := .int) (C := R_K) (T := F_K) (N := 6) hx hb hts i_K ty_K ty_K_ok n_K hown hK hP hD hS 1 rfl rfl 5 (by decide) (hts _ wq_134) (fun _ h9 => h9) rfl (by decide +kernel) rfl rfl (Nat.le_of_ble_eq_true rfl) d_K_letGoAll_2 (fun H locs hP hD hS => ?_)
  have hP : va_P z.1 vwCl (cw z A S_1 ++ Rr) H := by rw [e_1]; exact hP
  have hD : va_D A0 (cw z A S_1 ++ Rr) := by rw [e_1]; exact hD
  exact zz_vret (fun S => cw z A S ++ Rr) hx hb hr hlocks hP hD hS h d_K_letGoAll_5

abbrev b_K_letGoName : ByteArray := prog_3_method_5_code
abbrev y_K_letGoName : MethodName := ⟨"MemberChooser$KeptCalls", "letGoName", "(I)V"⟩
abbrev w_K_letGoName : List Cond := Cond.code y_K_letGoName b_K_letGoName 4 none :: zTb
theorem d_K_letGoName_0 : decode b_K_letGoName 0 = .ok (.iconst 0, 1) := by decide +kernel
theorem d_K_letGoName_1 : decode b_K_letGoName 1 = .ok (.istore_n 2, 1) := by decide +kernel
theorem d_K_letGoName_2 : decode b_K_letGoName 2 = .ok (.iconst 0, 1) := by decide +kernel
theorem d_K_letGoName_3 : decode b_K_letGoName 3 = .ok (.istore_n 3, 1) := by decide +kernel
theorem d_K_letGoName_4 : decode b_K_letGoName 4 = .ok (.iload_n 3, 1) := by decide +kernel
theorem d_K_letGoName_5 : decode b_K_letGoName 5 = .ok (.aload_n 0, 1) := by decide +kernel
theorem d_K_letGoName_6 : decode b_K_letGoName 6 = .ok (.getfield 28, 3) := by decide +kernel
theorem d_K_letGoName_9 : decode b_K_letGoName 9 = .ok (.if_icmp .ge 28, 3) := by decide +kernel
theorem d_K_letGoName_12 : decode b_K_letGoName 12 = .ok (.aload_n 0, 1) := by decide +kernel
theorem d_K_letGoName_13 : decode b_K_letGoName 13 = .ok (.getfield 15, 3) := by decide +kernel
theorem d_K_letGoName_16 : decode b_K_letGoName 16 = .ok (.iload_n 3, 1) := by decide +kernel
theorem d_K_letGoName_17 : decode b_K_letGoName 17 = .ok (.iaload, 1) := by decide +kernel
theorem d_K_letGoName_18 : decode b_K_letGoName 18 = .ok (.iload_n 1, 1) := by decide +kernel
theorem d_K_letGoName_19 : decode b_K_letGoName 19 = .ok (.if_icmp .eq 12, 3) := by decide +kernel
theorem d_K_letGoName_22 : decode b_K_letGoName 22 = .ok (.aload_n 0, 1) := by decide +kernel
theorem d_K_letGoName_23 : decode b_K_letGoName 23 = .ok (.iload_n 3, 1) := by decide +kernel
theorem d_K_letGoName_24 : decode b_K_letGoName 24 = .ok (.iload_n 2, 1) := by decide +kernel
theorem d_K_letGoName_25 : decode b_K_letGoName 25 = .ok (.invokevirtual 35, 3) := by decide +kernel
theorem d_K_letGoName_28 : decode b_K_letGoName 28 = .ok (.iinc 2 1, 3) := by decide +kernel
theorem d_K_letGoName_31 : decode b_K_letGoName 31 = .ok (.iinc 3 1, 3) := by decide +kernel
theorem d_K_letGoName_34 : decode b_K_letGoName 34 = .ok (.goto (-30), 3) := by decide +kernel
theorem d_K_letGoName_37 : decode b_K_letGoName 37 = .ok (.aload_n 0, 1) := by decide +kernel
theorem d_K_letGoName_38 : decode b_K_letGoName 38 = .ok (.iload_n 2, 1) := by decide +kernel
theorem d_K_letGoName_39 : decode b_K_letGoName 39 = .ok (.putfield 28, 3) := by decide +kernel
theorem d_K_letGoName_42 : decode b_K_letGoName 42 = .ok (.return_, 1) := by decide +kernel
abbrev rm_K_letGoName : Room := { frames := 1, cells := 0, slots := 0, locals := 22 }
def st_K_letGoName_L4 (n : Nat) (v1 : Int32) (v2 : Int32) (v3 : Int32) (S : ZC) : Option ((Int32 × Int32 × ZC) ⊕ (Nat × Int32 × Int32 × ZC)) :=
  (if (kHe S) ≤ v3 then
  some (.inr (37, v2, v3, S))
  else
  (if zoob v3 100 then none else
    (if ((kNa S) v3.toNatClampNeg) = v1 then
    some (.inl (v2, (v3 + (1 : Int32)), S))
    else
    zbind1 (fx_K_move n S v3 v2) (fun S_4 =>
      some (.inl ((v2 + (1 : Int32)), (v3 + (1 : Int32)), S_4))))))

def fx_K_letGoName_L4 (n : Nat) (v1 : Int32) (v2 : Int32) (v3 : Int32) (S : ZC) : Option (Nat × Int32 × Int32 × ZC) := zloop (fun (st : Int32 × Int32 × ZC) => st_K_letGoName_L4 n v1 st.1 st.2.1 st.2.2) n (v2, v3, S)

def fx_K_letGoName (n : Nat) (S : ZC) (a1 : Int32) : Option (ZC) :=
  zbL3 (fx_K_letGoName_L4 n a1 (0 : Int32) (0 : Int32) S) (fun x_5 v2_5 v3_5 S_5 =>
  if x_5 = 37 then
  zlet (kHe' S_5 v2_5) (fun S_6 =>
  some S_6)
  else none)

set_option maxRecDepth 100000 in
set_option maxHeartbeats 4000000 in
theorem lp_K_letGoName_L4 {z : zE} {A : Nat → Nat} {Rr : va_W} {p : Program} {l : Launch} {e : Env} {s : State} {m : MethodId} {args : Array Value} {below : List Frame} {meth : Method} {c : Code} {Q : State → Prop} {H0 : Heap} {A0 : Nat → Prop} (hM : zM z p s m args c b_K_letGoName 4 R_K) (hA : ∀ q : Nat, H0.size ≤ q → A0 q) (n : Nat) (v1 : Int32) :
    ∀ (v2 : Int32) (v3 : Int32) (S : ZC) (r : Nat × Int32 × Int32 × ZC), fx_K_letGoName_L4 n v1 v2 v3 S = some r → (∀ (H : Heap) (locs : List Loc) (ls : Array Slot), va_P z.1 vwCl (cw z A r.2.2.2 ++ Rr) H → va_D A0 (cw z A r.2.2.2 ++ Rr) → va_S A0 H0 H locs → lv_has ls 4 [(0, .ref (A 1)), (1, .int v1), (2, .int r.2.1), (3, .int r.2.2.1)] → W p l e rm_K_letGoName s m args below meth c H locs 0 0 Q (F0 m r.1 ls [])) →
    ∀ (H : Heap) (locs : List Loc) (ls : Array Slot), va_P z.1 vwCl (cw z A S ++ Rr) H → va_D A0 (cw z A S ++ Rr) → va_S A0 H0 H locs → lv_has ls 4 [(0, .ref (A 1)), (1, .int v1), (2, .int v2), (3, .int v3)] → W p l e rm_K_letGoName s m args below meth c H locs 0 0 Q (F0 m 4 ls []) := by
  obtain ⟨hx, hb, hml, hown, hts, hK, hN⟩ := id hM
  intro v2 v3 S r h hE
  refine zz_loop (G := fun (st : Int32 × Int32 × ZC) => ∀ (H : Heap) (locs : List Loc) (ls : Array Slot), va_P z.1 vwCl (cw z A st.2.2 ++ Rr) H → va_D A0 (cw z A st.2.2 ++ Rr) → va_S A0 H0 H locs → lv_has ls 4 [(0, .ref (A 1)), (1, .int v1), (2, .int st.1), (3, .int st.2.1)] → W p l e rm_K_letGoName s m args below meth c H locs 0 0 Q (F0 m 4 ls [])) (E := fun (r : Nat × Int32 × Int32 × ZC) => ∀ (H : Heap) (locs : List Loc) (ls : Array Slot), va_P z.1 vwCl (cw z A r.2.2.2 ++ Rr) H → va_D A0 (cw z A r.2.2.2 ++ Rr) → va_S A0 H0 H locs → lv_has ls 4 [(0, .ref (A 1)), (1, .int v1), (2, .int r.2.1), (3, .int r.2.2.1)] → W p l e rm_K_letGoName s m args below meth c H locs 0 0 Q (F0 m r.1 ls [])) ?_ n (v2, v3, S) r h hE
  clear h hE r v2 v3 S
  rintro ⟨v2, v3, S⟩ o h hG hE H locs ls hP hD hS hl
  have h : st_K_letGoName_L4 n v1 v2 v3 S = some o := h
  have hl : lv_has ls 4 [(0, .ref (A 1)), (1, .int v1), (2, .int v2), (3, .int v3)] := hl
  have hP : va_P z.1 vwCl (cw z A S ++ Rr) H := hP
  have hD : va_D A0 (cw z A S ++ Rr) := hD
  unfold st_K_letGoName_L4 at h
  refine lv_iload_n hx hb d_K_letGoName_4 rfl (lv_at hl 3 rfl) ?_
  refine lv_aload_n hx hb d_K_letGoName_5 rfl (lv_at hl 0 rfl) ?_
  refine va_get (D := z.1) (ci := 4) (v := .int (kHe S)) (C := R_K) (T := F_K) (N := 6) hx hb hts i_K hown hK hP 1 rfl rfl 5 (by decide) (hts _ wq_134) (fun _ h9 => h9) rfl d_K_letGoName_6 ?_
  refine lv_icmp_ge (tgt := 37) hx hb d_K_letGoName_9 (by decide) (fun c_1 => ?_) (fun c_1 => ?_)
  · replace h := zz_t c_1 h
    exact hE _ (Option.some.inj h).symm _ _ _ hP hD hS hl
  · replace h := zz_f c_1 h
    refine lv_aload_n hx hb d_K_letGoName_12 rfl (lv_at hl 0 rfl) ?_
    refine va_get (D := z.1) (ci := 4) (v := .ref (A 3)) (C := R_K) (T := F_K) (N := 6) hx hb hts i_K hown hK hP 1 rfl rfl 1 (by decide) (hts _ wq_129) (fun _ h9 => h9) rfl d_K_letGoName_13 ?_
    refine lv_iload_n hx hb d_K_letGoName_16 rfl (lv_at hl 3 rfl) ?_
    obtain ⟨c_2, h⟩ := zz_oob h
    refine va_iald hx hb hK hP 3 0 rfl rfl c_2 d_K_letGoName_17 ?_
    refine lv_iload_n hx hb d_K_letGoName_18 rfl (lv_at hl 1 rfl) ?_
    refine lv_icmp_eq (tgt := 31) hx hb d_K_letGoName_19 (by decide) (fun c_3 => ?_) (fun c_3 => ?_)
    · replace h := zz_t c_3 h
      refine lv_iinc (v := (v3 + (1 : Int32))) (lv' := [(3, .int (v3 + (1 : Int32))), (0, .ref (A 1)), (1, .int v1), (2, .int v2)]) hx hb d_K_letGoName_31 hl (k := 3) rfl rfl (by decide) rfl (fun ls hl => ?_)
      refine lv_goto (tgt := 4) hx hb d_K_letGoName_34 (by decide) ?_
      exact hG _ (Option.some.inj h).symm _ _ _ hP hD hS (lv_sub hl [1, 2, 3, 0] rfl)
    · replace h := zz_f c_3 h
      refine lv_aload_n hx hb d_K_letGoName_22 rfl (lv_at hl 0 rfl) ?_
      refine lv_iload_n hx hb d_K_letGoName_23 rfl (lv_at hl 3 rfl) ?_
      refine lv_iload_n hx hb d_K_letGoName_24 rfl (lv_at hl 2 rfl) ?_
      obtain ⟨S_4, e_4, h⟩ := zz_bind1 h
      refine zz_goV (zz_runV (As := [.int v3, .int v2]) (rest := []) (k_K_move l z A Rr n _ _ _ _ e_4) ⟨hx, hb, hml, hown, hts⟩ (cwV 2 hts (zz_gV wq_426 wq_428 wp_7 wq_5 wq_429) rfl rfl rfl (by decide +kernel) ⟨Nat.le_of_ble_eq_true rfl, Nat.le_of_ble_eq_true rfl⟩) hK hN hP hD (va_recv hK hP (ci := 4) (q0 := 1) rfl rfl) rfl hl.1 rfl (Nat.le_of_ble_eq_true rfl) d_K_letGoName_25 ⟨Nat.le_of_ble_eq_true rfl, Nat.le_of_ble_eq_true rfl⟩) hD hS hA (fun H locs hP hD hS => ?_)
      refine lv_iinc (v := (v2 + (1 : Int32))) (lv' := [(2, .int (v2 + (1 : Int32))), (0, .ref (A 1)), (1, .int v1), (3, .int v3)]) hx hb d_K_letGoName_28 hl (k := 2) rfl rfl (by decide) rfl (fun ls hl => ?_)
      refine lv_iinc (v := (v3 + (1 : Int32))) (lv' := [(3, .int (v3 + (1 : Int32))), (2, .int (v2 + (1 : Int32))), (0, .ref (A 1)), (1, .int v1)]) hx hb d_K_letGoName_31 hl (k := 3) rfl rfl (by decide) rfl (fun ls hl => ?_)
      refine lv_goto (tgt := 4) hx hb d_K_letGoName_34 (by decide) ?_
      exact hG _ (Option.some.inj h).symm _ _ _ hP hD hS (lv_sub hl [2, 3, 1, 0] rfl)

set_option maxRecDepth 100000 in
set_option maxHeartbeats 4000000 in
theorem k_K_letGoName (l : Launch) (z : zE) (A : Nat → Nat) (Rr : va_W) (n : Nat) (S : ZC) (a1 : Int32) (S' : ZC) (h : fx_K_letGoName n S a1 = some S') : zC z l y_K_letGoName w_K_letGoName rm_K_letGoName [.ref (A 1), .int a1] (cw z A S ++ Rr) none (cw z A S' ++ Rr) := by
  refine zz_of (by decide) (Nat.le_of_ble_eq_true rfl) ?_
  intro p e s m args below meth c A0 ls hM hr hlocks hA hP hD hl
  have hM : zM z p s m args c b_K_letGoName 4 R_K := hM
  obtain ⟨hx, hb, hml, hown, hts, hK, hN⟩ := id hM
  have hS : va_S A0 s.heap s.heap [] := va_S.rf
  have hl : lv_has ls 4 [(0, .ref (A 1)), (1, .int a1)] := hl
  unfold fx_K_letGoName at h
  refine lv_iconst (v := 0) hx hb d_K_letGoName_0 (by decide) ?_
  refine lv_istore_n (lv' := [(2, .int (0 : Int32)), (0, .ref (A 1)), (1, .int a1)]) hx hb d_K_letGoName_1 rfl hl (by decide) rfl (fun ls hl => ?_)
  refine lv_iconst (v := 0) hx hb d_K_letGoName_2 (by decide) ?_
  refine lv_istore_n (lv' := [(3, .int (0 : Int32)), (2, .int (0 : Int32)), (0, .ref (A 1)), (1, .int a1)]) hx hb d_K_letGoName_3 rfl hl (by decide) rfl (fun ls hl => ?_)
  replace h := zz_bL3 h
  obtain ⟨x_5, v2_5, v3_5, S_5, e_5, h⟩ := h
  refine lp_K_letGoName_L4 hM hA n a1 _ _ _ _ e_5 ?_ _ _ _ hP hD hS (lv_sub hl [2, 3, 1, 0] rfl)
  intro H locs ls hP hD hS hl
  have hl : lv_has ls 4 [(0, .ref (A 1)), (1, .int a1), (2, .int v2_5), (3, .int v3_5)] := hl
  have hP : va_P z.1 vwCl (cw z A S_5 ++ Rr) H := hP
  have hD : va_D A0 (cw z A S_5 ++ Rr) := hD
  replace h := zz_grd h
  obtain ⟨c_5, h⟩ := h
  subst c_5
  refine W.eq (g2 := F0 m 37 ls []) rfl ?_
  refine lv_aload_n hx hb d_K_letGoName_37 rfl (lv_at hl 0 rfl) ?_
  refine lv_iload_n hx hb d_K_letGoName_38 rfl (lv_at hl 2 rfl) ?_
  obtain ⟨S_6, e_6, h⟩ := zz_let h
  refine va_put (D := z.1) (ci := 4) (v := .int v2_5) (ty := .int) (C := R_K) (T := F_K) (N := 6) hx hb hts i_K ty_K ty_K_ok n_K hown hK hP hD hS 1 rfl rfl 5 (by decide) (hts _ wq_134) (fun _ h9 => h9) rfl (by decide +kernel) rfl rfl (Nat.le_of_ble_eq_true rfl) d_K_letGoName_39 (fun H locs hP hD hS => ?_)
  have hP : va_P z.1 vwCl (cw z A S_6 ++ Rr) H := by rw [e_6]; exact hP
  have hD : va_D A0 (cw z A S_6 ++ Rr) := by rw [e_6]; exact hD
  exact zz_vret (fun S => cw z A S ++ Rr) hx hb hr hlocks hP hD hS h d_K_letGoName_42

abbrev b_X_join : ByteArray := prog_1_method_4_code
abbrev y_X_join : MethodName := ⟨"MemberChooser", "join", "(II)Z"⟩
abbrev w_X_join : List Cond := Cond.code y_X_join b_X_join 3 (some .boolean) :: zTb
theorem d_X_join_0 : decode b_X_join 0 = .ok (.aload_n 0, 1) := by decide +kernel
theorem d_X_join_1 : decode b_X_join 1 = .ok (.getfield 10, 3) := by decide +kernel
theorem d_X_join_4 : decode b_X_join 4 = .ok (.iload_n 1, 1) := by decide +kernel
theorem d_X_join_5 : decode b_X_join 5 = .ok (.iload_n 2, 1) := by decide +kernel
theorem d_X_join_6 : decode b_X_join 6 = .ok (.invokevirtual 70, 3) := by decide +kernel
theorem d_X_join_9 : decode b_X_join 9 = .ok (.ifCond .ne 5, 3) := by decide +kernel
theorem d_X_join_12 : decode b_X_join 12 = .ok (.iconst 0, 1) := by decide +kernel
theorem d_X_join_13 : decode b_X_join 13 = .ok (.ireturn, 1) := by decide +kernel
theorem d_X_join_14 : decode b_X_join 14 = .ok (.aload_n 0, 1) := by decide +kernel
theorem d_X_join_15 : decode b_X_join 15 = .ok (.getfield 35, 3) := by decide +kernel
theorem d_X_join_18 : decode b_X_join 18 = .ok (.invokevirtual 74, 3) := by decide +kernel
theorem d_X_join_21 : decode b_X_join 21 = .ok (.iconst 1, 1) := by decide +kernel
theorem d_X_join_22 : decode b_X_join 22 = .ok (.ireturn, 1) := by decide +kernel
abbrev rm_X_join : Room := { frames := 4, cells := 0, slots := 0, locals := 89 }
def fx_X_join (n : Nat) (S : ZC) (a1 : Int32) (a2 : Int32) : Option (Int32 × ZC) :=
  zbind (fx_T_addFaceAbove n S a1 a2) (fun r_1 S_1 =>
  (if r_1 = 0 then
  some ((0 : Int32), S_1)
  else
  zbind1 (fx_K_letGoAll n S_1) (fun S_3 =>
    some ((1 : Int32), S_3))))

set_option maxRecDepth 100000 in
set_option maxHeartbeats 4000000 in
theorem k_X_join (l : Launch) (z : zE) (A : Nat → Nat) (Rr : va_W) (n : Nat) (S : ZC) (a1 : Int32) (a2 : Int32) (r0 : Int32) (S' : ZC) (h : fx_X_join n S a1 a2 = some (r0, S')) : zC z l y_X_join w_X_join rm_X_join [.ref (A 0), .int a1, .int a2] (cw z A S ++ Rr) (some (.int r0)) (cw z A S' ++ Rr) := by
  refine zz_of (by decide) (Nat.le_of_ble_eq_true rfl) ?_
  intro p e s m args below meth c A0 ls hM hr hlocks hA hP hD hl
  have hM : zM z p s m args c b_X_join 3 R_X := hM
  obtain ⟨hx, hb, hml, hown, hts, hK, hN⟩ := id hM
  have hS : va_S A0 s.heap s.heap [] := va_S.rf
  have hl : lv_has ls 3 [(0, .ref (A 0)), (1, .int a1), (2, .int a2)] := hl
  unfold fx_X_join at h
  refine lv_aload_n hx hb d_X_join_0 rfl (lv_at hl 0 rfl) ?_
  refine va_get (D := z.1) (ci := 0) (v := .ref (A 17)) (C := R_X) (T := F_X) (N := 6) hx hb hts i_X hown hK hP 0 rfl rfl 0 (by decide) (hts _ wq_149) (fun _ h9 => h9) rfl d_X_join_1 ?_
  refine lv_iload_n hx hb d_X_join_4 rfl (lv_at hl 1 rfl) ?_
  refine lv_iload_n hx hb d_X_join_5 rfl (lv_at hl 2 rfl) ?_
  obtain ⟨r_1, S_1, e_1, h⟩ := zz_bind h
  refine zz_goI (zz_runV (As := [.int a1, .int a2]) (rest := []) (k_T_addFaceAbove l z A Rr n _ _ _ _ _ e_1) ⟨hx, hb, hml, hown, hts⟩ (cwV 2 hts (zz_gV wq_172 wq_173 wq_174 wq_2 wq_175) rfl rfl rfl (by decide +kernel) ⟨Nat.le_of_ble_eq_true rfl, Nat.le_of_ble_eq_true rfl⟩) hK hN hP hD (va_recv hK hP (ci := 1) (q0 := 17) rfl rfl) rfl hl.1 rfl (Nat.le_of_ble_eq_true rfl) d_X_join_6 ⟨Nat.le_of_ble_eq_true rfl, Nat.le_of_ble_eq_true rfl⟩) hD hS hA (fun H locs hP hD hS => ?_)
  refine lv_if_ne (tgt := 14) hx hb d_X_join_9 (by decide) (fun c_2 => ?_) (fun c_2 => ?_)
  · replace h := zz_f c_2 h
    refine lv_aload_n hx hb d_X_join_14 rfl (lv_at hl 0 rfl) ?_
    refine va_get (D := z.1) (ci := 0) (v := .ref (A 1)) (C := R_X) (T := F_X) (N := 6) hx hb hts i_X hown hK hP 0 rfl rfl 3 (by decide) (hts _ wq_152) (fun _ h9 => h9) rfl d_X_join_15 ?_
    obtain ⟨S_3, e_3, h⟩ := zz_bind1 h
    refine zz_goV (zz_runV (As := []) (rest := []) (k_K_letGoAll l z A Rr n _ _ e_3) ⟨hx, hb, hml, hown, hts⟩ (cwV 0 hts (zz_gV wq_203 wq_204 wq_205 wq_5 wq_206) rfl rfl rfl (by decide +kernel) ⟨Nat.le_of_ble_eq_true rfl, Nat.le_of_ble_eq_true rfl⟩) hK hN hP hD (va_recv hK hP (ci := 4) (q0 := 1) rfl rfl) rfl hl.1 rfl (Nat.le_of_ble_eq_true rfl) d_X_join_18 ⟨Nat.le_of_ble_eq_true rfl, Nat.le_of_ble_eq_true rfl⟩) hD hS hA (fun H locs hP hD hS => ?_)
    refine lv_iconst (v := 1) hx hb d_X_join_21 (by decide) ?_
    exact zz_zret (fun S => cw z A S ++ Rr) hx hb hr hlocks hP hD hS rfl h d_X_join_22
  · replace h := zz_t c_2 h
    refine lv_iconst (v := 0) hx hb d_X_join_12 (by decide) ?_
    exact zz_zret (fun S => cw z A S ++ Rr) hx hb hr hlocks hP hD hS rfl h d_X_join_13

abbrev b_X_areParameters : ByteArray := prog_1_method_12_code
abbrev y_X_areParameters : MethodName := ⟨"MemberChooser", "areParameters", "(IJ)Z"⟩
abbrev w_X_areParameters : List Cond := Cond.code y_X_areParameters b_X_areParameters 5 (some .boolean) :: zTb
theorem d_X_areParameters_0 : decode b_X_areParameters 0 = .ok (.iload_n 1, 1) := by decide +kernel
theorem d_X_areParameters_1 : decode b_X_areParameters 1 = .ok (.ifCond .lt 8, 3) := by decide +kernel
theorem d_X_areParameters_4 : decode b_X_areParameters 4 = .ok (.iload_n 1, 1) := by decide +kernel
theorem d_X_areParameters_5 : decode b_X_areParameters 5 = .ok (.iconst 4, 1) := by decide +kernel
theorem d_X_areParameters_6 : decode b_X_areParameters 6 = .ok (.if_icmp .le 5, 3) := by decide +kernel
theorem d_X_areParameters_9 : decode b_X_areParameters 9 = .ok (.iconst 0, 1) := by decide +kernel
theorem d_X_areParameters_10 : decode b_X_areParameters 10 = .ok (.ireturn, 1) := by decide +kernel
theorem d_X_areParameters_11 : decode b_X_areParameters 11 = .ok (.iconst 0, 1) := by decide +kernel
theorem d_X_areParameters_12 : decode b_X_areParameters 12 = .ok (.istore 4, 2) := by decide +kernel
theorem d_X_areParameters_14 : decode b_X_areParameters 14 = .ok (.iload 4, 2) := by decide +kernel
theorem d_X_areParameters_16 : decode b_X_areParameters 16 = .ok (.iload_n 1, 1) := by decide +kernel
theorem d_X_areParameters_17 : decode b_X_areParameters 17 = .ok (.if_icmp .ge 27, 3) := by decide +kernel
theorem d_X_areParameters_20 : decode b_X_areParameters 20 = .ok (.aload_n 0, 1) := by decide +kernel
theorem d_X_areParameters_21 : decode b_X_areParameters 21 = .ok (.getfield 10, 3) := by decide +kernel
theorem d_X_areParameters_24 : decode b_X_areParameters 24 = .ok (.lload_n 2, 1) := by decide +kernel
theorem d_X_areParameters_25 : decode b_X_areParameters 25 = .ok (.iload 4, 2) := by decide +kernel
theorem d_X_areParameters_27 : decode b_X_areParameters 27 = .ok (.invokestatic 160, 3) := by decide +kernel
theorem d_X_areParameters_30 : decode b_X_areParameters 30 = .ok (.invokevirtual 164, 3) := by decide +kernel
theorem d_X_areParameters_33 : decode b_X_areParameters 33 = .ok (.ifCond .ne 5, 3) := by decide +kernel
theorem d_X_areParameters_36 : decode b_X_areParameters 36 = .ok (.iconst 0, 1) := by decide +kernel
theorem d_X_areParameters_37 : decode b_X_areParameters 37 = .ok (.ireturn, 1) := by decide +kernel
theorem d_X_areParameters_38 : decode b_X_areParameters 38 = .ok (.iinc 4 1, 3) := by decide +kernel
theorem d_X_areParameters_41 : decode b_X_areParameters 41 = .ok (.goto (-27), 3) := by decide +kernel
theorem d_X_areParameters_44 : decode b_X_areParameters 44 = .ok (.iconst 1, 1) := by decide +kernel
theorem d_X_areParameters_45 : decode b_X_areParameters 45 = .ok (.ireturn, 1) := by decide +kernel
abbrev rm_X_areParameters : Room := { frames := 1, cells := 0, slots := 0, locals := 22 }
def st_X_areParameters_L14 (n : Nat) (v1 : Int32) (v2 : Int64) (v4 : Int32) (S : ZC) : Option ((Int32 × ZC) ⊕ (Nat × Int32 × ZC)) :=
  (if v1 ≤ v4 then
  some (.inr (44, v4, S))
  else
  zbind1 (fx_X_byteAt n v2 v4) (fun r_4 =>
    zbind (fx_T_exists n S r_4) (fun r_5 S_5 =>
    (if r_5 = 0 then
    some (.inr (36, v4, S_5))
    else
    some (.inl ((v4 + (1 : Int32)), S_5))))))

def fx_X_areParameters_L14 (n : Nat) (v1 : Int32) (v2 : Int64) (v4 : Int32) (S : ZC) : Option (Nat × Int32 × ZC) := zloop (fun (st : Int32 × ZC) => st_X_areParameters_L14 n v1 v2 st.1 st.2) n (v4, S)

def fx_X_areParameters (n : Nat) (S : ZC) (a1 : Int32) (a2 : Int64) : Option (Int32 × ZC) :=
  (if a1 < 0 then
  some ((0 : Int32), S)
  else
  (if a1 ≤ (4 : Int32) then
    zbL2 (fx_X_areParameters_L14 n a1 a2 (0 : Int32) S) (fun x_7 v4_7 S_7 =>
      if x_7 = 36 then
      some ((0 : Int32), S_7)
      else if x_7 = 44 then
      some ((1 : Int32), S_7)
      else none)
    else
    some ((0 : Int32), S)))

set_option maxRecDepth 100000 in
set_option maxHeartbeats 4000000 in
theorem lp_X_areParameters_L14 {z : zE} {A : Nat → Nat} {Rr : va_W} {p : Program} {l : Launch} {e : Env} {s : State} {m : MethodId} {args : Array Value} {below : List Frame} {meth : Method} {c : Code} {Q : State → Prop} {H0 : Heap} {A0 : Nat → Prop} (hM : zM z p s m args c b_X_areParameters 5 R_X) (hA : ∀ q : Nat, H0.size ≤ q → A0 q) (n : Nat) (v1 : Int32) (v2 : Int64) :
    ∀ (v4 : Int32) (S : ZC) (r : Nat × Int32 × ZC), fx_X_areParameters_L14 n v1 v2 v4 S = some r → (∀ (H : Heap) (locs : List Loc) (ls : Array Slot), va_P z.1 vwCl (cw z A r.2.2 ++ Rr) H → va_D A0 (cw z A r.2.2 ++ Rr) → va_S A0 H0 H locs → lv_has ls 5 [(0, .ref (A 0)), (1, .int v1), (2, .long v2), (4, .int r.2.1)] → W p l e rm_X_areParameters s m args below meth c H locs 0 0 Q (F0 m r.1 ls [])) →
    ∀ (H : Heap) (locs : List Loc) (ls : Array Slot), va_P z.1 vwCl (cw z A S ++ Rr) H → va_D A0 (cw z A S ++ Rr) → va_S A0 H0 H locs → lv_has ls 5 [(0, .ref (A 0)), (1, .int v1), (2, .long v2), (4, .int v4)] → W p l e rm_X_areParameters s m args below meth c H locs 0 0 Q (F0 m 14 ls []) := by
  obtain ⟨hx, hb, hml, hown, hts, hK, hN⟩ := id hM
  intro v4 S r h hE
  refine zz_loop (G := fun (st : Int32 × ZC) => ∀ (H : Heap) (locs : List Loc) (ls : Array Slot), va_P z.1 vwCl (cw z A st.2 ++ Rr) H → va_D A0 (cw z A st.2 ++ Rr) → va_S A0 H0 H locs → lv_has ls 5 [(0, .ref (A 0)), (1, .int v1), (2, .long v2), (4, .int st.1)] → W p l e rm_X_areParameters s m args below meth c H locs 0 0 Q (F0 m 14 ls [])) (E := fun (r : Nat × Int32 × ZC) => ∀ (H : Heap) (locs : List Loc) (ls : Array Slot), va_P z.1 vwCl (cw z A r.2.2 ++ Rr) H → va_D A0 (cw z A r.2.2 ++ Rr) → va_S A0 H0 H locs → lv_has ls 5 [(0, .ref (A 0)), (1, .int v1), (2, .long v2), (4, .int r.2.1)] → W p l e rm_X_areParameters s m args below meth c H locs 0 0 Q (F0 m r.1 ls [])) ?_ n (v4, S) r h hE
  clear h hE r v4 S
  rintro ⟨v4, S⟩ o h hG hE H locs ls hP hD hS hl
  have h : st_X_areParameters_L14 n v1 v2 v4 S = some o := h
  have hl : lv_has ls 5 [(0, .ref (A 0)), (1, .int v1), (2, .long v2), (4, .int v4)] := hl
  have hP : va_P z.1 vwCl (cw z A S ++ Rr) H := hP
  have hD : va_D A0 (cw z A S ++ Rr) := hD
  unfold st_X_areParameters_L14 at h
  refine lv_iload hx hb d_X_areParameters_14 (lv_at hl 3 rfl) ?_
  refine lv_iload_n hx hb d_X_areParameters_16 rfl (lv_at hl 1 rfl) ?_
  refine lv_icmp_ge (tgt := 44) hx hb d_X_areParameters_17 (by decide) (fun c_3 => ?_) (fun c_3 => ?_)
  · replace h := zz_t c_3 h
    exact hE _ (Option.some.inj h).symm _ _ _ hP hD hS hl
  · replace h := zz_f c_3 h
    refine lv_aload_n hx hb d_X_areParameters_20 rfl (lv_at hl 0 rfl) ?_
    refine va_get (D := z.1) (ci := 0) (v := .ref (A 17)) (C := R_X) (T := F_X) (N := 6) hx hb hts i_X hown hK hP 0 rfl rfl 0 (by decide) (hts _ wq_149) (fun _ h9 => h9) rfl d_X_areParameters_21 ?_
    refine lv_lload_n hx hb d_X_areParameters_24 rfl (lv_at hl 2 rfl) ?_
    refine lv_iload hx hb d_X_areParameters_25 (lv_at hl 3 rfl) ?_
    obtain ⟨r_4, e_4, h⟩ := zz_bind1 h
    refine zz_goI (zz_runS (As := [.long v2, .int v4]) (rest := [.ref (A 17)]) (k_X_byteAt l z _ n _ _ _ e_4) ⟨hx, hb, hml, hown, hts⟩ (va_cwS 2 hts (zz_gS wq_406 wq_256 wq_1 wq_257) rfl rfl rfl (by decide +kernel) ⟨Nat.le_of_ble_eq_true rfl, Nat.le_of_ble_eq_true rfl⟩) hK hN hP hD rfl hl.1 rfl (Nat.le_of_ble_eq_true rfl) d_X_areParameters_27 ⟨Nat.le_of_ble_eq_true rfl, Nat.le_of_ble_eq_true rfl⟩) hD hS hA (fun H locs hP hD hS => ?_)
    obtain ⟨r_5, S_5, e_5, h⟩ := zz_bind h
    refine zz_goI (zz_runV (As := [.int r_4]) (rest := []) (k_T_exists l z A Rr n _ _ _ _ e_5) ⟨hx, hb, hml, hown, hts⟩ (cwV 1 hts (zz_gV wq_407 wq_181 wq_182 wq_2 wq_183) rfl rfl rfl (by decide +kernel) ⟨Nat.le_of_ble_eq_true rfl, Nat.le_of_ble_eq_true rfl⟩) hK hN hP hD (va_recv hK hP (ci := 1) (q0 := 17) rfl rfl) rfl hl.1 rfl (Nat.le_of_ble_eq_true rfl) d_X_areParameters_30 ⟨Nat.le_of_ble_eq_true rfl, Nat.le_of_ble_eq_true rfl⟩) hD hS hA (fun H locs hP hD hS => ?_)
    refine lv_if_ne (tgt := 38) hx hb d_X_areParameters_33 (by decide) (fun c_6 => ?_) (fun c_6 => ?_)
    · replace h := zz_f c_6 h
      refine lv_iinc (v := (v4 + (1 : Int32))) (lv' := [(4, .int (v4 + (1 : Int32))), (0, .ref (A 0)), (1, .int v1), (2, .long v2)]) hx hb d_X_areParameters_38 hl (k := 3) rfl rfl (by decide) rfl (fun ls hl => ?_)
      refine lv_goto (tgt := 14) hx hb d_X_areParameters_41 (by decide) ?_
      exact hG _ (Option.some.inj h).symm _ _ _ hP hD hS (lv_sub hl [1, 2, 3, 0] rfl)
    · replace h := zz_t c_6 h
      exact hE _ (Option.some.inj h).symm _ _ _ hP hD hS hl

set_option maxRecDepth 100000 in
set_option maxHeartbeats 4000000 in
theorem k_X_areParameters (l : Launch) (z : zE) (A : Nat → Nat) (Rr : va_W) (n : Nat) (S : ZC) (a1 : Int32) (a2 : Int64) (r0 : Int32) (S' : ZC) (h : fx_X_areParameters n S a1 a2 = some (r0, S')) : zC z l y_X_areParameters w_X_areParameters rm_X_areParameters [.ref (A 0), .int a1, .long a2] (cw z A S ++ Rr) (some (.int r0)) (cw z A S' ++ Rr) := by
  refine zz_of (by decide) (Nat.le_of_ble_eq_true rfl) ?_
  intro p e s m args below meth c A0 ls hM hr hlocks hA hP hD hl
  have hM : zM z p s m args c b_X_areParameters 5 R_X := hM
  obtain ⟨hx, hb, hml, hown, hts, hK, hN⟩ := id hM
  have hS : va_S A0 s.heap s.heap [] := va_S.rf
  have hl : lv_has ls 5 [(0, .ref (A 0)), (1, .int a1), (2, .long a2)] := hl
  unfold fx_X_areParameters at h
  refine lv_iload_n hx hb d_X_areParameters_0 rfl (lv_at hl 1 rfl) ?_
  refine lv_if_lt (tgt := 9) hx hb d_X_areParameters_1 (by decide) (fun c_1 => ?_) (fun c_1 => ?_)
  · replace h := zz_t c_1 h
    refine lv_iconst (v := 0) hx hb d_X_areParameters_9 (by decide) ?_
    exact zz_zret (fun S => cw z A S ++ Rr) hx hb hr hlocks hP hD hS rfl h d_X_areParameters_10
  · replace h := zz_f c_1 h
    refine lv_iload_n hx hb d_X_areParameters_4 rfl (lv_at hl 1 rfl) ?_
    refine lv_iconst (v := 4) hx hb d_X_areParameters_5 (by decide) ?_
    refine lv_icmp_le (tgt := 11) hx hb d_X_areParameters_6 (by decide) (fun c_2 => ?_) (fun c_2 => ?_)
    · replace h := zz_t c_2 h
      refine lv_iconst (v := 0) hx hb d_X_areParameters_11 (by decide) ?_
      refine lv_istore (lv' := [(4, .int (0 : Int32)), (0, .ref (A 0)), (1, .int a1), (2, .long a2)]) hx hb d_X_areParameters_12 hl (by decide) rfl (fun ls hl => ?_)
      replace h := zz_bL2 h
      obtain ⟨x_7, v4_7, S_7, e_7, h⟩ := h
      refine lp_X_areParameters_L14 hM hA n a1 a2 _ _ _ e_7 ?_ _ _ _ hP hD hS (lv_sub hl [1, 2, 3, 0] rfl)
      intro H locs ls hP hD hS hl
      have hl : lv_has ls 5 [(0, .ref (A 0)), (1, .int a1), (2, .long a2), (4, .int v4_7)] := hl
      have hP : va_P z.1 vwCl (cw z A S_7 ++ Rr) H := hP
      have hD : va_D A0 (cw z A S_7 ++ Rr) := hD
      by_cases c_7 : x_7 = 36
      · replace h := zz_t c_7 h
        subst c_7
        refine W.eq (g2 := F0 m 36 ls []) rfl ?_
        refine lv_iconst (v := 0) hx hb d_X_areParameters_36 (by decide) ?_
        exact zz_zret (fun S => cw z A S ++ Rr) hx hb hr hlocks hP hD hS rfl h d_X_areParameters_37
      replace h := zz_f c_7 h
      replace h := zz_grd h
      obtain ⟨c_7, h⟩ := h
      subst c_7
      refine W.eq (g2 := F0 m 44 ls []) rfl ?_
      refine lv_iconst (v := 1) hx hb d_X_areParameters_44 (by decide) ?_
      exact zz_zret (fun S => cw z A S ++ Rr) hx hb hr hlocks hP hD hS rfl h d_X_areParameters_45
    · replace h := zz_f c_2 h
      refine lv_iconst (v := 0) hx hb d_X_areParameters_9 (by decide) ?_
      exact zz_zret (fun S => cw z A S ++ Rr) hx hb hr hlocks hP hD hS rfl h d_X_areParameters_10

abbrev b_X_subtype : ByteArray := prog_1_method_6_code
abbrev y_X_subtype : MethodName := ⟨"MemberChooser", "subtype", "(II)Z"⟩
abbrev w_X_subtype : List Cond := Cond.code y_X_subtype b_X_subtype 3 (some .boolean) :: zTb
theorem d_X_subtype_0 : decode b_X_subtype 0 = .ok (.aload_n 0, 1) := by decide +kernel
theorem d_X_subtype_1 : decode b_X_subtype 1 = .ok (.getfield 10, 3) := by decide +kernel
theorem d_X_subtype_4 : decode b_X_subtype 4 = .ok (.iload_n 1, 1) := by decide +kernel
theorem d_X_subtype_5 : decode b_X_subtype 5 = .ok (.iload_n 2, 1) := by decide +kernel
theorem d_X_subtype_6 : decode b_X_subtype 6 = .ok (.invokevirtual 108, 3) := by decide +kernel
theorem d_X_subtype_9 : decode b_X_subtype 9 = .ok (.ireturn, 1) := by decide +kernel
abbrev rm_X_subtype : Room := { frames := 2, cells := 0, slots := 0, locals := 43 }
def fx_X_subtype (n : Nat) (S : ZC) (a1 : Int32) (a2 : Int32) : Option (Int32 × ZC) :=
  zbind (fx_T_isSubtype n S a1 a2) (fun r_1 S_1 =>
  (if r_1 = 0 ∨ r_1 = 1 then some (r_1, S_1) else none))

set_option maxRecDepth 100000 in
set_option maxHeartbeats 4000000 in
theorem k_X_subtype (l : Launch) (z : zE) (A : Nat → Nat) (Rr : va_W) (n : Nat) (S : ZC) (a1 : Int32) (a2 : Int32) (r0 : Int32) (S' : ZC) (h : fx_X_subtype n S a1 a2 = some (r0, S')) : zC z l y_X_subtype w_X_subtype rm_X_subtype [.ref (A 0), .int a1, .int a2] (cw z A S ++ Rr) (some (.int r0)) (cw z A S' ++ Rr) := by
  refine zz_of (by decide) (Nat.le_of_ble_eq_true rfl) ?_
  intro p e s m args below meth c A0 ls hM hr hlocks hA hP hD hl
  have hM : zM z p s m args c b_X_subtype 3 R_X := hM
  obtain ⟨hx, hb, hml, hown, hts, hK, hN⟩ := id hM
  have hS : va_S A0 s.heap s.heap [] := va_S.rf
  have hl : lv_has ls 3 [(0, .ref (A 0)), (1, .int a1), (2, .int a2)] := hl
  unfold fx_X_subtype at h
  refine lv_aload_n hx hb d_X_subtype_0 rfl (lv_at hl 0 rfl) ?_
  refine va_get (D := z.1) (ci := 0) (v := .ref (A 17)) (C := R_X) (T := F_X) (N := 6) hx hb hts i_X hown hK hP 0 rfl rfl 0 (by decide) (hts _ wq_149) (fun _ h9 => h9) rfl d_X_subtype_1 ?_
  refine lv_iload_n hx hb d_X_subtype_4 rfl (lv_at hl 1 rfl) ?_
  refine lv_iload_n hx hb d_X_subtype_5 rfl (lv_at hl 2 rfl) ?_
  obtain ⟨r_1, S_1, e_1, h⟩ := zz_bind h
  refine zz_goI (zz_runV (As := [.int a1, .int a2]) (rest := []) (k_T_isSubtype l z A Rr n _ _ _ _ _ e_1) ⟨hx, hb, hml, hown, hts⟩ (cwV 2 hts (zz_gV wq_211 wq_189 wq_190 wq_2 wq_191) rfl rfl rfl (by decide +kernel) ⟨Nat.le_of_ble_eq_true rfl, Nat.le_of_ble_eq_true rfl⟩) hK hN hP hD (va_recv hK hP (ci := 1) (q0 := 17) rfl rfl) rfl hl.1 rfl (Nat.le_of_ble_eq_true rfl) d_X_subtype_6 ⟨Nat.le_of_ble_eq_true rfl, Nat.le_of_ble_eq_true rfl⟩) hD hS hA (fun H locs hP hD hS => ?_)
  obtain ⟨c_2, h⟩ := zz_grd h
  exact zz_zret (fun S => cw z A S ++ Rr) hx hb hr hlocks hP hD hS (zz_bool c_2) h d_X_subtype_9

abbrev b_H_isHidden : ByteArray := prog_2_method_6_code
abbrev y_H_isHidden : MethodName := ⟨"MemberChooser$Chooser", "isHidden", "(I)Z"⟩
abbrev w_H_isHidden : List Cond := Cond.code y_H_isHidden b_H_isHidden 3 (some .boolean) :: zTb
theorem d_H_isHidden_0 : decode b_H_isHidden 0 = .ok (.iconst 0, 1) := by decide +kernel
theorem d_H_isHidden_1 : decode b_H_isHidden 1 = .ok (.istore_n 2, 1) := by decide +kernel
theorem d_H_isHidden_2 : decode b_H_isHidden 2 = .ok (.iload_n 2, 1) := by decide +kernel
theorem d_H_isHidden_3 : decode b_H_isHidden 3 = .ok (.aload_n 0, 1) := by decide +kernel
theorem d_H_isHidden_4 : decode b_H_isHidden 4 = .ok (.getfield 33, 3) := by decide +kernel
theorem d_H_isHidden_7 : decode b_H_isHidden 7 = .ok (.if_icmp .ge 28, 3) := by decide +kernel
theorem d_H_isHidden_10 : decode b_H_isHidden 10 = .ok (.aload_n 0, 1) := by decide +kernel
theorem d_H_isHidden_11 : decode b_H_isHidden 11 = .ok (.getfield 15, 3) := by decide +kernel
theorem d_H_isHidden_14 : decode b_H_isHidden 14 = .ok (.iload_n 1, 1) := by decide +kernel
theorem d_H_isHidden_15 : decode b_H_isHidden 15 = .ok (.aload_n 0, 1) := by decide +kernel
theorem d_H_isHidden_16 : decode b_H_isHidden 16 = .ok (.getfield 27, 3) := by decide +kernel
theorem d_H_isHidden_19 : decode b_H_isHidden 19 = .ok (.iload_n 2, 1) := by decide +kernel
theorem d_H_isHidden_20 : decode b_H_isHidden 20 = .ok (.iaload, 1) := by decide +kernel
theorem d_H_isHidden_21 : decode b_H_isHidden 21 = .ok (.invokevirtual 73, 3) := by decide +kernel
theorem d_H_isHidden_24 : decode b_H_isHidden 24 = .ok (.ifCond .eq 5, 3) := by decide +kernel
theorem d_H_isHidden_27 : decode b_H_isHidden 27 = .ok (.iconst 1, 1) := by decide +kernel
theorem d_H_isHidden_28 : decode b_H_isHidden 28 = .ok (.ireturn, 1) := by decide +kernel
theorem d_H_isHidden_29 : decode b_H_isHidden 29 = .ok (.iinc 2 1, 3) := by decide +kernel
theorem d_H_isHidden_32 : decode b_H_isHidden 32 = .ok (.goto (-30), 3) := by decide +kernel
theorem d_H_isHidden_35 : decode b_H_isHidden 35 = .ok (.iconst 0, 1) := by decide +kernel
theorem d_H_isHidden_36 : decode b_H_isHidden 36 = .ok (.ireturn, 1) := by decide +kernel
abbrev rm_H_isHidden : Room := { frames := 1, cells := 0, slots := 0, locals := 22 }
def st_H_isHidden_L2 (n : Nat) (v1 : Int32) (v2 : Int32) (S : ZC) : Option ((Int32 × ZC) ⊕ (Nat × Int32 × ZC)) :=
  (if (hMc S) ≤ v2 then
  some (.inr (35, v2, S))
  else
  (if zoob v2 80 then none else
    zbind (fx_M_haveSameParameters n S v1 ((hMe S) v2.toNatClampNeg)) (fun r_3 S_3 =>
    (if r_3 = 0 then
    some (.inl ((v2 + (1 : Int32)), S_3))
    else
    some (.inr (27, v2, S_3))))))

def fx_H_isHidden_L2 (n : Nat) (v1 : Int32) (v2 : Int32) (S : ZC) : Option (Nat × Int32 × ZC) := zloop (fun (st : Int32 × ZC) => st_H_isHidden_L2 n v1 st.1 st.2) n (v2, S)

def fx_H_isHidden (n : Nat) (S : ZC) (a1 : Int32) : Option (Int32 × ZC) :=
  zbL2 (fx_H_isHidden_L2 n a1 (0 : Int32) S) (fun x_5 v2_5 S_5 =>
  if x_5 = 27 then
  some ((1 : Int32), S_5)
  else if x_5 = 35 then
  some ((0 : Int32), S_5)
  else none)

set_option maxRecDepth 100000 in
set_option maxHeartbeats 4000000 in
theorem lp_H_isHidden_L2 {z : zE} {A : Nat → Nat} {Rr : va_W} {p : Program} {l : Launch} {e : Env} {s : State} {m : MethodId} {args : Array Value} {below : List Frame} {meth : Method} {c : Code} {Q : State → Prop} {H0 : Heap} {A0 : Nat → Prop} (hM : zM z p s m args c b_H_isHidden 3 R_H) (hA : ∀ q : Nat, H0.size ≤ q → A0 q) (n : Nat) (v1 : Int32) :
    ∀ (v2 : Int32) (S : ZC) (r : Nat × Int32 × ZC), fx_H_isHidden_L2 n v1 v2 S = some r → (∀ (H : Heap) (locs : List Loc) (ls : Array Slot), va_P z.1 vwCl (cw z A r.2.2 ++ Rr) H → va_D A0 (cw z A r.2.2 ++ Rr) → va_S A0 H0 H locs → lv_has ls 3 [(0, .ref (A 7)), (1, .int v1), (2, .int r.2.1)] → W p l e rm_H_isHidden s m args below meth c H locs 0 0 Q (F0 m r.1 ls [])) →
    ∀ (H : Heap) (locs : List Loc) (ls : Array Slot), va_P z.1 vwCl (cw z A S ++ Rr) H → va_D A0 (cw z A S ++ Rr) → va_S A0 H0 H locs → lv_has ls 3 [(0, .ref (A 7)), (1, .int v1), (2, .int v2)] → W p l e rm_H_isHidden s m args below meth c H locs 0 0 Q (F0 m 2 ls []) := by
  obtain ⟨hx, hb, hml, hown, hts, hK, hN⟩ := id hM
  intro v2 S r h hE
  refine zz_loop (G := fun (st : Int32 × ZC) => ∀ (H : Heap) (locs : List Loc) (ls : Array Slot), va_P z.1 vwCl (cw z A st.2 ++ Rr) H → va_D A0 (cw z A st.2 ++ Rr) → va_S A0 H0 H locs → lv_has ls 3 [(0, .ref (A 7)), (1, .int v1), (2, .int st.1)] → W p l e rm_H_isHidden s m args below meth c H locs 0 0 Q (F0 m 2 ls [])) (E := fun (r : Nat × Int32 × ZC) => ∀ (H : Heap) (locs : List Loc) (ls : Array Slot), va_P z.1 vwCl (cw z A r.2.2 ++ Rr) H → va_D A0 (cw z A r.2.2 ++ Rr) → va_S A0 H0 H locs → lv_has ls 3 [(0, .ref (A 7)), (1, .int v1), (2, .int r.2.1)] → W p l e rm_H_isHidden s m args below meth c H locs 0 0 Q (F0 m r.1 ls [])) ?_ n (v2, S) r h hE
  clear h hE r v2 S
  rintro ⟨v2, S⟩ o h hG hE H locs ls hP hD hS hl
  have h : st_H_isHidden_L2 n v1 v2 S = some o := h
  have hl : lv_has ls 3 [(0, .ref (A 7)), (1, .int v1), (2, .int v2)] := hl
  have hP : va_P z.1 vwCl (cw z A S ++ Rr) H := hP
  have hD : va_D A0 (cw z A S ++ Rr) := hD
  unfold st_H_isHidden_L2 at h
  refine lv_iload_n hx hb d_H_isHidden_2 rfl (lv_at hl 2 rfl) ?_
  refine lv_aload_n hx hb d_H_isHidden_3 rfl (lv_at hl 0 rfl) ?_
  refine va_get (D := z.1) (ci := 3) (v := .int (hMc S)) (C := R_H) (T := F_H) (N := 8) hx hb hts i_H hown hK hP 7 rfl rfl 5 (by decide) (hts _ wq_101) (fun _ h9 => h9) rfl d_H_isHidden_4 ?_
  refine lv_icmp_ge (tgt := 35) hx hb d_H_isHidden_7 (by decide) (fun c_1 => ?_) (fun c_1 => ?_)
  · replace h := zz_t c_1 h
    exact hE _ (Option.some.inj h).symm _ _ _ hP hD hS hl
  · replace h := zz_f c_1 h
    refine lv_aload_n hx hb d_H_isHidden_10 rfl (lv_at hl 0 rfl) ?_
    refine va_get (D := z.1) (ci := 3) (v := .ref (A 11)) (C := R_H) (T := F_H) (N := 8) hx hb hts i_H hown hK hP 7 rfl rfl 1 (by decide) (hts _ wq_97) (fun _ h9 => h9) rfl d_H_isHidden_11 ?_
    refine lv_iload_n hx hb d_H_isHidden_14 rfl (lv_at hl 1 rfl) ?_
    refine lv_aload_n hx hb d_H_isHidden_15 rfl (lv_at hl 0 rfl) ?_
    refine va_get (D := z.1) (ci := 3) (v := .ref (A 9)) (C := R_H) (T := F_H) (N := 8) hx hb hts i_H hown hK hP 7 rfl rfl 3 (by decide) (hts _ wq_99) (fun _ h9 => h9) rfl d_H_isHidden_16 ?_
    refine lv_iload_n hx hb d_H_isHidden_19 rfl (lv_at hl 2 rfl) ?_
    obtain ⟨c_2, h⟩ := zz_oob h
    refine va_iald hx hb hK hP 9 0 rfl rfl c_2 d_H_isHidden_20 ?_
    obtain ⟨r_3, S_3, e_3, h⟩ := zz_bind h
    refine zz_goI (zz_runV (As := [.int v1, .int ((hMe S) v2.toNatClampNeg)]) (rest := []) (k_M_haveSameParameters l z A Rr n _ _ _ _ _ e_3) ⟨hx, hb, hml, hown, hts⟩ (cwV 2 hts (zz_gV wq_243 wq_244 wq_245 wq_3 wq_246) rfl rfl rfl (by decide +kernel) ⟨Nat.le_of_ble_eq_true rfl, Nat.le_of_ble_eq_true rfl⟩) hK hN hP hD (va_recv hK hP (ci := 2) (q0 := 11) rfl rfl) rfl hl.1 rfl (Nat.le_of_ble_eq_true rfl) d_H_isHidden_21 ⟨Nat.le_of_ble_eq_true rfl, Nat.le_of_ble_eq_true rfl⟩) hD hS hA (fun H locs hP hD hS => ?_)
    refine lv_if_eq (tgt := 29) hx hb d_H_isHidden_24 (by decide) (fun c_4 => ?_) (fun c_4 => ?_)
    · replace h := zz_t c_4 h
      refine lv_iinc (v := (v2 + (1 : Int32))) (lv' := [(2, .int (v2 + (1 : Int32))), (0, .ref (A 7)), (1, .int v1)]) hx hb d_H_isHidden_29 hl (k := 2) rfl rfl (by decide) rfl (fun ls hl => ?_)
      refine lv_goto (tgt := 2) hx hb d_H_isHidden_32 (by decide) ?_
      exact hG _ (Option.some.inj h).symm _ _ _ hP hD hS (lv_sub hl [1, 2, 0] rfl)
    · replace h := zz_f c_4 h
      exact hE _ (Option.some.inj h).symm _ _ _ hP hD hS hl

set_option maxRecDepth 100000 in
set_option maxHeartbeats 4000000 in
theorem k_H_isHidden (l : Launch) (z : zE) (A : Nat → Nat) (Rr : va_W) (n : Nat) (S : ZC) (a1 : Int32) (r0 : Int32) (S' : ZC) (h : fx_H_isHidden n S a1 = some (r0, S')) : zC z l y_H_isHidden w_H_isHidden rm_H_isHidden [.ref (A 7), .int a1] (cw z A S ++ Rr) (some (.int r0)) (cw z A S' ++ Rr) := by
  refine zz_of (by decide) (Nat.le_of_ble_eq_true rfl) ?_
  intro p e s m args below meth c A0 ls hM hr hlocks hA hP hD hl
  have hM : zM z p s m args c b_H_isHidden 3 R_H := hM
  obtain ⟨hx, hb, hml, hown, hts, hK, hN⟩ := id hM
  have hS : va_S A0 s.heap s.heap [] := va_S.rf
  have hl : lv_has ls 3 [(0, .ref (A 7)), (1, .int a1)] := hl
  unfold fx_H_isHidden at h
  refine lv_iconst (v := 0) hx hb d_H_isHidden_0 (by decide) ?_
  refine lv_istore_n (lv' := [(2, .int (0 : Int32)), (0, .ref (A 7)), (1, .int a1)]) hx hb d_H_isHidden_1 rfl hl (by decide) rfl (fun ls hl => ?_)
  replace h := zz_bL2 h
  obtain ⟨x_5, v2_5, S_5, e_5, h⟩ := h
  refine lp_H_isHidden_L2 hM hA n a1 _ _ _ e_5 ?_ _ _ _ hP hD hS (lv_sub hl [1, 2, 0] rfl)
  intro H locs ls hP hD hS hl
  have hl : lv_has ls 3 [(0, .ref (A 7)), (1, .int a1), (2, .int v2_5)] := hl
  have hP : va_P z.1 vwCl (cw z A S_5 ++ Rr) H := hP
  have hD : va_D A0 (cw z A S_5 ++ Rr) := hD
  by_cases c_5 : x_5 = 27
  · replace h := zz_t c_5 h
    subst c_5
    refine W.eq (g2 := F0 m 27 ls []) rfl ?_
    refine lv_iconst (v := 1) hx hb d_H_isHidden_27 (by decide) ?_
    exact zz_zret (fun S => cw z A S ++ Rr) hx hb hr hlocks hP hD hS rfl h d_H_isHidden_28
  replace h := zz_f c_5 h
  replace h := zz_grd h
  obtain ⟨c_5, h⟩ := h
  subst c_5
  refine W.eq (g2 := F0 m 35 ls []) rfl ?_
  refine lv_iconst (v := 0) hx hb d_H_isHidden_35 (by decide) ?_
  exact zz_zret (fun S => cw z A S ++ Rr) hx hb hr hlocks hP hD hS rfl h d_H_isHidden_36

abbrev b_H_appendMembers : ByteArray := prog_2_method_5_code
abbrev y_H_appendMembers : MethodName := ⟨"MemberChooser$Chooser", "appendMembers", "(II)V"⟩
abbrev w_H_appendMembers : List Cond := Cond.code y_H_appendMembers b_H_appendMembers 4 none :: zTb
theorem d_H_appendMembers_0 : decode b_H_appendMembers 0 = .ok (.iconst 0, 1) := by decide +kernel
theorem d_H_appendMembers_1 : decode b_H_appendMembers 1 = .ok (.istore_n 3, 1) := by decide +kernel
theorem d_H_appendMembers_2 : decode b_H_appendMembers 2 = .ok (.iload_n 3, 1) := by decide +kernel
theorem d_H_appendMembers_3 : decode b_H_appendMembers 3 = .ok (.aload_n 0, 1) := by decide +kernel
theorem d_H_appendMembers_4 : decode b_H_appendMembers 4 = .ok (.getfield 15, 3) := by decide +kernel
theorem d_H_appendMembers_7 : decode b_H_appendMembers 7 = .ok (.getfield 62, 3) := by decide +kernel
theorem d_H_appendMembers_10 : decode b_H_appendMembers 10 = .ok (.if_icmp .ge 62, 3) := by decide +kernel
theorem d_H_appendMembers_13 : decode b_H_appendMembers 13 = .ok (.aload_n 0, 1) := by decide +kernel
theorem d_H_appendMembers_14 : decode b_H_appendMembers 14 = .ok (.getfield 15, 3) := by decide +kernel
theorem d_H_appendMembers_17 : decode b_H_appendMembers 17 = .ok (.iload_n 3, 1) := by decide +kernel
theorem d_H_appendMembers_18 : decode b_H_appendMembers 18 = .ok (.iload_n 1, 1) := by decide +kernel
theorem d_H_appendMembers_19 : decode b_H_appendMembers 19 = .ok (.iload_n 2, 1) := by decide +kernel
theorem d_H_appendMembers_20 : decode b_H_appendMembers 20 = .ok (.invokevirtual 65, 3) := by decide +kernel
theorem d_H_appendMembers_23 : decode b_H_appendMembers 23 = .ok (.ifCond .eq 43, 3) := by decide +kernel
theorem d_H_appendMembers_26 : decode b_H_appendMembers 26 = .ok (.aload_n 0, 1) := by decide +kernel
theorem d_H_appendMembers_27 : decode b_H_appendMembers 27 = .ok (.iload_n 3, 1) := by decide +kernel
theorem d_H_appendMembers_28 : decode b_H_appendMembers 28 = .ok (.invokevirtual 69, 3) := by decide +kernel
theorem d_H_appendMembers_31 : decode b_H_appendMembers 31 = .ok (.ifCond .ne 35, 3) := by decide +kernel
theorem d_H_appendMembers_34 : decode b_H_appendMembers 34 = .ok (.aload_n 0, 1) := by decide +kernel
theorem d_H_appendMembers_35 : decode b_H_appendMembers 35 = .ok (.getfield 33, 3) := by decide +kernel
theorem d_H_appendMembers_38 : decode b_H_appendMembers 38 = .ok (.aload_n 0, 1) := by decide +kernel
theorem d_H_appendMembers_39 : decode b_H_appendMembers 39 = .ok (.getfield 27, 3) := by decide +kernel
theorem d_H_appendMembers_42 : decode b_H_appendMembers 42 = .ok (.arraylength, 1) := by decide +kernel
theorem d_H_appendMembers_43 : decode b_H_appendMembers 43 = .ok (.if_icmp .ge 23, 3) := by decide +kernel
theorem d_H_appendMembers_46 : decode b_H_appendMembers 46 = .ok (.aload_n 0, 1) := by decide +kernel
theorem d_H_appendMembers_47 : decode b_H_appendMembers 47 = .ok (.getfield 27, 3) := by decide +kernel
theorem d_H_appendMembers_50 : decode b_H_appendMembers 50 = .ok (.aload_n 0, 1) := by decide +kernel
theorem d_H_appendMembers_51 : decode b_H_appendMembers 51 = .ok (.getfield 33, 3) := by decide +kernel
theorem d_H_appendMembers_54 : decode b_H_appendMembers 54 = .ok (.iload_n 3, 1) := by decide +kernel
theorem d_H_appendMembers_55 : decode b_H_appendMembers 55 = .ok (.iastore, 1) := by decide +kernel
theorem d_H_appendMembers_56 : decode b_H_appendMembers 56 = .ok (.aload_n 0, 1) := by decide +kernel
theorem d_H_appendMembers_57 : decode b_H_appendMembers 57 = .ok (.dup, 1) := by decide +kernel
theorem d_H_appendMembers_58 : decode b_H_appendMembers 58 = .ok (.getfield 33, 3) := by decide +kernel
theorem d_H_appendMembers_61 : decode b_H_appendMembers 61 = .ok (.iconst 1, 1) := by decide +kernel
theorem d_H_appendMembers_62 : decode b_H_appendMembers 62 = .ok (.iadd, 1) := by decide +kernel
theorem d_H_appendMembers_63 : decode b_H_appendMembers 63 = .ok (.putfield 33, 3) := by decide +kernel
theorem d_H_appendMembers_66 : decode b_H_appendMembers 66 = .ok (.iinc 3 1, 3) := by decide +kernel
theorem d_H_appendMembers_69 : decode b_H_appendMembers 69 = .ok (.goto (-67), 3) := by decide +kernel
theorem d_H_appendMembers_72 : decode b_H_appendMembers 72 = .ok (.return_, 1) := by decide +kernel
abbrev rm_H_appendMembers : Room := { frames := 2, cells := 0, slots := 0, locals := 44 }
def st_H_appendMembers_L2 (n : Nat) (v1 : Int32) (v2 : Int32) (v3 : Int32) (S : ZC) : Option ((Int32 × ZC) ⊕ (Nat × Int32 × ZC)) :=
  (if (mTo S) ≤ v3 then
  some (.inr (72, v3, S))
  else
  zbind (fx_M_isOf n S v3 v1 v2) (fun r_2 S_2 =>
    (if r_2 = 0 then
    some (.inl ((v3 + (1 : Int32)), S_2))
    else
    zbind (fx_H_isHidden n S_2 v3) (fun r_4 S_4 =>
      (if r_4 = 0 then
      (if (80 : Int32) ≤ (hMc S_4) then
        some (.inl ((v3 + (1 : Int32)), S_4))
        else
        (if zoob (hMc S_4) 80 then none else
          zlet (hMe' S_4 (upd (hMe S_4) (hMc S_4).toNatClampNeg v3)) (fun S_8 =>
          zlet (hMc' S_8 ((hMc S_8) + (1 : Int32))) (fun S_9 =>
          some (.inl ((v3 + (1 : Int32)), S_9))))))
      else
      some (.inl ((v3 + (1 : Int32)), S_4)))))))

def fx_H_appendMembers_L2 (n : Nat) (v1 : Int32) (v2 : Int32) (v3 : Int32) (S : ZC) : Option (Nat × Int32 × ZC) := zloop (fun (st : Int32 × ZC) => st_H_appendMembers_L2 n v1 v2 st.1 st.2) n (v3, S)

def fx_H_appendMembers (n : Nat) (S : ZC) (a1 : Int32) (a2 : Int32) : Option (ZC) :=
  zbL2 (fx_H_appendMembers_L2 n a1 a2 (0 : Int32) S) (fun x_10 v3_10 S_10 =>
  if x_10 = 72 then
  some S_10
  else none)

set_option maxRecDepth 100000 in
set_option maxHeartbeats 4000000 in
theorem lp_H_appendMembers_L2 {z : zE} {A : Nat → Nat} {Rr : va_W} {p : Program} {l : Launch} {e : Env} {s : State} {m : MethodId} {args : Array Value} {below : List Frame} {meth : Method} {c : Code} {Q : State → Prop} {H0 : Heap} {A0 : Nat → Prop} (hM : zM z p s m args c b_H_appendMembers 4 R_H) (hA : ∀ q : Nat, H0.size ≤ q → A0 q) (n : Nat) (v1 : Int32) (v2 : Int32) :
    ∀ (v3 : Int32) (S : ZC) (r : Nat × Int32 × ZC), fx_H_appendMembers_L2 n v1 v2 v3 S = some r → (∀ (H : Heap) (locs : List Loc) (ls : Array Slot), va_P z.1 vwCl (cw z A r.2.2 ++ Rr) H → va_D A0 (cw z A r.2.2 ++ Rr) → va_S A0 H0 H locs → lv_has ls 4 [(0, .ref (A 7)), (1, .int v1), (2, .int v2), (3, .int r.2.1)] → W p l e rm_H_appendMembers s m args below meth c H locs 0 0 Q (F0 m r.1 ls [])) →
    ∀ (H : Heap) (locs : List Loc) (ls : Array Slot), va_P z.1 vwCl (cw z A S ++ Rr) H → va_D A0 (cw z A S ++ Rr) → va_S A0 H0 H locs → lv_has ls 4 [(0, .ref (A 7)), (1, .int v1), (2, .int v2), (3, .int v3)] → W p l e rm_H_appendMembers s m args below meth c H locs 0 0 Q (F0 m 2 ls []) := by
  obtain ⟨hx, hb, hml, hown, hts, hK, hN⟩ := id hM
  intro v3 S r h hE
  refine zz_loop (G := fun (st : Int32 × ZC) => ∀ (H : Heap) (locs : List Loc) (ls : Array Slot), va_P z.1 vwCl (cw z A st.2 ++ Rr) H → va_D A0 (cw z A st.2 ++ Rr) → va_S A0 H0 H locs → lv_has ls 4 [(0, .ref (A 7)), (1, .int v1), (2, .int v2), (3, .int st.1)] → W p l e rm_H_appendMembers s m args below meth c H locs 0 0 Q (F0 m 2 ls [])) (E := fun (r : Nat × Int32 × ZC) => ∀ (H : Heap) (locs : List Loc) (ls : Array Slot), va_P z.1 vwCl (cw z A r.2.2 ++ Rr) H → va_D A0 (cw z A r.2.2 ++ Rr) → va_S A0 H0 H locs → lv_has ls 4 [(0, .ref (A 7)), (1, .int v1), (2, .int v2), (3, .int r.2.1)] → W p l e rm_H_appendMembers s m args below meth c H locs 0 0 Q (F0 m r.1 ls [])) ?_ n (v3, S) r h hE
  clear h hE r v3 S
  rintro ⟨v3, S⟩ o h hG hE H locs ls hP hD hS hl
  have h : st_H_appendMembers_L2 n v1 v2 v3 S = some o := h
  have hl : lv_has ls 4 [(0, .ref (A 7)), (1, .int v1), (2, .int v2), (3, .int v3)] := hl
  have hP : va_P z.1 vwCl (cw z A S ++ Rr) H := hP
  have hD : va_D A0 (cw z A S ++ Rr) := hD
  unfold st_H_appendMembers_L2 at h
  refine lv_iload_n hx hb d_H_appendMembers_2 rfl (lv_at hl 3 rfl) ?_
  refine lv_aload_n hx hb d_H_appendMembers_3 rfl (lv_at hl 0 rfl) ?_
  refine va_get (D := z.1) (ci := 3) (v := .ref (A 11)) (C := R_H) (T := F_H) (N := 8) hx hb hts i_H hown hK hP 7 rfl rfl 1 (by decide) (hts _ wq_97) (fun _ h9 => h9) rfl d_H_appendMembers_4 ?_
  refine va_getN (D := z.1) (ci := 2) (v := .int (mTo S)) (C := R_M) (T := F_M) (N := 6) hx hb hts i_M hown hK hP 11 rfl rfl 5 (by decide) (zz_nf hN 5 rfl) (fun _ h9 => h9) rfl d_H_appendMembers_7 ?_
  refine lv_icmp_ge (tgt := 72) hx hb d_H_appendMembers_10 (by decide) (fun c_1 => ?_) (fun c_1 => ?_)
  · replace h := zz_t c_1 h
    exact hE _ (Option.some.inj h).symm _ _ _ hP hD hS hl
  · replace h := zz_f c_1 h
    refine lv_aload_n hx hb d_H_appendMembers_13 rfl (lv_at hl 0 rfl) ?_
    refine va_get (D := z.1) (ci := 3) (v := .ref (A 11)) (C := R_H) (T := F_H) (N := 8) hx hb hts i_H hown hK hP 7 rfl rfl 1 (by decide) (hts _ wq_97) (fun _ h9 => h9) rfl d_H_appendMembers_14 ?_
    refine lv_iload_n hx hb d_H_appendMembers_17 rfl (lv_at hl 3 rfl) ?_
    refine lv_iload_n hx hb d_H_appendMembers_18 rfl (lv_at hl 1 rfl) ?_
    refine lv_iload_n hx hb d_H_appendMembers_19 rfl (lv_at hl 2 rfl) ?_
    obtain ⟨r_2, S_2, e_2, h⟩ := zz_bind h
    refine zz_goI (zz_runV (As := [.int v3, .int v1, .int v2]) (rest := []) (k_M_isOf l z A Rr n _ _ _ _ _ _ e_2) ⟨hx, hb, hml, hown, hts⟩ (cwV 3 hts (zz_gV wq_235 wq_236 wq_237 wq_3 wq_238) rfl rfl rfl (by decide +kernel) ⟨Nat.le_of_ble_eq_true rfl, Nat.le_of_ble_eq_true rfl⟩) hK hN hP hD (va_recv hK hP (ci := 2) (q0 := 11) rfl rfl) rfl hl.1 rfl (Nat.le_of_ble_eq_true rfl) d_H_appendMembers_20 ⟨Nat.le_of_ble_eq_true rfl, Nat.le_of_ble_eq_true rfl⟩) hD hS hA (fun H locs hP hD hS => ?_)
    refine lv_if_eq (tgt := 66) hx hb d_H_appendMembers_23 (by decide) (fun c_3 => ?_) (fun c_3 => ?_)
    · replace h := zz_t c_3 h
      refine lv_iinc (v := (v3 + (1 : Int32))) (lv' := [(3, .int (v3 + (1 : Int32))), (0, .ref (A 7)), (1, .int v1), (2, .int v2)]) hx hb d_H_appendMembers_66 hl (k := 3) rfl rfl (by decide) rfl (fun ls hl => ?_)
      refine lv_goto (tgt := 2) hx hb d_H_appendMembers_69 (by decide) ?_
      exact hG _ (Option.some.inj h).symm _ _ _ hP hD hS (lv_sub hl [1, 2, 3, 0] rfl)
    · replace h := zz_f c_3 h
      refine lv_aload_n hx hb d_H_appendMembers_26 rfl (lv_at hl 0 rfl) ?_
      refine lv_iload_n hx hb d_H_appendMembers_27 rfl (lv_at hl 3 rfl) ?_
      obtain ⟨r_4, S_4, e_4, h⟩ := zz_bind h
      refine zz_goI (zz_runV (As := [.int v3]) (rest := []) (k_H_isHidden l z A Rr n _ _ _ _ e_4) ⟨hx, hb, hml, hown, hts⟩ (cwV 1 hts (zz_gV wq_239 wq_241 wp_4 wq_4 wq_242) rfl rfl rfl (by decide +kernel) ⟨Nat.le_of_ble_eq_true rfl, Nat.le_of_ble_eq_true rfl⟩) hK hN hP hD (va_recv hK hP (ci := 3) (q0 := 7) rfl rfl) rfl hl.1 rfl (Nat.le_of_ble_eq_true rfl) d_H_appendMembers_28 ⟨Nat.le_of_ble_eq_true rfl, Nat.le_of_ble_eq_true rfl⟩) hD hS hA (fun H locs hP hD hS => ?_)
      refine lv_if_ne (tgt := 66) hx hb d_H_appendMembers_31 (by decide) (fun c_5 => ?_) (fun c_5 => ?_)
      · replace h := zz_f c_5 h
        refine lv_iinc (v := (v3 + (1 : Int32))) (lv' := [(3, .int (v3 + (1 : Int32))), (0, .ref (A 7)), (1, .int v1), (2, .int v2)]) hx hb d_H_appendMembers_66 hl (k := 3) rfl rfl (by decide) rfl (fun ls hl => ?_)
        refine lv_goto (tgt := 2) hx hb d_H_appendMembers_69 (by decide) ?_
        exact hG _ (Option.some.inj h).symm _ _ _ hP hD hS (lv_sub hl [1, 2, 3, 0] rfl)
      · replace h := zz_t c_5 h
        refine lv_aload_n hx hb d_H_appendMembers_34 rfl (lv_at hl 0 rfl) ?_
        refine va_get (D := z.1) (ci := 3) (v := .int (hMc S_4)) (C := R_H) (T := F_H) (N := 8) hx hb hts i_H hown hK hP 7 rfl rfl 5 (by decide) (hts _ wq_101) (fun _ h9 => h9) rfl d_H_appendMembers_35 ?_
        refine lv_aload_n hx hb d_H_appendMembers_38 rfl (lv_at hl 0 rfl) ?_
        refine va_get (D := z.1) (ci := 3) (v := .ref (A 9)) (C := R_H) (T := F_H) (N := 8) hx hb hts i_H hown hK hP 7 rfl rfl 3 (by decide) (hts _ wq_99) (fun _ h9 => h9) rfl d_H_appendMembers_39 ?_
        refine va_alen hx hb hK hP 9 0 rfl rfl (v := (80 : Int32)) rfl d_H_appendMembers_42 ?_
        refine lv_icmp_ge (tgt := 66) hx hb d_H_appendMembers_43 (by decide) (fun c_6 => ?_) (fun c_6 => ?_)
        · replace h := zz_t c_6 h
          refine lv_iinc (v := (v3 + (1 : Int32))) (lv' := [(3, .int (v3 + (1 : Int32))), (0, .ref (A 7)), (1, .int v1), (2, .int v2)]) hx hb d_H_appendMembers_66 hl (k := 3) rfl rfl (by decide) rfl (fun ls hl => ?_)
          refine lv_goto (tgt := 2) hx hb d_H_appendMembers_69 (by decide) ?_
          exact hG _ (Option.some.inj h).symm _ _ _ hP hD hS (lv_sub hl [1, 2, 3, 0] rfl)
        · replace h := zz_f c_6 h
          refine lv_aload_n hx hb d_H_appendMembers_46 rfl (lv_at hl 0 rfl) ?_
          refine va_get (D := z.1) (ci := 3) (v := .ref (A 9)) (C := R_H) (T := F_H) (N := 8) hx hb hts i_H hown hK hP 7 rfl rfl 3 (by decide) (hts _ wq_99) (fun _ h9 => h9) rfl d_H_appendMembers_47 ?_
          refine lv_aload_n hx hb d_H_appendMembers_50 rfl (lv_at hl 0 rfl) ?_
          refine va_get (D := z.1) (ci := 3) (v := .int (hMc S_4)) (C := R_H) (T := F_H) (N := 8) hx hb hts i_H hown hK hP 7 rfl rfl 5 (by decide) (hts _ wq_101) (fun _ h9 => h9) rfl d_H_appendMembers_51 ?_
          refine lv_iload_n hx hb d_H_appendMembers_54 rfl (lv_at hl 3 rfl) ?_
          obtain ⟨c_7, h⟩ := zz_oob h
          obtain ⟨S_8, e_8, h⟩ := zz_let h
          refine va_iast hx hb hK hP hD hS 9 0 rfl rfl c_7 d_H_appendMembers_55 (fun H locs hP hD hS => ?_)
          have hP : va_P z.1 vwCl (cw z A S_8 ++ Rr) H := by rw [e_8]; exact hP
          have hD : va_D A0 (cw z A S_8 ++ Rr) := by rw [e_8]; exact hD
          refine lv_aload_n hx hb d_H_appendMembers_56 rfl (lv_at hl 0 rfl) ?_
          refine lv_dup hx hb d_H_appendMembers_57 rfl ?_
          refine va_get (D := z.1) (ci := 3) (v := .int (hMc S_8)) (C := R_H) (T := F_H) (N := 8) hx hb hts i_H hown hK hP 7 rfl rfl 5 (by decide) (hts _ wq_101) (fun _ h9 => h9) rfl d_H_appendMembers_58 ?_
          refine lv_iconst (v := 1) hx hb d_H_appendMembers_61 (by decide) ?_
          refine lv_iadd hx hb d_H_appendMembers_62 ?_
          obtain ⟨S_9, e_9, h⟩ := zz_let h
          refine va_put (D := z.1) (ci := 3) (v := .int ((hMc S_8) + (1 : Int32))) (ty := .int) (C := R_H) (T := F_H) (N := 8) hx hb hts i_H ty_H ty_H_ok n_H hown hK hP hD hS 7 rfl rfl 5 (by decide) (hts _ wq_101) (fun _ h9 => h9) rfl (by decide +kernel) rfl rfl (Nat.le_of_ble_eq_true rfl) d_H_appendMembers_63 (fun H locs hP hD hS => ?_)
          have hP : va_P z.1 vwCl (cw z A S_9 ++ Rr) H := by rw [e_9]; exact hP
          have hD : va_D A0 (cw z A S_9 ++ Rr) := by rw [e_9]; exact hD
          refine lv_iinc (v := (v3 + (1 : Int32))) (lv' := [(3, .int (v3 + (1 : Int32))), (0, .ref (A 7)), (1, .int v1), (2, .int v2)]) hx hb d_H_appendMembers_66 hl (k := 3) rfl rfl (by decide) rfl (fun ls hl => ?_)
          refine lv_goto (tgt := 2) hx hb d_H_appendMembers_69 (by decide) ?_
          exact hG _ (Option.some.inj h).symm _ _ _ hP hD hS (lv_sub hl [1, 2, 3, 0] rfl)

set_option maxRecDepth 100000 in
set_option maxHeartbeats 4000000 in
theorem k_H_appendMembers (l : Launch) (z : zE) (A : Nat → Nat) (Rr : va_W) (n : Nat) (S : ZC) (a1 : Int32) (a2 : Int32) (S' : ZC) (h : fx_H_appendMembers n S a1 a2 = some S') : zC z l y_H_appendMembers w_H_appendMembers rm_H_appendMembers [.ref (A 7), .int a1, .int a2] (cw z A S ++ Rr) none (cw z A S' ++ Rr) := by
  refine zz_of (by decide) (Nat.le_of_ble_eq_true rfl) ?_
  intro p e s m args below meth c A0 ls hM hr hlocks hA hP hD hl
  have hM : zM z p s m args c b_H_appendMembers 4 R_H := hM
  obtain ⟨hx, hb, hml, hown, hts, hK, hN⟩ := id hM
  have hS : va_S A0 s.heap s.heap [] := va_S.rf
  have hl : lv_has ls 4 [(0, .ref (A 7)), (1, .int a1), (2, .int a2)] := hl
  unfold fx_H_appendMembers at h
  refine lv_iconst (v := 0) hx hb d_H_appendMembers_0 (by decide) ?_
  refine lv_istore_n (lv' := [(3, .int (0 : Int32)), (0, .ref (A 7)), (1, .int a1), (2, .int a2)]) hx hb d_H_appendMembers_1 rfl hl (by decide) rfl (fun ls hl => ?_)
  replace h := zz_bL2 h
  obtain ⟨x_10, v3_10, S_10, e_10, h⟩ := h
  refine lp_H_appendMembers_L2 hM hA n a1 a2 _ _ _ e_10 ?_ _ _ _ hP hD hS (lv_sub hl [1, 2, 3, 0] rfl)
  intro H locs ls hP hD hS hl
  have hl : lv_has ls 4 [(0, .ref (A 7)), (1, .int a1), (2, .int a2), (3, .int v3_10)] := hl
  have hP : va_P z.1 vwCl (cw z A S_10 ++ Rr) H := hP
  have hD : va_D A0 (cw z A S_10 ++ Rr) := hD
  replace h := zz_grd h
  obtain ⟨c_10, h⟩ := h
  subst c_10
  refine W.eq (g2 := F0 m 72 ls []) rfl ?_
  exact zz_vret (fun S => cw z A S ++ Rr) hx hb hr hlocks hP hD hS h d_H_appendMembers_72

abbrev b_H_gatherMeant : ByteArray := prog_2_method_4_code
abbrev y_H_gatherMeant : MethodName := ⟨"MemberChooser$Chooser", "gatherMeant", "(II)V"⟩
abbrev w_H_gatherMeant : List Cond := Cond.code y_H_gatherMeant b_H_gatherMeant 5 none :: zTb
theorem d_H_gatherMeant_0 : decode b_H_gatherMeant 0 = .ok (.aload_n 0, 1) := by decide +kernel
theorem d_H_gatherMeant_1 : decode b_H_gatherMeant 1 = .ok (.iconst 0, 1) := by decide +kernel
theorem d_H_gatherMeant_2 : decode b_H_gatherMeant 2 = .ok (.putfield 33, 3) := by decide +kernel
theorem d_H_gatherMeant_5 : decode b_H_gatherMeant 5 = .ok (.aload_n 0, 1) := by decide +kernel
theorem d_H_gatherMeant_6 : decode b_H_gatherMeant 6 = .ok (.getfield 9, 3) := by decide +kernel
theorem d_H_gatherMeant_9 : decode b_H_gatherMeant 9 = .ok (.iload_n 1, 1) := by decide +kernel
theorem d_H_gatherMeant_10 : decode b_H_gatherMeant 10 = .ok (.aload_n 0, 1) := by decide +kernel
theorem d_H_gatherMeant_11 : decode b_H_gatherMeant 11 = .ok (.getfield 21, 3) := by decide +kernel
theorem d_H_gatherMeant_14 : decode b_H_gatherMeant 14 = .ok (.invokevirtual 55, 3) := by decide +kernel
theorem d_H_gatherMeant_17 : decode b_H_gatherMeant 17 = .ok (.istore_n 3, 1) := by decide +kernel
theorem d_H_gatherMeant_18 : decode b_H_gatherMeant 18 = .ok (.iconst 0, 1) := by decide +kernel
theorem d_H_gatherMeant_19 : decode b_H_gatherMeant 19 = .ok (.istore 4, 2) := by decide +kernel
theorem d_H_gatherMeant_21 : decode b_H_gatherMeant 21 = .ok (.iload 4, 2) := by decide +kernel
theorem d_H_gatherMeant_23 : decode b_H_gatherMeant 23 = .ok (.iload_n 3, 1) := by decide +kernel
theorem d_H_gatherMeant_24 : decode b_H_gatherMeant 24 = .ok (.if_icmp .ge 21, 3) := by decide +kernel
theorem d_H_gatherMeant_27 : decode b_H_gatherMeant 27 = .ok (.aload_n 0, 1) := by decide +kernel
theorem d_H_gatherMeant_28 : decode b_H_gatherMeant 28 = .ok (.aload_n 0, 1) := by decide +kernel
theorem d_H_gatherMeant_29 : decode b_H_gatherMeant 29 = .ok (.getfield 21, 3) := by decide +kernel
theorem d_H_gatherMeant_32 : decode b_H_gatherMeant 32 = .ok (.iload 4, 2) := by decide +kernel
theorem d_H_gatherMeant_34 : decode b_H_gatherMeant 34 = .ok (.iaload, 1) := by decide +kernel
theorem d_H_gatherMeant_35 : decode b_H_gatherMeant 35 = .ok (.iload_n 2, 1) := by decide +kernel
theorem d_H_gatherMeant_36 : decode b_H_gatherMeant 36 = .ok (.invokevirtual 59, 3) := by decide +kernel
theorem d_H_gatherMeant_39 : decode b_H_gatherMeant 39 = .ok (.iinc 4 1, 3) := by decide +kernel
theorem d_H_gatherMeant_42 : decode b_H_gatherMeant 42 = .ok (.goto (-21), 3) := by decide +kernel
theorem d_H_gatherMeant_45 : decode b_H_gatherMeant 45 = .ok (.return_, 1) := by decide +kernel
abbrev rm_H_gatherMeant : Room := { frames := 29, cells := 0, slots := 0, locals := 778 }
def st_H_gatherMeant_L21 (n : Nat) (v2 : Int32) (v3 : Int32) (v4 : Int32) (S : ZC) : Option ((Int32 × ZC) ⊕ (Nat × Int32 × ZC)) :=
  (if v3 ≤ v4 then
  some (.inr (45, v4, S))
  else
  (if zoob v4 24 then none else
    zbind1 (fx_H_appendMembers n S ((hLi S) v4.toNatClampNeg) v2) (fun S_5 =>
    some (.inl ((v4 + (1 : Int32)), S_5)))))

def fx_H_gatherMeant_L21 (n : Nat) (v2 : Int32) (v3 : Int32) (v4 : Int32) (S : ZC) : Option (Nat × Int32 × ZC) := zloop (fun (st : Int32 × ZC) => st_H_gatherMeant_L21 n v2 v3 st.1 st.2) n (v4, S)

def fx_H_gatherMeant (n : Nat) (S : ZC) (a1 : Int32) (a2 : Int32) : Option (ZC) :=
  zlet (hMc' S (0 : Int32)) (fun S_1 =>
  zbind (fx_T_writeLine n S_1 a1) (fun r_2 S_2 =>
  zbL2 (fx_H_gatherMeant_L21 n a2 r_2 (0 : Int32) S_2) (fun x_6 v4_6 S_6 =>
  if x_6 = 45 then
  some S_6
  else none)))

set_option maxRecDepth 100000 in
set_option maxHeartbeats 4000000 in
theorem lp_H_gatherMeant_L21 {z : zE} {A : Nat → Nat} {Rr : va_W} {p : Program} {l : Launch} {e : Env} {s : State} {m : MethodId} {args : Array Value} {below : List Frame} {meth : Method} {c : Code} {Q : State → Prop} {H0 : Heap} {A0 : Nat → Prop} (hM : zM z p s m args c b_H_gatherMeant 5 R_H) (hA : ∀ q : Nat, H0.size ≤ q → A0 q) (n : Nat) (v2 : Int32) (v3 : Int32) :
    ∀ (v4 : Int32) (S : ZC) (r : Nat × Int32 × ZC), fx_H_gatherMeant_L21 n v2 v3 v4 S = some r → (∀ (H : Heap) (locs : List Loc) (ls : Array Slot), va_P z.1 vwCl (cw z A r.2.2 ++ Rr) H → va_D A0 (cw z A r.2.2 ++ Rr) → va_S A0 H0 H locs → lv_has ls 5 [(0, .ref (A 7)), (2, .int v2), (3, .int v3), (4, .int r.2.1)] → W p l e rm_H_gatherMeant s m args below meth c H locs 0 0 Q (F0 m r.1 ls [])) →
    ∀ (H : Heap) (locs : List Loc) (ls : Array Slot), va_P z.1 vwCl (cw z A S ++ Rr) H → va_D A0 (cw z A S ++ Rr) → va_S A0 H0 H locs → lv_has ls 5 [(0, .ref (A 7)), (2, .int v2), (3, .int v3), (4, .int v4)] → W p l e rm_H_gatherMeant s m args below meth c H locs 0 0 Q (F0 m 21 ls []) := by
  obtain ⟨hx, hb, hml, hown, hts, hK, hN⟩ := id hM
  intro v4 S r h hE
  refine zz_loop (G := fun (st : Int32 × ZC) => ∀ (H : Heap) (locs : List Loc) (ls : Array Slot), va_P z.1 vwCl (cw z A st.2 ++ Rr) H → va_D A0 (cw z A st.2 ++ Rr) → va_S A0 H0 H locs → lv_has ls 5 [(0, .ref (A 7)), (2, .int v2), (3, .int v3), (4, .int st.1)] → W p l e rm_H_gatherMeant s m args below meth c H locs 0 0 Q (F0 m 21 ls [])) (E := fun (r : Nat × Int32 × ZC) => ∀ (H : Heap) (locs : List Loc) (ls : Array Slot), va_P z.1 vwCl (cw z A r.2.2 ++ Rr) H → va_D A0 (cw z A r.2.2 ++ Rr) → va_S A0 H0 H locs → lv_has ls 5 [(0, .ref (A 7)), (2, .int v2), (3, .int v3), (4, .int r.2.1)] → W p l e rm_H_gatherMeant s m args below meth c H locs 0 0 Q (F0 m r.1 ls [])) ?_ n (v4, S) r h hE
  clear h hE r v4 S
  rintro ⟨v4, S⟩ o h hG hE H locs ls hP hD hS hl
  have h : st_H_gatherMeant_L21 n v2 v3 v4 S = some o := h
  have hl : lv_has ls 5 [(0, .ref (A 7)), (2, .int v2), (3, .int v3), (4, .int v4)] := hl
  have hP : va_P z.1 vwCl (cw z A S ++ Rr) H := hP
  have hD : va_D A0 (cw z A S ++ Rr) := hD
  unfold st_H_gatherMeant_L21 at h
  refine lv_iload hx hb d_H_gatherMeant_21 (lv_at hl 3 rfl) ?_
  refine lv_iload_n hx hb d_H_gatherMeant_23 rfl (lv_at hl 2 rfl) ?_
  refine lv_icmp_ge (tgt := 45) hx hb d_H_gatherMeant_24 (by decide) (fun c_3 => ?_) (fun c_3 => ?_)
  · replace h := zz_t c_3 h
    exact hE _ (Option.some.inj h).symm _ _ _ hP hD hS hl
  · replace h := zz_f c_3 h
    refine lv_aload_n hx hb d_H_gatherMeant_27 rfl (lv_at hl 0 rfl) ?_
    refine lv_aload_n hx hb d_H_gatherMeant_28 rfl (lv_at hl 0 rfl) ?_
    refine va_get (D := z.1) (ci := 3) (v := .ref (A 8)) (C := R_H) (T := F_H) (N := 8) hx hb hts i_H hown hK hP 7 rfl rfl 2 (by decide) (hts _ wq_98) (fun _ h9 => h9) rfl d_H_gatherMeant_29 ?_
    refine lv_iload hx hb d_H_gatherMeant_32 (lv_at hl 3 rfl) ?_
    obtain ⟨c_4, h⟩ := zz_oob h
    refine va_iald hx hb hK hP 8 0 rfl rfl c_4 d_H_gatherMeant_34 ?_
    refine lv_iload_n hx hb d_H_gatherMeant_35 rfl (lv_at hl 1 rfl) ?_
    obtain ⟨S_5, e_5, h⟩ := zz_bind1 h
    refine zz_goV (zz_runV (As := [.int ((hLi S) v4.toNatClampNeg), .int v2]) (rest := []) (k_H_appendMembers l z A Rr n _ _ _ _ e_5) ⟨hx, hb, hml, hown, hts⟩ (cwV 2 hts (zz_gV wq_231 wq_233 wp_3 wq_4 wq_234) rfl rfl rfl (by decide +kernel) ⟨Nat.le_of_ble_eq_true rfl, Nat.le_of_ble_eq_true rfl⟩) hK hN hP hD (va_recv hK hP (ci := 3) (q0 := 7) rfl rfl) rfl hl.1 rfl (Nat.le_of_ble_eq_true rfl) d_H_gatherMeant_36 ⟨Nat.le_of_ble_eq_true rfl, Nat.le_of_ble_eq_true rfl⟩) hD hS hA (fun H locs hP hD hS => ?_)
    refine lv_iinc (v := (v4 + (1 : Int32))) (lv' := [(4, .int (v4 + (1 : Int32))), (0, .ref (A 7)), (2, .int v2), (3, .int v3)]) hx hb d_H_gatherMeant_39 hl (k := 3) rfl rfl (by decide) rfl (fun ls hl => ?_)
    refine lv_goto (tgt := 21) hx hb d_H_gatherMeant_42 (by decide) ?_
    exact hG _ (Option.some.inj h).symm _ _ _ hP hD hS (lv_sub hl [1, 2, 3, 0] rfl)

set_option maxRecDepth 100000 in
set_option maxHeartbeats 4000000 in
theorem k_H_gatherMeant (l : Launch) (z : zE) (A : Nat → Nat) (Rr : va_W) (n : Nat) (S : ZC) (a1 : Int32) (a2 : Int32) (S' : ZC) (h : fx_H_gatherMeant n S a1 a2 = some S') : zC z l y_H_gatherMeant w_H_gatherMeant rm_H_gatherMeant [.ref (A 7), .int a1, .int a2] (cw z A S ++ Rr) none (cw z A S' ++ Rr) := by
  refine zz_of (by decide) (Nat.le_of_ble_eq_true rfl) ?_
  intro p e s m args below meth c A0 ls hM hr hlocks hA hP hD hl
  have hM : zM z p s m args c b_H_gatherMeant 5 R_H := hM
  obtain ⟨hx, hb, hml, hown, hts, hK, hN⟩ := id hM
  have hS : va_S A0 s.heap s.heap [] := va_S.rf
  have hl : lv_has ls 5 [(0, .ref (A 7)), (1, .int a1), (2, .int a2)] := hl
  unfold fx_H_gatherMeant at h
  refine lv_aload_n hx hb d_H_gatherMeant_0 rfl (lv_at hl 0 rfl) ?_
  refine lv_iconst (v := 0) hx hb d_H_gatherMeant_1 (by decide) ?_
  obtain ⟨S_1, e_1, h⟩ := zz_let h
  refine va_put (D := z.1) (ci := 3) (v := .int (0 : Int32)) (ty := .int) (C := R_H) (T := F_H) (N := 8) hx hb hts i_H ty_H ty_H_ok n_H hown hK hP hD hS 7 rfl rfl 5 (by decide) (hts _ wq_101) (fun _ h9 => h9) rfl (by decide +kernel) rfl rfl (Nat.le_of_ble_eq_true rfl) d_H_gatherMeant_2 (fun H locs hP hD hS => ?_)
  have hP : va_P z.1 vwCl (cw z A S_1 ++ Rr) H := by rw [e_1]; exact hP
  have hD : va_D A0 (cw z A S_1 ++ Rr) := by rw [e_1]; exact hD
  refine lv_aload_n hx hb d_H_gatherMeant_5 rfl (lv_at hl 0 rfl) ?_
  refine va_get (D := z.1) (ci := 3) (v := .ref (A 17)) (C := R_H) (T := F_H) (N := 8) hx hb hts i_H hown hK hP 7 rfl rfl 0 (by decide) (hts _ wq_96) (fun _ h9 => h9) rfl d_H_gatherMeant_6 ?_
  refine lv_iload_n hx hb d_H_gatherMeant_9 rfl (lv_at hl 1 rfl) ?_
  refine lv_aload_n hx hb d_H_gatherMeant_10 rfl (lv_at hl 0 rfl) ?_
  refine va_get (D := z.1) (ci := 3) (v := .ref (A 8)) (C := R_H) (T := F_H) (N := 8) hx hb hts i_H hown hK hP 7 rfl rfl 2 (by decide) (hts _ wq_98) (fun _ h9 => h9) rfl d_H_gatherMeant_11 ?_
  obtain ⟨r_2, S_2, e_2, h⟩ := zz_bind h
  refine zz_goI (zz_runV (As := [.int a1, .ref (A 8)]) (rest := []) (k_T_writeLine l z A Rr n _ _ _ _ e_2) ⟨hx, hb, hml, hown, hts⟩ (cwV 2 hts (zz_gV wq_224 wq_225 wq_226 wq_2 wq_227) rfl rfl rfl (by decide +kernel) ⟨Nat.le_of_ble_eq_true rfl, Nat.le_of_ble_eq_true rfl⟩) hK hN hP hD (va_recv hK hP (ci := 1) (q0 := 17) rfl rfl) rfl hl.1 rfl (Nat.le_of_ble_eq_true rfl) d_H_gatherMeant_14 ⟨Nat.le_of_ble_eq_true rfl, Nat.le_of_ble_eq_true rfl⟩) hD hS hA (fun H locs hP hD hS => ?_)
  refine lv_istore_n (lv' := [(3, .int r_2), (0, .ref (A 7)), (1, .int a1), (2, .int a2)]) hx hb d_H_gatherMeant_17 rfl hl (by decide) rfl (fun ls hl => ?_)
  refine lv_iconst (v := 0) hx hb d_H_gatherMeant_18 (by decide) ?_
  refine lv_istore (lv' := [(4, .int (0 : Int32)), (3, .int r_2), (0, .ref (A 7)), (1, .int a1), (2, .int a2)]) hx hb d_H_gatherMeant_19 hl (by decide) rfl (fun ls hl => ?_)
  replace h := zz_bL2 h
  obtain ⟨x_6, v4_6, S_6, e_6, h⟩ := h
  refine lp_H_gatherMeant_L21 hM hA n a2 r_2 _ _ _ e_6 ?_ _ _ _ hP hD hS (lv_sub hl [2, 4, 1, 0] rfl)
  intro H locs ls hP hD hS hl
  have hl : lv_has ls 5 [(0, .ref (A 7)), (2, .int a2), (3, .int r_2), (4, .int v4_6)] := hl
  have hP : va_P z.1 vwCl (cw z A S_6 ++ Rr) H := hP
  have hD : va_D A0 (cw z A S_6 ++ Rr) := hD
  replace h := zz_grd h
  obtain ⟨c_6, h⟩ := h
  subst c_6
  refine W.eq (g2 := F0 m 45 ls []) rfl ?_
  exact zz_vret (fun S => cw z A S ++ Rr) hx hb hr hlocks hP hD hS h d_H_gatherMeant_45

abbrev b_H_meantAt : ByteArray := prog_2_method_2_code
abbrev y_H_meantAt : MethodName := ⟨"MemberChooser$Chooser", "meantAt", "(III)I"⟩
abbrev w_H_meantAt : List Cond := Cond.code y_H_meantAt b_H_meantAt 4 (some .int) :: zTb
theorem d_H_meantAt_0 : decode b_H_meantAt 0 = .ok (.aload_n 0, 1) := by decide +kernel
theorem d_H_meantAt_1 : decode b_H_meantAt 1 = .ok (.iload_n 1, 1) := by decide +kernel
theorem d_H_meantAt_2 : decode b_H_meantAt 2 = .ok (.iload_n 2, 1) := by decide +kernel
theorem d_H_meantAt_3 : decode b_H_meantAt 3 = .ok (.invokevirtual 43, 3) := by decide +kernel
theorem d_H_meantAt_6 : decode b_H_meantAt 6 = .ok (.iload_n 3, 1) := by decide +kernel
theorem d_H_meantAt_7 : decode b_H_meantAt 7 = .ok (.ifCond .lt 20, 3) := by decide +kernel
theorem d_H_meantAt_10 : decode b_H_meantAt 10 = .ok (.iload_n 3, 1) := by decide +kernel
theorem d_H_meantAt_11 : decode b_H_meantAt 11 = .ok (.aload_n 0, 1) := by decide +kernel
theorem d_H_meantAt_12 : decode b_H_meantAt 12 = .ok (.getfield 33, 3) := by decide +kernel
theorem d_H_meantAt_15 : decode b_H_meantAt 15 = .ok (.if_icmp .ge 12, 3) := by decide +kernel
theorem d_H_meantAt_18 : decode b_H_meantAt 18 = .ok (.aload_n 0, 1) := by decide +kernel
theorem d_H_meantAt_19 : decode b_H_meantAt 19 = .ok (.getfield 27, 3) := by decide +kernel
theorem d_H_meantAt_22 : decode b_H_meantAt 22 = .ok (.iload_n 3, 1) := by decide +kernel
theorem d_H_meantAt_23 : decode b_H_meantAt 23 = .ok (.iaload, 1) := by decide +kernel
theorem d_H_meantAt_24 : decode b_H_meantAt 24 = .ok (.goto 4, 3) := by decide +kernel
theorem d_H_meantAt_27 : decode b_H_meantAt 27 = .ok (.iconst (-1), 1) := by decide +kernel
theorem d_H_meantAt_28 : decode b_H_meantAt 28 = .ok (.ireturn, 1) := by decide +kernel
abbrev rm_H_meantAt : Room := { frames := 30, cells := 0, slots := 0, locals := 802 }
def fx_H_meantAt (n : Nat) (S : ZC) (a1 : Int32) (a2 : Int32) (a3 : Int32) : Option (Int32 × ZC) :=
  zbind1 (fx_H_gatherMeant n S a1 a2) (fun S_1 =>
  (if a3 < 0 then
  some ((-1 : Int32), S_1)
  else
  (if (hMc S_1) ≤ a3 then
    some ((-1 : Int32), S_1)
    else
    (if zoob a3 80 then none else
      some (((hMe S_1) a3.toNatClampNeg), S_1)))))

set_option maxRecDepth 100000 in
set_option maxHeartbeats 4000000 in
theorem k_H_meantAt (l : Launch) (z : zE) (A : Nat → Nat) (Rr : va_W) (n : Nat) (S : ZC) (a1 : Int32) (a2 : Int32) (a3 : Int32) (r0 : Int32) (S' : ZC) (h : fx_H_meantAt n S a1 a2 a3 = some (r0, S')) : zC z l y_H_meantAt w_H_meantAt rm_H_meantAt [.ref (A 7), .int a1, .int a2, .int a3] (cw z A S ++ Rr) (some (.int r0)) (cw z A S' ++ Rr) := by
  refine zz_of (by decide) (Nat.le_of_ble_eq_true rfl) ?_
  intro p e s m args below meth c A0 ls hM hr hlocks hA hP hD hl
  have hM : zM z p s m args c b_H_meantAt 4 R_H := hM
  obtain ⟨hx, hb, hml, hown, hts, hK, hN⟩ := id hM
  have hS : va_S A0 s.heap s.heap [] := va_S.rf
  have hl : lv_has ls 4 [(0, .ref (A 7)), (1, .int a1), (2, .int a2), (3, .int a3)] := hl
  unfold fx_H_meantAt at h
  refine lv_aload_n hx hb d_H_meantAt_0 rfl (lv_at hl 0 rfl) ?_
  refine lv_iload_n hx hb d_H_meantAt_1 rfl (lv_at hl 1 rfl) ?_
  refine lv_iload_n hx hb d_H_meantAt_2 rfl (lv_at hl 2 rfl) ?_
  obtain ⟨S_1, e_1, h⟩ := zz_bind1 h
  refine zz_goV (zz_runV (As := [.int a1, .int a2]) (rest := []) (k_H_gatherMeant l z A Rr n _ _ _ _ e_1) ⟨hx, hb, hml, hown, hts⟩ (cwV 2 hts (zz_gV wq_220 wq_222 wp_2 wq_4 wq_223) rfl rfl rfl (by decide +kernel) ⟨Nat.le_of_ble_eq_true rfl, Nat.le_of_ble_eq_true rfl⟩) hK hN hP hD (va_recv hK hP (ci := 3) (q0 := 7) rfl rfl) rfl hl.1 rfl (Nat.le_of_ble_eq_true rfl) d_H_meantAt_3 ⟨Nat.le_of_ble_eq_true rfl, Nat.le_of_ble_eq_true rfl⟩) hD hS hA (fun H locs hP hD hS => ?_)
  refine lv_iload_n hx hb d_H_meantAt_6 rfl (lv_at hl 3 rfl) ?_
  refine lv_if_lt (tgt := 27) hx hb d_H_meantAt_7 (by decide) (fun c_2 => ?_) (fun c_2 => ?_)
  · replace h := zz_t c_2 h
    refine lv_iconst (v := -1) hx hb d_H_meantAt_27 (by decide) ?_
    exact zz_iret (fun S => cw z A S ++ Rr) hx hb hr hlocks hP hD hS h d_H_meantAt_28
  · replace h := zz_f c_2 h
    refine lv_iload_n hx hb d_H_meantAt_10 rfl (lv_at hl 3 rfl) ?_
    refine lv_aload_n hx hb d_H_meantAt_11 rfl (lv_at hl 0 rfl) ?_
    refine va_get (D := z.1) (ci := 3) (v := .int (hMc S_1)) (C := R_H) (T := F_H) (N := 8) hx hb hts i_H hown hK hP 7 rfl rfl 5 (by decide) (hts _ wq_101) (fun _ h9 => h9) rfl d_H_meantAt_12 ?_
    refine lv_icmp_ge (tgt := 27) hx hb d_H_meantAt_15 (by decide) (fun c_3 => ?_) (fun c_3 => ?_)
    · replace h := zz_t c_3 h
      refine lv_iconst (v := -1) hx hb d_H_meantAt_27 (by decide) ?_
      exact zz_iret (fun S => cw z A S ++ Rr) hx hb hr hlocks hP hD hS h d_H_meantAt_28
    · replace h := zz_f c_3 h
      refine lv_aload_n hx hb d_H_meantAt_18 rfl (lv_at hl 0 rfl) ?_
      refine va_get (D := z.1) (ci := 3) (v := .ref (A 9)) (C := R_H) (T := F_H) (N := 8) hx hb hts i_H hown hK hP 7 rfl rfl 3 (by decide) (hts _ wq_99) (fun _ h9 => h9) rfl d_H_meantAt_19 ?_
      refine lv_iload_n hx hb d_H_meantAt_22 rfl (lv_at hl 3 rfl) ?_
      obtain ⟨c_4, h⟩ := zz_oob h
      refine va_iald hx hb hK hP 9 0 rfl rfl c_4 d_H_meantAt_23 ?_
      refine lv_goto (tgt := 28) hx hb d_H_meantAt_24 (by decide) ?_
      exact zz_iret (fun S => cw z A S ++ Rr) hx hb hr hlocks hP hD hS h d_H_meantAt_28

abbrev b_X_meant : ByteArray := prog_1_method_7_code
abbrev y_X_meant : MethodName := ⟨"MemberChooser", "meant", "(III)I"⟩
abbrev w_X_meant : List Cond := Cond.code y_X_meant b_X_meant 4 (some .int) :: zTb
theorem d_X_meant_0 : decode b_X_meant 0 = .ok (.aload_n 0, 1) := by decide +kernel
theorem d_X_meant_1 : decode b_X_meant 1 = .ok (.getfield 28, 3) := by decide +kernel
theorem d_X_meant_4 : decode b_X_meant 4 = .ok (.iload_n 1, 1) := by decide +kernel
theorem d_X_meant_5 : decode b_X_meant 5 = .ok (.iload_n 2, 1) := by decide +kernel
theorem d_X_meant_6 : decode b_X_meant 6 = .ok (.iload_n 3, 1) := by decide +kernel
theorem d_X_meant_7 : decode b_X_meant 7 = .ok (.invokevirtual 111, 3) := by decide +kernel
theorem d_X_meant_10 : decode b_X_meant 10 = .ok (.ireturn, 1) := by decide +kernel
abbrev rm_X_meant : Room := { frames := 31, cells := 0, slots := 0, locals := 825 }
def fx_X_meant (n : Nat) (S : ZC) (a1 : Int32) (a2 : Int32) (a3 : Int32) : Option (Int32 × ZC) :=
  zbind (fx_H_meantAt n S a1 a2 a3) (fun r_1 S_1 =>
  some (r_1, S_1))

set_option maxRecDepth 100000 in
set_option maxHeartbeats 4000000 in
theorem k_X_meant (l : Launch) (z : zE) (A : Nat → Nat) (Rr : va_W) (n : Nat) (S : ZC) (a1 : Int32) (a2 : Int32) (a3 : Int32) (r0 : Int32) (S' : ZC) (h : fx_X_meant n S a1 a2 a3 = some (r0, S')) : zC z l y_X_meant w_X_meant rm_X_meant [.ref (A 0), .int a1, .int a2, .int a3] (cw z A S ++ Rr) (some (.int r0)) (cw z A S' ++ Rr) := by
  refine zz_of (by decide) (Nat.le_of_ble_eq_true rfl) ?_
  intro p e s m args below meth c A0 ls hM hr hlocks hA hP hD hl
  have hM : zM z p s m args c b_X_meant 4 R_X := hM
  obtain ⟨hx, hb, hml, hown, hts, hK, hN⟩ := id hM
  have hS : va_S A0 s.heap s.heap [] := va_S.rf
  have hl : lv_has ls 4 [(0, .ref (A 0)), (1, .int a1), (2, .int a2), (3, .int a3)] := hl
  unfold fx_X_meant at h
  refine lv_aload_n hx hb d_X_meant_0 rfl (lv_at hl 0 rfl) ?_
  refine va_get (D := z.1) (ci := 0) (v := .ref (A 7)) (C := R_X) (T := F_X) (N := 6) hx hb hts i_X hown hK hP 0 rfl rfl 2 (by decide) (hts _ wq_151) (fun _ h9 => h9) rfl d_X_meant_1 ?_
  refine lv_iload_n hx hb d_X_meant_4 rfl (lv_at hl 1 rfl) ?_
  refine lv_iload_n hx hb d_X_meant_5 rfl (lv_at hl 2 rfl) ?_
  refine lv_iload_n hx hb d_X_meant_6 rfl (lv_at hl 3 rfl) ?_
  obtain ⟨r_1, S_1, e_1, h⟩ := zz_bind h
  refine zz_goI (zz_runV (As := [.int a1, .int a2, .int a3]) (rest := []) (k_H_meantAt l z A Rr n _ _ _ _ _ _ e_1) ⟨hx, hb, hml, hown, hts⟩ (cwV 3 hts (zz_gV wq_216 wq_217 wq_218 wq_4 wq_219) rfl rfl rfl (by decide +kernel) ⟨Nat.le_of_ble_eq_true rfl, Nat.le_of_ble_eq_true rfl⟩) hK hN hP hD (va_recv hK hP (ci := 3) (q0 := 7) rfl rfl) rfl hl.1 rfl (Nat.le_of_ble_eq_true rfl) d_X_meant_7 ⟨Nat.le_of_ble_eq_true rfl, Nat.le_of_ble_eq_true rfl⟩) hD hS hA (fun H locs hP hD hS => ?_)
  exact zz_iret (fun S => cw z A S ++ Rr) hx hb hr hlocks hP hD hS h d_X_meant_10

