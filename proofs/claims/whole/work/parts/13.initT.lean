abbrev b_T_init : ByteArray := prog_5_method_1_code
abbrev y_T_init : MethodName := ⟨"MemberChooser$Types", "<init>", "()V"⟩
abbrev w_T_init : List Cond := Cond.code y_T_init b_T_init 2 none :: zTb
theorem d_T_init_0 : decode b_T_init 0 = .ok (.aload_n 0, 1) := by decide +kernel
theorem d_T_init_1 : decode b_T_init 1 = .ok (.invokespecial 5, 3) := by decide +kernel
theorem d_T_init_4 : decode b_T_init 4 = .ok (.aload_n 0, 1) := by decide +kernel
theorem d_T_init_5 : decode b_T_init 5 = .ok (.bipush 32, 2) := by decide +kernel
theorem d_T_init_7 : decode b_T_init 7 = .ok (.newarray .boolean, 2) := by decide +kernel
theorem d_T_init_9 : decode b_T_init 9 = .ok (.putfield 11, 3) := by decide +kernel
theorem d_T_init_12 : decode b_T_init 12 = .ok (.aload_n 0, 1) := by decide +kernel
theorem d_T_init_13 : decode b_T_init 13 = .ok (.bipush 32, 2) := by decide +kernel
theorem d_T_init_15 : decode b_T_init 15 = .ok (.newarray .int, 2) := by decide +kernel
theorem d_T_init_17 : decode b_T_init 17 = .ok (.putfield 15, 3) := by decide +kernel
theorem d_T_init_20 : decode b_T_init 20 = .ok (.aload_n 0, 1) := by decide +kernel
theorem d_T_init_21 : decode b_T_init 21 = .ok (.bipush 32, 2) := by decide +kernel
theorem d_T_init_23 : decode b_T_init 23 = .ok (.newarray .int, 2) := by decide +kernel
theorem d_T_init_25 : decode b_T_init 25 = .ok (.putfield 19, 3) := by decide +kernel
theorem d_T_init_28 : decode b_T_init 28 = .ok (.aload_n 0, 1) := by decide +kernel
theorem d_T_init_29 : decode b_T_init 29 = .ok (.bipush 32, 2) := by decide +kernel
theorem d_T_init_31 : decode b_T_init 31 = .ok (.bipush 24, 2) := by decide +kernel
theorem d_T_init_33 : decode b_T_init 33 = .ok (.multianewarray 22 2, 4) := by decide +kernel
theorem d_T_init_37 : decode b_T_init 37 = .ok (.putfield 24, 3) := by decide +kernel
theorem d_T_init_40 : decode b_T_init 40 = .ok (.aload_n 0, 1) := by decide +kernel
theorem d_T_init_41 : decode b_T_init 41 = .ok (.bipush 32, 2) := by decide +kernel
theorem d_T_init_43 : decode b_T_init 43 = .ok (.newarray .int, 2) := by decide +kernel
theorem d_T_init_45 : decode b_T_init 45 = .ok (.putfield 27, 3) := by decide +kernel
theorem d_T_init_48 : decode b_T_init 48 = .ok (.aload_n 0, 1) := by decide +kernel
theorem d_T_init_49 : decode b_T_init 49 = .ok (.iconst 0, 1) := by decide +kernel
theorem d_T_init_50 : decode b_T_init 50 = .ok (.putfield 30, 3) := by decide +kernel
theorem d_T_init_53 : decode b_T_init 53 = .ok (.iconst 0, 1) := by decide +kernel
theorem d_T_init_54 : decode b_T_init 54 = .ok (.istore_n 1, 1) := by decide +kernel
theorem d_T_init_55 : decode b_T_init 55 = .ok (.iload_n 1, 1) := by decide +kernel
theorem d_T_init_56 : decode b_T_init 56 = .ok (.bipush 8, 2) := by decide +kernel
theorem d_T_init_58 : decode b_T_init 58 = .ok (.if_icmp .ge 39, 3) := by decide +kernel
theorem d_T_init_61 : decode b_T_init 61 = .ok (.aload_n 0, 1) := by decide +kernel
theorem d_T_init_62 : decode b_T_init 62 = .ok (.getfield 27, 3) := by decide +kernel
theorem d_T_init_65 : decode b_T_init 65 = .ok (.iload_n 1, 1) := by decide +kernel
theorem d_T_init_66 : decode b_T_init 66 = .ok (.iload_n 1, 1) := by decide +kernel
theorem d_T_init_67 : decode b_T_init 67 = .ok (.invokestatic 34, 3) := by decide +kernel
theorem d_T_init_70 : decode b_T_init 70 = .ok (.ifCond .eq 10, 3) := by decide +kernel
theorem d_T_init_73 : decode b_T_init 73 = .ok (.iload_n 1, 1) := by decide +kernel
theorem d_T_init_74 : decode b_T_init 74 = .ok (.invokestatic 38, 3) := by decide +kernel
theorem d_T_init_77 : decode b_T_init 77 = .ok (.goto 13, 3) := by decide +kernel
theorem d_T_init_80 : decode b_T_init 80 = .ok (.iload_n 1, 1) := by decide +kernel
theorem d_T_init_81 : decode b_T_init 81 = .ok (.invokestatic 38, 3) := by decide +kernel
theorem d_T_init_84 : decode b_T_init 84 = .ok (.bipush 7, 2) := by decide +kernel
theorem d_T_init_86 : decode b_T_init 86 = .ok (.invokestatic 38, 3) := by decide +kernel
theorem d_T_init_89 : decode b_T_init 89 = .ok (.ior, 1) := by decide +kernel
theorem d_T_init_90 : decode b_T_init 90 = .ok (.iastore, 1) := by decide +kernel
theorem d_T_init_91 : decode b_T_init 91 = .ok (.iinc 1 1, 3) := by decide +kernel
theorem d_T_init_94 : decode b_T_init 94 = .ok (.goto (-39), 3) := by decide +kernel
theorem d_T_init_97 : decode b_T_init 97 = .ok (.aload_n 0, 1) := by decide +kernel
theorem d_T_init_98 : decode b_T_init 98 = .ok (.getfield 27, 3) := by decide +kernel
theorem d_T_init_101 : decode b_T_init 101 = .ok (.iconst 0, 1) := by decide +kernel
theorem d_T_init_102 : decode b_T_init 102 = .ok (.iconst 0, 1) := by decide +kernel
theorem d_T_init_103 : decode b_T_init 103 = .ok (.invokestatic 38, 3) := by decide +kernel
theorem d_T_init_106 : decode b_T_init 106 = .ok (.iconst 1, 1) := by decide +kernel
theorem d_T_init_107 : decode b_T_init 107 = .ok (.invokestatic 38, 3) := by decide +kernel
theorem d_T_init_110 : decode b_T_init 110 = .ok (.ior, 1) := by decide +kernel
theorem d_T_init_111 : decode b_T_init 111 = .ok (.iastore, 1) := by decide +kernel
theorem d_T_init_112 : decode b_T_init 112 = .ok (.return_, 1) := by decide +kernel
abbrev rm_T_init : Room := { frames := 1, cells := 37, slots := 928, locals := 40 }
def st_T_init_L55 (n : Nat)  (v1 : Int32) (S : ZT) : Option ((Int32 × ZT) ⊕ (Nat × Int32 × ZT)) :=
  (if (8 : Int32) ≤ v1 then
  some (.inr (97, v1, S))
  else
  zbind1 (fx_T_isPrimitive n v1) (fun r_3 =>
    (if r_3 = 0 then
    zbind1 (fx_T_bit n v1) (fun r_5 =>
      zbind1 (fx_T_bit n (7 : Int32)) (fun r_6 =>
      (if zoob v1 32 then none else
      zlet (uUp' S (upd (uUp S) v1.toNatClampNeg (r_5 ||| r_6))) (fun S_8 =>
      some (.inl ((v1 + (1 : Int32)), S_8))))))
    else
    zbind1 (fx_T_bit n v1) (fun r_9 =>
      (if zoob v1 32 then none else
      zlet (uUp' S (upd (uUp S) v1.toNatClampNeg r_9)) (fun S_11 =>
      some (.inl ((v1 + (1 : Int32)), S_11))))))))

def fx_T_init_L55 (n : Nat)  (v1 : Int32) (S : ZT) : Option (Nat × Int32 × ZT) := zloop (fun (st : Int32 × ZT) => st_T_init_L55 n st.1 st.2) n (v1, S)

def fx_T_init (n : Nat) (S : ZT) : Option ZT :=
  zlet (uTo' S (0 : Int32)) (fun S_1 =>
  zbL2 (fx_T_init_L55 n (0 : Int32) S_1) (fun x_12 v1_12 S_12 =>
  if x_12 = 97 then
  zbind1 (fx_T_bit n (0 : Int32)) (fun r_13 =>
  zbind1 (fx_T_bit n (1 : Int32)) (fun r_14 =>
  (if zoob (0 : Int32) 32 then none else
  zlet (uUp' S_12 (upd (uUp S_12) (0 : Int32).toNatClampNeg (r_13 ||| r_14))) (fun S_16 =>
  some S_16))))
  else none))

set_option maxRecDepth 100000 in
set_option maxHeartbeats 4000000 in
theorem lp_T_init_L55 {z : zE} {A : Nat → Nat} {Rr : va_W} {p : Program} {l : Launch} {e : Env} {s : State} {m : MethodId} {args : Array Value} {below : List Frame} {meth : Method} {c : Code} {Q : State → Prop} {H0 : Heap} {A0 : Nat → Prop} (hM : zM z p s m args c b_T_init 2 R_T) (hA : ∀ q : Nat, H0.size ≤ q → A0 q) (n : Nat) :
    ∀ (v1 : Int32) (S : ZT) (r : Nat × Int32 × ZT), fx_T_init_L55 n v1 S = some r → (∀ (H : Heap) (locs : List Loc) (ls : Array Slot), va_P z.1 vwCl (tw z A r.2.2 ++ Rr) H → va_D A0 (tw z A r.2.2 ++ Rr) → va_S A0 H0 H locs → lv_has ls 2 [(0, .ref (A 0)), (1, .int r.2.1)] → W p l e rm_T_init s m args below meth c H locs 37 928 Q (F0 m r.1 ls [])) →
    ∀ (H : Heap) (locs : List Loc) (ls : Array Slot), va_P z.1 vwCl (tw z A S ++ Rr) H → va_D A0 (tw z A S ++ Rr) → va_S A0 H0 H locs → lv_has ls 2 [(0, .ref (A 0)), (1, .int v1)] → W p l e rm_T_init s m args below meth c H locs 37 928 Q (F0 m 55 ls []) := by
  obtain ⟨hx, hb, hml, hown, hts, hK, hN⟩ := id hM
  intro v1 S r h hE
  refine zz_loop (G := fun (st : Int32 × ZT) => ∀ (H : Heap) (locs : List Loc) (ls : Array Slot), va_P z.1 vwCl (tw z A st.2 ++ Rr) H → va_D A0 (tw z A st.2 ++ Rr) → va_S A0 H0 H locs → lv_has ls 2 [(0, .ref (A 0)), (1, .int st.1)] → W p l e rm_T_init s m args below meth c H locs 37 928 Q (F0 m 55 ls [])) (E := fun (r : Nat × Int32 × ZT) => ∀ (H : Heap) (locs : List Loc) (ls : Array Slot), va_P z.1 vwCl (tw z A r.2.2 ++ Rr) H → va_D A0 (tw z A r.2.2 ++ Rr) → va_S A0 H0 H locs → lv_has ls 2 [(0, .ref (A 0)), (1, .int r.2.1)] → W p l e rm_T_init s m args below meth c H locs 37 928 Q (F0 m r.1 ls [])) ?_ n (v1, S) r h hE
  clear h hE r v1 S
  rintro ⟨v1, S⟩ o h hG hE H locs ls hP hD hS hl
  have h : st_T_init_L55 n v1 S = some o := h
  have hl : lv_has ls 2 [(0, .ref (A 0)), (1, .int v1)] := hl
  have hP : va_P z.1 vwCl (tw z A S ++ Rr) H := hP
  have hD : va_D A0 (tw z A S ++ Rr) := hD
  unfold st_T_init_L55 at h
  refine lv_iload_n hx hb d_T_init_55 rfl (lv_at hl 1 rfl) ?_
  refine lv_bipush (v := 8) hx hb d_T_init_56 (by decide) ?_
  refine lv_icmp_ge (tgt := 97) hx hb d_T_init_58 (by decide) (fun c_2 => ?_) (fun c_2 => ?_)
  · replace h := zz_t c_2 h
    exact hE _ (Option.some.inj h).symm _ _ _ hP hD hS hl
  · replace h := zz_f c_2 h
    refine lv_aload_n hx hb d_T_init_61 rfl (lv_at hl 0 rfl) ?_
    refine va_get (D := z.1) (ci := 1) (v := .ref (A 5)) (C := R_T) (T := F_T) (N := 6) hx hb hts i_T hown hK hP 0 rfl rfl 4 (by decide) (hts _ wq_42) (fun _ h9 => h9) rfl d_T_init_62 ?_
    refine lv_iload_n hx hb d_T_init_65 rfl (lv_at hl 1 rfl) ?_
    refine lv_iload_n hx hb d_T_init_66 rfl (lv_at hl 1 rfl) ?_
    obtain ⟨r_3, e_3, h⟩ := zz_bind1 h
    refine zz_goI (zz_runS (As := [.int v1]) (rest := [.int v1, .ref (A 5)]) (k_T_isPrimitive l z _ n _ _ e_3) ⟨hx, hb, hml, hown, hts⟩ (va_cwS 1 hts (zz_gS wq_32 wq_33 wq_2 wq_34) rfl rfl rfl (by decide +kernel) ⟨Nat.le_of_ble_eq_true rfl, Nat.le_of_ble_eq_true rfl⟩) hK hN hP hD rfl hl.1 rfl (Nat.le_of_ble_eq_true rfl) d_T_init_67 ⟨Nat.le_of_ble_eq_true rfl, Nat.le_of_ble_eq_true rfl⟩) hD hS hA (fun H locs hP hD hS => ?_)
    refine lv_if_eq (tgt := 80) hx hb d_T_init_70 (by decide) (fun c_4 => ?_) (fun c_4 => ?_)
    · replace h := zz_t c_4 h
      refine lv_iload_n hx hb d_T_init_80 rfl (lv_at hl 1 rfl) ?_
      obtain ⟨r_5, e_5, h⟩ := zz_bind1 h
      refine zz_goI (zz_runS (As := [.int v1]) (rest := [.int v1, .ref (A 5)]) (k_T_bit l z _ n _ _ e_5) ⟨hx, hb, hml, hown, hts⟩ (va_cwS 1 hts (zz_gS wq_35 wq_36 wq_2 wq_37) rfl rfl rfl (by decide +kernel) ⟨Nat.le_of_ble_eq_true rfl, Nat.le_of_ble_eq_true rfl⟩) hK hN hP hD rfl hl.1 rfl (Nat.le_of_ble_eq_true rfl) d_T_init_81 ⟨Nat.le_of_ble_eq_true rfl, Nat.le_of_ble_eq_true rfl⟩) hD hS hA (fun H locs hP hD hS => ?_)
      refine lv_bipush (v := 7) hx hb d_T_init_84 (by decide) ?_
      obtain ⟨r_6, e_6, h⟩ := zz_bind1 h
      refine zz_goI (zz_runS (As := [.int (7 : Int32)]) (rest := [.int r_5, .int v1, .ref (A 5)]) (k_T_bit l z _ n _ _ e_6) ⟨hx, hb, hml, hown, hts⟩ (va_cwS 1 hts (zz_gS wq_35 wq_36 wq_2 wq_37) rfl rfl rfl (by decide +kernel) ⟨Nat.le_of_ble_eq_true rfl, Nat.le_of_ble_eq_true rfl⟩) hK hN hP hD rfl hl.1 rfl (Nat.le_of_ble_eq_true rfl) d_T_init_86 ⟨Nat.le_of_ble_eq_true rfl, Nat.le_of_ble_eq_true rfl⟩) hD hS hA (fun H locs hP hD hS => ?_)
      refine lv_ior hx hb d_T_init_89 ?_
      obtain ⟨c_7, h⟩ := zz_oob h
      obtain ⟨S_8, e_8, h⟩ := zz_let h
      refine va_iast hx hb hK hP hD hS 5 0 rfl rfl c_7 d_T_init_90 (fun H locs hP hD hS => ?_)
      have hP : va_P z.1 vwCl (tw z A S_8 ++ Rr) H := by rw [e_8]; exact hP
      have hD : va_D A0 (tw z A S_8 ++ Rr) := by rw [e_8]; exact hD
      refine lv_iinc (v := (v1 + (1 : Int32))) (lv' := [(1, .int (v1 + (1 : Int32))), (0, .ref (A 0))]) hx hb d_T_init_91 hl (k := 1) rfl rfl (by decide) rfl (fun ls hl => ?_)
      refine lv_goto (tgt := 55) hx hb d_T_init_94 (by decide) ?_
      exact hG _ (Option.some.inj h).symm _ _ _ hP hD hS (lv_sub hl [1, 0] rfl)
    · replace h := zz_f c_4 h
      refine lv_iload_n hx hb d_T_init_73 rfl (lv_at hl 1 rfl) ?_
      obtain ⟨r_9, e_9, h⟩ := zz_bind1 h
      refine zz_goI (zz_runS (As := [.int v1]) (rest := [.int v1, .ref (A 5)]) (k_T_bit l z _ n _ _ e_9) ⟨hx, hb, hml, hown, hts⟩ (va_cwS 1 hts (zz_gS wq_35 wq_36 wq_2 wq_37) rfl rfl rfl (by decide +kernel) ⟨Nat.le_of_ble_eq_true rfl, Nat.le_of_ble_eq_true rfl⟩) hK hN hP hD rfl hl.1 rfl (Nat.le_of_ble_eq_true rfl) d_T_init_74 ⟨Nat.le_of_ble_eq_true rfl, Nat.le_of_ble_eq_true rfl⟩) hD hS hA (fun H locs hP hD hS => ?_)
      refine lv_goto (tgt := 90) hx hb d_T_init_77 (by decide) ?_
      obtain ⟨c_10, h⟩ := zz_oob h
      obtain ⟨S_11, e_11, h⟩ := zz_let h
      refine va_iast hx hb hK hP hD hS 5 0 rfl rfl c_10 d_T_init_90 (fun H locs hP hD hS => ?_)
      have hP : va_P z.1 vwCl (tw z A S_11 ++ Rr) H := by rw [e_11]; exact hP
      have hD : va_D A0 (tw z A S_11 ++ Rr) := by rw [e_11]; exact hD
      refine lv_iinc (v := (v1 + (1 : Int32))) (lv' := [(1, .int (v1 + (1 : Int32))), (0, .ref (A 0))]) hx hb d_T_init_91 hl (k := 1) rfl rfl (by decide) rfl (fun ls hl => ?_)
      refine lv_goto (tgt := 55) hx hb d_T_init_94 (by decide) ?_
      exact hG _ (Option.some.inj h).symm _ _ _ hP hD hS (lv_sub hl [1, 0] rfl)

set_option maxRecDepth 100000 in
set_option maxHeartbeats 4000000 in
theorem k_T_init (l : Launch) (z : zE) (Rr : va_W) (h0 n : Nat) (S' : ZT) (h : fx_T_init n zT0 = some S') : zCe z l y_T_init w_T_init rm_T_init [.ref h0] ([(h0, .inr (1, [.null, .null, .null, .null, .null, .int 0]))] ++ Rr) none (fun w' => ∃ A : Nat → Nat, A 0 = h0 ∧ w' = tw z A S' ++ Rr) 37 928 := by
  refine zz_ofE (by decide) (Nat.le_of_ble_eq_true rfl) ?_
  intro p e s m args below meth c A0 ls hM hO hin hr hlocks hA hP hD hl
  have hM : zM z p s m args c b_T_init 2 R_T := hM
  obtain ⟨hx, hb, hml, hown, hts, hK, hN⟩ := id hM
  have hS : va_S A0 s.heap s.heap [] := va_S.rf
  have hl : lv_has ls 2 [(0, .ref h0)] := hl
  refine lv_aload_n hx hb d_T_init_0 rfl (lv_at hl 0 rfl) ?_
  refine W.objInit hx hb hown (hts _ wq_29) (hts _ wq_22) (hts _ wq_23) rfl (by rw [hml]; exact hl.1) rfl d_T_init_1 (Nat.le_of_ble_eq_true rfl) (Nat.le_of_ble_eq_true rfl) ?_
  refine W.eq (g2 := F0 m 4 ls []) rfl ?_
  refine lv_aload_n hx hb d_T_init_4 rfl (lv_at hl 0 rfl) ?_
  refine lv_bipush (v := 32) hx hb d_T_init_5 (by decide) ?_
  refine zz_newa (L := [(h0, .inr (1, [.null, .null, .null, .null, .null, .int 0]))]) (Rr := Rr) hx hb 1 (atype := .boolean) (a0 := (32, .inl (fun _ => 0))) (N' := 32) (hts _ wq_58) rfl rfl (fun C h => by cases h) hK hP hD hS hA (fun _ => rfl) (by decide) (by decide) (by decide) (Nat.le_of_ble_eq_true rfl) (Nat.le_of_ble_eq_true rfl) d_T_init_7 (fun q7 H hP hD hS => ?_)
  have hP : va_P z.1 vwCl ([(h0, .inr (1, [.null, .null, .null, .null, .null, .int 0])), (q7, .inl (zZ z, 32, .inl (fun _ => 0)))] ++ Rr) H := hP
  have hD : va_D A0 ([(h0, .inr (1, [.null, .null, .null, .null, .null, .int 0])), (q7, .inl (zZ z, 32, .inl (fun _ => 0)))] ++ Rr) := hD
  refine va_putF (D := z.1) (ci := 1) (v := .ref q7) (ty := .array .boolean) (C := R_T) (T := F_T) (N := 6) hx hb hts i_T ty_T ty_T_ok n_T hown hK hP hD hS 0 rfl rfl 0 (by decide) (hts _ wq_38) (fun _ h9 => h9) rfl hin rfl (by decide +kernel) rfl rfl (Nat.le_of_ble_eq_true rfl) d_T_init_9 (fun H locs hP hD hS => ?_)
  have hP : va_P z.1 vwCl ([(h0, .inr (1, [.ref q7, .null, .null, .null, .null, .int 0])), (q7, .inl (zZ z, 32, .inl (fun _ => 0)))] ++ Rr) H := hP
  have hD : va_D A0 ([(h0, .inr (1, [.ref q7, .null, .null, .null, .null, .int 0])), (q7, .inl (zZ z, 32, .inl (fun _ => 0)))] ++ Rr) := hD
  refine lv_aload_n hx hb d_T_init_12 rfl (lv_at hl 0 rfl) ?_
  refine lv_bipush (v := 32) hx hb d_T_init_13 (by decide) ?_
  refine zz_newa (L := [(h0, .inr (1, [.ref q7, .null, .null, .null, .null, .int 0])), (q7, .inl (zZ z, 32, .inl (fun _ => 0)))]) (Rr := Rr) hx hb 0 (atype := .int) (a0 := (32, .inl (fun _ => 0))) (N' := 32) (hts _ wq_59) rfl rfl (fun C h => by cases h) hK hP hD hS hA (fun _ => rfl) (by decide) (by decide) (by decide) (Nat.le_of_ble_eq_true rfl) (Nat.le_of_ble_eq_true rfl) d_T_init_15 (fun q15 H hP hD hS => ?_)
  have hP : va_P z.1 vwCl ([(h0, .inr (1, [.ref q7, .null, .null, .null, .null, .int 0])), (q7, .inl (zZ z, 32, .inl (fun _ => 0))), (q15, .inl (zI z, 32, .inl (fun _ => 0)))] ++ Rr) H := hP
  have hD : va_D A0 ([(h0, .inr (1, [.ref q7, .null, .null, .null, .null, .int 0])), (q7, .inl (zZ z, 32, .inl (fun _ => 0))), (q15, .inl (zI z, 32, .inl (fun _ => 0)))] ++ Rr) := hD
  refine va_putF (D := z.1) (ci := 1) (v := .ref q15) (ty := .array .int) (C := R_T) (T := F_T) (N := 6) hx hb hts i_T ty_T ty_T_ok n_T hown hK hP hD hS 0 rfl rfl 1 (by decide) (hts _ wq_39) (fun _ h9 => h9) rfl hin rfl (by decide +kernel) rfl rfl (Nat.le_of_ble_eq_true rfl) d_T_init_17 (fun H locs hP hD hS => ?_)
  have hP : va_P z.1 vwCl ([(h0, .inr (1, [.ref q7, .ref q15, .null, .null, .null, .int 0])), (q7, .inl (zZ z, 32, .inl (fun _ => 0))), (q15, .inl (zI z, 32, .inl (fun _ => 0)))] ++ Rr) H := hP
  have hD : va_D A0 ([(h0, .inr (1, [.ref q7, .ref q15, .null, .null, .null, .int 0])), (q7, .inl (zZ z, 32, .inl (fun _ => 0))), (q15, .inl (zI z, 32, .inl (fun _ => 0)))] ++ Rr) := hD
  refine lv_aload_n hx hb d_T_init_20 rfl (lv_at hl 0 rfl) ?_
  refine lv_bipush (v := 32) hx hb d_T_init_21 (by decide) ?_
  refine zz_newa (L := [(h0, .inr (1, [.ref q7, .ref q15, .null, .null, .null, .int 0])), (q7, .inl (zZ z, 32, .inl (fun _ => 0))), (q15, .inl (zI z, 32, .inl (fun _ => 0)))]) (Rr := Rr) hx hb 0 (atype := .int) (a0 := (32, .inl (fun _ => 0))) (N' := 32) (hts _ wq_59) rfl rfl (fun C h => by cases h) hK hP hD hS hA (fun _ => rfl) (by decide) (by decide) (by decide) (Nat.le_of_ble_eq_true rfl) (Nat.le_of_ble_eq_true rfl) d_T_init_23 (fun q23 H hP hD hS => ?_)
  have hP : va_P z.1 vwCl ([(h0, .inr (1, [.ref q7, .ref q15, .null, .null, .null, .int 0])), (q7, .inl (zZ z, 32, .inl (fun _ => 0))), (q15, .inl (zI z, 32, .inl (fun _ => 0))), (q23, .inl (zI z, 32, .inl (fun _ => 0)))] ++ Rr) H := hP
  have hD : va_D A0 ([(h0, .inr (1, [.ref q7, .ref q15, .null, .null, .null, .int 0])), (q7, .inl (zZ z, 32, .inl (fun _ => 0))), (q15, .inl (zI z, 32, .inl (fun _ => 0))), (q23, .inl (zI z, 32, .inl (fun _ => 0)))] ++ Rr) := hD
  refine va_putF (D := z.1) (ci := 1) (v := .ref q23) (ty := .array .int) (C := R_T) (T := F_T) (N := 6) hx hb hts i_T ty_T ty_T_ok n_T hown hK hP hD hS 0 rfl rfl 2 (by decide) (hts _ wq_40) (fun _ h9 => h9) rfl hin rfl (by decide +kernel) rfl rfl (Nat.le_of_ble_eq_true rfl) d_T_init_25 (fun H locs hP hD hS => ?_)
  have hP : va_P z.1 vwCl ([(h0, .inr (1, [.ref q7, .ref q15, .ref q23, .null, .null, .int 0])), (q7, .inl (zZ z, 32, .inl (fun _ => 0))), (q15, .inl (zI z, 32, .inl (fun _ => 0))), (q23, .inl (zI z, 32, .inl (fun _ => 0)))] ++ Rr) H := hP
  have hD : va_D A0 ([(h0, .inr (1, [.ref q7, .ref q15, .ref q23, .null, .null, .int 0])), (q7, .inl (zZ z, 32, .inl (fun _ => 0))), (q15, .inl (zI z, 32, .inl (fun _ => 0))), (q23, .inl (zI z, 32, .inl (fun _ => 0)))] ++ Rr) := hD
  refine lv_aload_n hx hb d_T_init_28 rfl (lv_at hl 0 rfl) ?_
  refine lv_bipush (v := 32) hx hb d_T_init_29 (by decide) ?_
  refine lv_bipush (v := 24) hx hb d_T_init_31 (by decide) ?_
  refine zz_mna (L := [(h0, .inr (1, [.ref q7, .ref q15, .ref q23, .null, .null, .int 0])), (q7, .inl (zZ z, 32, .inl (fun _ => 0))), (q15, .inl (zI z, 32, .inl (fun _ => 0))), (q23, .inl (zI z, 32, .inl (fun _ => 0)))]) (Rr := Rr) hx hb hown (hts _ wq_30) hO (hts _ wq_59) hK hP hD hS hA (Nat.le_of_ble_eq_true rfl) (Nat.le_of_ble_eq_true rfl) d_T_init_33 (fun q33 r33 H hP hD hS => ?_)
  have hP : va_P z.1 vwCl ([(h0, .inr (1, [.ref q7, .ref q15, .ref q23, .null, .null, .int 0])), (q7, .inl (zZ z, 32, .inl (fun _ => 0))), (q15, .inl (zI z, 32, .inl (fun _ => 0))), (q23, .inl (zI z, 32, .inl (fun _ => 0))), (q33, .inl (zG z, 32, .inr (.inr (.inr (.inr (fun i => some (r33 i)))))))] ++ ((List.range 32).map (fun i => (r33 i, (.inl (zI z, 24, .inl (fun _ => 0)) : va_E))) ++ Rr)) H := hP
  have hD : va_D A0 ([(h0, .inr (1, [.ref q7, .ref q15, .ref q23, .null, .null, .int 0])), (q7, .inl (zZ z, 32, .inl (fun _ => 0))), (q15, .inl (zI z, 32, .inl (fun _ => 0))), (q23, .inl (zI z, 32, .inl (fun _ => 0))), (q33, .inl (zG z, 32, .inr (.inr (.inr (.inr (fun i => some (r33 i)))))))] ++ ((List.range 32).map (fun i => (r33 i, (.inl (zI z, 24, .inl (fun _ => 0)) : va_E))) ++ Rr)) := hD
  refine va_putF (D := z.1) (ci := 1) (v := .ref q33) (ty := .array (.array .int)) (C := R_T) (T := F_T) (N := 6) hx hb hts i_T ty_T ty_T_ok n_T hown hK hP hD hS 0 rfl rfl 3 (by decide) (hts _ wq_41) (fun _ h9 => h9) rfl hin rfl (by decide +kernel) rfl rfl (Nat.le_of_ble_eq_true rfl) d_T_init_37 (fun H locs hP hD hS => ?_)
  have hP : va_P z.1 vwCl ([(h0, .inr (1, [.ref q7, .ref q15, .ref q23, .ref q33, .null, .int 0])), (q7, .inl (zZ z, 32, .inl (fun _ => 0))), (q15, .inl (zI z, 32, .inl (fun _ => 0))), (q23, .inl (zI z, 32, .inl (fun _ => 0))), (q33, .inl (zG z, 32, .inr (.inr (.inr (.inr (fun i => some (r33 i)))))))] ++ ((List.range 32).map (fun i => (r33 i, (.inl (zI z, 24, .inl (fun _ => 0)) : va_E))) ++ Rr)) H := hP
  have hD : va_D A0 ([(h0, .inr (1, [.ref q7, .ref q15, .ref q23, .ref q33, .null, .int 0])), (q7, .inl (zZ z, 32, .inl (fun _ => 0))), (q15, .inl (zI z, 32, .inl (fun _ => 0))), (q23, .inl (zI z, 32, .inl (fun _ => 0))), (q33, .inl (zG z, 32, .inr (.inr (.inr (.inr (fun i => some (r33 i)))))))] ++ ((List.range 32).map (fun i => (r33 i, (.inl (zI z, 24, .inl (fun _ => 0)) : va_E))) ++ Rr)) := hD
  refine lv_aload_n hx hb d_T_init_40 rfl (lv_at hl 0 rfl) ?_
  refine lv_bipush (v := 32) hx hb d_T_init_41 (by decide) ?_
  refine zz_newa (L := [(h0, .inr (1, [.ref q7, .ref q15, .ref q23, .ref q33, .null, .int 0])), (q7, .inl (zZ z, 32, .inl (fun _ => 0))), (q15, .inl (zI z, 32, .inl (fun _ => 0))), (q23, .inl (zI z, 32, .inl (fun _ => 0))), (q33, .inl (zG z, 32, .inr (.inr (.inr (.inr (fun i => some (r33 i)))))))]) (Rr := ((List.range 32).map (fun i => (r33 i, (.inl (zI z, 24, .inl (fun _ => 0)) : va_E))) ++ Rr)) hx hb 0 (atype := .int) (a0 := (32, .inl (fun _ => 0))) (N' := 32) (hts _ wq_59) rfl rfl (fun C h => by cases h) hK hP hD hS hA (fun _ => rfl) (by decide) (by decide) (by decide) (Nat.le_of_ble_eq_true rfl) (Nat.le_of_ble_eq_true rfl) d_T_init_43 (fun q43 H hP hD hS => ?_)
  have hP : va_P z.1 vwCl ([(h0, .inr (1, [.ref q7, .ref q15, .ref q23, .ref q33, .null, .int 0])), (q7, .inl (zZ z, 32, .inl (fun _ => 0))), (q15, .inl (zI z, 32, .inl (fun _ => 0))), (q23, .inl (zI z, 32, .inl (fun _ => 0))), (q33, .inl (zG z, 32, .inr (.inr (.inr (.inr (fun i => some (r33 i))))))), (q43, .inl (zI z, 32, .inl (fun _ => 0)))] ++ ((List.range 32).map (fun i => (r33 i, (.inl (zI z, 24, .inl (fun _ => 0)) : va_E))) ++ Rr)) H := hP
  have hD : va_D A0 ([(h0, .inr (1, [.ref q7, .ref q15, .ref q23, .ref q33, .null, .int 0])), (q7, .inl (zZ z, 32, .inl (fun _ => 0))), (q15, .inl (zI z, 32, .inl (fun _ => 0))), (q23, .inl (zI z, 32, .inl (fun _ => 0))), (q33, .inl (zG z, 32, .inr (.inr (.inr (.inr (fun i => some (r33 i))))))), (q43, .inl (zI z, 32, .inl (fun _ => 0)))] ++ ((List.range 32).map (fun i => (r33 i, (.inl (zI z, 24, .inl (fun _ => 0)) : va_E))) ++ Rr)) := hD
  refine va_putF (D := z.1) (ci := 1) (v := .ref q43) (ty := .array .int) (C := R_T) (T := F_T) (N := 6) hx hb hts i_T ty_T ty_T_ok n_T hown hK hP hD hS 0 rfl rfl 4 (by decide) (hts _ wq_42) (fun _ h9 => h9) rfl hin rfl (by decide +kernel) rfl rfl (Nat.le_of_ble_eq_true rfl) d_T_init_45 (fun H locs hP hD hS => ?_)
  have hP : va_P z.1 vwCl ([(h0, .inr (1, [.ref q7, .ref q15, .ref q23, .ref q33, .ref q43, .int 0])), (q7, .inl (zZ z, 32, .inl (fun _ => 0))), (q15, .inl (zI z, 32, .inl (fun _ => 0))), (q23, .inl (zI z, 32, .inl (fun _ => 0))), (q33, .inl (zG z, 32, .inr (.inr (.inr (.inr (fun i => some (r33 i))))))), (q43, .inl (zI z, 32, .inl (fun _ => 0)))] ++ ((List.range 32).map (fun i => (r33 i, (.inl (zI z, 24, .inl (fun _ => 0)) : va_E))) ++ Rr)) H := hP
  have hD : va_D A0 ([(h0, .inr (1, [.ref q7, .ref q15, .ref q23, .ref q33, .ref q43, .int 0])), (q7, .inl (zZ z, 32, .inl (fun _ => 0))), (q15, .inl (zI z, 32, .inl (fun _ => 0))), (q23, .inl (zI z, 32, .inl (fun _ => 0))), (q33, .inl (zG z, 32, .inr (.inr (.inr (.inr (fun i => some (r33 i))))))), (q43, .inl (zI z, 32, .inl (fun _ => 0)))] ++ ((List.range 32).map (fun i => (r33 i, (.inl (zI z, 24, .inl (fun _ => 0)) : va_E))) ++ Rr)) := hD
  obtain ⟨A, a0, a1, a2, a3, a4, a5, ar⟩ : ∃ A : Nat → Nat, A 0 = h0 ∧ A 1 = q7 ∧ A 2 = q15 ∧ A 3 = q23 ∧ A 4 = q33 ∧ A 5 = q43 ∧ (fun i => A (6 + i)) = r33 := ⟨fun k => if k < 6 then zad [h0, q7, q15, q23, q33, q43] k else r33 (k - 6), rfl, rfl, rfl, rfl, rfl, rfl, funext (fun i => by show (if 6 + i < 6 then _ else r33 (6 + i - 6)) = _; rw [if_neg (by omega), show 6 + i - 6 = i by omega])⟩
  subst a0 a1 a2 a3 a4 a5 ar
  have hP : va_P z.1 vwCl (tw z A zT0 ++ Rr) H := hP
  have hD : va_D A0 (tw z A zT0 ++ Rr) := hD
  generalize zT0 = S at h hP hD
  unfold fx_T_init at h
  refine lv_aload_n hx hb d_T_init_48 rfl (lv_at hl 0 rfl) ?_
  refine lv_iconst (v := 0) hx hb d_T_init_49 (by decide) ?_
  obtain ⟨S_1, e_1, h⟩ := zz_let h
  refine va_put (D := z.1) (ci := 1) (v := .int (0 : Int32)) (ty := .int) (C := R_T) (T := F_T) (N := 6) hx hb hts i_T ty_T ty_T_ok n_T hown hK hP hD hS 0 rfl rfl 5 (by decide) (hts _ wq_43) (fun _ h9 => h9) rfl (by decide +kernel) rfl rfl (Nat.le_of_ble_eq_true rfl) d_T_init_50 (fun H locs hP hD hS => ?_)
  have hP : va_P z.1 vwCl (tw z A S_1 ++ Rr) H := by rw [e_1]; exact hP
  have hD : va_D A0 (tw z A S_1 ++ Rr) := by rw [e_1]; exact hD
  refine lv_iconst (v := 0) hx hb d_T_init_53 (by decide) ?_
  refine lv_istore_n (lv' := [(1, .int (0 : Int32)), (0, .ref (A 0))]) hx hb d_T_init_54 rfl hl (by decide) rfl (fun ls hl => ?_)
  replace h := zz_bL2 h
  obtain ⟨x_12, v1_12, S_12, e_12, h⟩ := h
  refine lp_T_init_L55 hM hA n _ _ _ e_12 ?_ _ _ _ hP hD hS (lv_sub hl [1, 0] rfl)
  intro H locs ls hP hD hS hl
  have hl : lv_has ls 2 [(0, .ref (A 0)), (1, .int v1_12)] := hl
  have hP : va_P z.1 vwCl (tw z A S_12 ++ Rr) H := hP
  have hD : va_D A0 (tw z A S_12 ++ Rr) := hD
  replace h := zz_grd h
  obtain ⟨c_12, h⟩ := h
  subst c_12
  refine W.eq (g2 := F0 m 97 ls []) rfl ?_
  refine lv_aload_n hx hb d_T_init_97 rfl (lv_at hl 0 rfl) ?_
  refine va_get (D := z.1) (ci := 1) (v := .ref (A 5)) (C := R_T) (T := F_T) (N := 6) hx hb hts i_T hown hK hP 0 rfl rfl 4 (by decide) (hts _ wq_42) (fun _ h9 => h9) rfl d_T_init_98 ?_
  refine lv_iconst (v := 0) hx hb d_T_init_101 (by decide) ?_
  refine lv_iconst (v := 0) hx hb d_T_init_102 (by decide) ?_
  obtain ⟨r_13, e_13, h⟩ := zz_bind1 h
  refine zz_goI (zz_runS (As := [.int (0 : Int32)]) (rest := [.int (0 : Int32), .ref (A 5)]) (k_T_bit l z _ n _ _ e_13) ⟨hx, hb, hml, hown, hts⟩ (va_cwS 1 hts (zz_gS wq_35 wq_36 wq_2 wq_37) rfl rfl rfl (by decide +kernel) ⟨Nat.le_of_ble_eq_true rfl, Nat.le_of_ble_eq_true rfl⟩) hK hN hP hD rfl hl.1 rfl (Nat.le_of_ble_eq_true rfl) d_T_init_103 ⟨Nat.le_of_ble_eq_true rfl, Nat.le_of_ble_eq_true rfl⟩) hD hS hA (fun H locs hP hD hS => ?_)
  refine lv_iconst (v := 1) hx hb d_T_init_106 (by decide) ?_
  obtain ⟨r_14, e_14, h⟩ := zz_bind1 h
  refine zz_goI (zz_runS (As := [.int (1 : Int32)]) (rest := [.int r_13, .int (0 : Int32), .ref (A 5)]) (k_T_bit l z _ n _ _ e_14) ⟨hx, hb, hml, hown, hts⟩ (va_cwS 1 hts (zz_gS wq_35 wq_36 wq_2 wq_37) rfl rfl rfl (by decide +kernel) ⟨Nat.le_of_ble_eq_true rfl, Nat.le_of_ble_eq_true rfl⟩) hK hN hP hD rfl hl.1 rfl (Nat.le_of_ble_eq_true rfl) d_T_init_107 ⟨Nat.le_of_ble_eq_true rfl, Nat.le_of_ble_eq_true rfl⟩) hD hS hA (fun H locs hP hD hS => ?_)
  refine lv_ior hx hb d_T_init_110 ?_
  obtain ⟨c_15, h⟩ := zz_oob h
  obtain ⟨S_16, e_16, h⟩ := zz_let h
  refine va_iast hx hb hK hP hD hS 5 0 rfl rfl c_15 d_T_init_111 (fun H locs hP hD hS => ?_)
  have hP : va_P z.1 vwCl (tw z A S_16 ++ Rr) H := by rw [e_16]; exact hP
  have hD : va_D A0 (tw z A S_16 ++ Rr) := by rw [e_16]; exact hD
  cases h
  exact zz_vretE hx hb hr hlocks ⟨A, rfl, rfl⟩ hP hD hS (Nat.le_of_ble_eq_true rfl) (Nat.le_of_ble_eq_true rfl) d_T_init_112

