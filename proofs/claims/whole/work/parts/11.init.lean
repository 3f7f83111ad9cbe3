abbrev ZTT : Type := (Int32) × (Nat → Int32) × (Nat → Int32) × (Nat → Int32) × (Nat → Nat → Int32) × (Nat → Int32)
abbrev ZT : Type := ZTT
abbrev uTo (S : ZT) : Int32 := S.1
abbrev uTo' (S : ZT) (x : Int32) : ZT := ((x, S.2.1, S.2.2.1, S.2.2.2.1, S.2.2.2.2.1, S.2.2.2.2.2))
abbrev uFm (S : ZT) : Nat → Int32 := S.2.1
abbrev uFm' (S : ZT) (x : Nat → Int32) : ZT := ((S.1, x, S.2.2.1, S.2.2.2.1, S.2.2.2.2.1, S.2.2.2.2.2))
abbrev uCa (S : ZT) : Nat → Int32 := S.2.2.1
abbrev uCa' (S : ZT) (x : Nat → Int32) : ZT := ((S.1, S.2.1, x, S.2.2.2.1, S.2.2.2.2.1, S.2.2.2.2.2))
abbrev uFc (S : ZT) : Nat → Int32 := S.2.2.2.1
abbrev uFc' (S : ZT) (x : Nat → Int32) : ZT := ((S.1, S.2.1, S.2.2.1, x, S.2.2.2.2.1, S.2.2.2.2.2))
abbrev uGr (S : ZT) : Nat → Nat → Int32 := S.2.2.2.2.1
abbrev uGr' (S : ZT) (x : Nat → Nat → Int32) : ZT := ((S.1, S.2.1, S.2.2.1, S.2.2.2.1, x, S.2.2.2.2.2))
abbrev uUp (S : ZT) : Nat → Int32 := S.2.2.2.2.2
abbrev uUp' (S : ZT) (x : Nat → Int32) : ZT := ((S.1, S.2.1, S.2.2.1, S.2.2.2.1, S.2.2.2.2.1, x))
def tw (z : zE) (A : Nat → Nat) (S : ZT) : va_W := [((A 0), .inr (1, [.ref (A 1), .ref (A 2), .ref (A 3), .ref (A 4), .ref (A 5), .int (uTo S)])),
  ((A 1), .inl (zZ z, 32, .inl (uFm S))),
  ((A 2), .inl (zI z, 32, .inl (uCa S))),
  ((A 3), .inl (zI z, 32, .inl (uFc S))),
  ((A 4), .inl (zG z, 32, .inr (.inr (.inr (.inr (fun i => some (A (6 + i)))))))),
  ((A 5), .inl (zI z, 32, .inl (uUp S)))] ++ (List.range 32).map (fun i => (A (6 + i), .inl (zI z, 24, .inl (uGr S i))))

def mw (z : zE) (A : Nat → Nat) (S : ZCM) : va_W := [(A 0, .inr (2, [.ref (A 1), .ref (A 2), .ref (A 3), .ref (A 4), .ref (A 5), .int S.1])), (A 1, .inl (zI z, 80, .inl S.2.1)), (A 2, .inl (zI z, 80, .inl S.2.2.1)), (A 3, .inl (zI z, 80, .inl S.2.2.2.1)), (A 4, .inl (zL z, 80, .inr (.inl S.2.2.2.2.1))), (A 5, .inl (zZ z, 80, .inl S.2.2.2.2.2))]
def zM0 : ZCM := (0, fun _ => 0, fun _ => 0, fun _ => 0, fun _ => 0, fun _ => 0)
def hw (z : zE) (A : Nat → Nat) (aT aM : Nat) (S : ZCH) : va_W := [(A 0, .inr (3, [.ref aT, .ref aM, .ref (A 1), .ref (A 2), .ref (A 3), .int S.1, .int S.2.1, .int S.2.2.1])), (A 1, .inl (zI z, 24, .inl S.2.2.2.1)), (A 2, .inl (zI z, 80, .inl S.2.2.2.2.1)), (A 3, .inl (zI z, 80, .inl S.2.2.2.2.2))]
def zH0 : ZCH := (0, 0, 0, fun _ => 0, fun _ => 0, fun _ => 0)
def kw (z : zE) (A : Nat → Nat) (S : ZCK) : va_W := [(A 0, .inr (4, [.ref (A 1), .ref (A 2), .ref (A 3), .ref (A 4), .ref (A 5), .int S.1])), (A 1, .inl (zI z, 100, .inl S.2.1)), (A 2, .inl (zI z, 100, .inl S.2.2.1)), (A 3, .inl (zI z, 100, .inl S.2.2.2.1)), (A 4, .inl (zL z, 100, .inr (.inl S.2.2.2.2.1))), (A 5, .inl (zI z, 100, .inl S.2.2.2.2.2))]
def zK0 : ZCK := (0, fun _ => 0, fun _ => 0, fun _ => 0, fun _ => 0, fun _ => 0)
def zT0 : ZT := (0, fun _ => 0, fun _ => 0, fun _ => 0, fun _ _ => 0, fun _ => 0)
def zQ0 : ZQ := ((0, 8, 0, 0, 0, 0, 0, 0, 0), (fun _ => 0, fun _ => 0, fun _ => 0, fun _ => 0), (fun _ => 0, fun _ => 0, fun _ => 0, fun _ => 0, fun _ => 0), (fun _ => 0, fun _ => 0, fun _ => 0, fun _ => 0, fun _ => 0), (fun _ => 0, fun _ => 0, fun _ => 0, fun _ => 0, fun _ => 0))
abbrev b_M_init : ByteArray := prog_4_method_1_code
abbrev y_M_init : MethodName := ⟨"MemberChooser$Members", "<init>", "()V"⟩
abbrev w_M_init : List Cond := Cond.code y_M_init b_M_init 1 none :: zTb
theorem d_M_init_0 : decode b_M_init 0 = .ok (.aload_n 0, 1) := by decide +kernel
theorem d_M_init_1 : decode b_M_init 1 = .ok (.invokespecial 3, 3) := by decide +kernel
theorem d_M_init_4 : decode b_M_init 4 = .ok (.aload_n 0, 1) := by decide +kernel
theorem d_M_init_5 : decode b_M_init 5 = .ok (.bipush 80, 2) := by decide +kernel
theorem d_M_init_7 : decode b_M_init 7 = .ok (.newarray .int, 2) := by decide +kernel
theorem d_M_init_9 : decode b_M_init 9 = .ok (.putfield 11, 3) := by decide +kernel
theorem d_M_init_12 : decode b_M_init 12 = .ok (.aload_n 0, 1) := by decide +kernel
theorem d_M_init_13 : decode b_M_init 13 = .ok (.bipush 80, 2) := by decide +kernel
theorem d_M_init_15 : decode b_M_init 15 = .ok (.newarray .int, 2) := by decide +kernel
theorem d_M_init_17 : decode b_M_init 17 = .ok (.putfield 15, 3) := by decide +kernel
theorem d_M_init_20 : decode b_M_init 20 = .ok (.aload_n 0, 1) := by decide +kernel
theorem d_M_init_21 : decode b_M_init 21 = .ok (.bipush 80, 2) := by decide +kernel
theorem d_M_init_23 : decode b_M_init 23 = .ok (.newarray .int, 2) := by decide +kernel
theorem d_M_init_25 : decode b_M_init 25 = .ok (.putfield 18, 3) := by decide +kernel
theorem d_M_init_28 : decode b_M_init 28 = .ok (.aload_n 0, 1) := by decide +kernel
theorem d_M_init_29 : decode b_M_init 29 = .ok (.bipush 80, 2) := by decide +kernel
theorem d_M_init_31 : decode b_M_init 31 = .ok (.newarray .long, 2) := by decide +kernel
theorem d_M_init_33 : decode b_M_init 33 = .ok (.putfield 21, 3) := by decide +kernel
theorem d_M_init_36 : decode b_M_init 36 = .ok (.aload_n 0, 1) := by decide +kernel
theorem d_M_init_37 : decode b_M_init 37 = .ok (.bipush 80, 2) := by decide +kernel
theorem d_M_init_39 : decode b_M_init 39 = .ok (.newarray .boolean, 2) := by decide +kernel
theorem d_M_init_41 : decode b_M_init 41 = .ok (.putfield 25, 3) := by decide +kernel
theorem d_M_init_44 : decode b_M_init 44 = .ok (.aload_n 0, 1) := by decide +kernel
theorem d_M_init_45 : decode b_M_init 45 = .ok (.iconst 0, 1) := by decide +kernel
theorem d_M_init_46 : decode b_M_init 46 = .ok (.putfield 29, 3) := by decide +kernel
theorem d_M_init_49 : decode b_M_init 49 = .ok (.return_, 1) := by decide +kernel
abbrev rm_M_init : Room := { frames := 1, cells := 5, slots := 400, locals := 20 }
set_option maxRecDepth 100000 in
set_option maxHeartbeats 4000000 in
theorem k_M_init (l : Launch) (z : zE) (Rr : va_W) (h0 : Nat) : zCe z l y_M_init w_M_init rm_M_init [.ref h0] ([(h0, .inr (2, [.null, .null, .null, .null, .null, .int 0]))] ++ Rr) none (fun w' => ∃ A : Nat → Nat, A 0 = h0 ∧ w' = mw z A zM0 ++ Rr) 5 400 := by
  refine zz_ofE (by decide) (Nat.le_of_ble_eq_true rfl) ?_
  intro p e s m args below meth c A0 ls hM hO hin hr hlocks hA hP hD hl
  have hM : zM z p s m args c b_M_init 1 R_M := hM
  obtain ⟨hx, hb, hml, hown, hts, hK, hN⟩ := id hM
  have hS : va_S A0 s.heap s.heap [] := va_S.rf
  have hl : lv_has ls 1 [(0, .ref h0)] := hl
  refine lv_aload_n hx hb d_M_init_0 rfl (lv_at hl 0 rfl) ?_
  refine W.objInit hx hb hown (hts _ wq_65) (hts _ wq_22) (hts _ wq_23) rfl (by rw [hml]; exact hl.1) rfl d_M_init_1 (Nat.le_of_ble_eq_true rfl) (Nat.le_of_ble_eq_true rfl) ?_
  refine W.eq (g2 := F0 m 4 ls []) rfl ?_
  refine lv_aload_n hx hb d_M_init_4 rfl (lv_at hl 0 rfl) ?_
  refine lv_bipush (v := 80) hx hb d_M_init_5 (by decide) ?_
  refine zz_newa (L := [(h0, .inr (2, [.null, .null, .null, .null, .null, .int 0]))]) (Rr := Rr) hx hb 0 (atype := .int) (a0 := (80, .inl (fun _ => 0))) (N' := 80) (hts _ wq_59) rfl rfl (fun C h => by cases h) hK hP hD hS hA (fun _ => rfl) (by decide) (by decide) (by decide) (Nat.le_of_ble_eq_true rfl) (Nat.le_of_ble_eq_true rfl) d_M_init_7 (fun q7 H hP hD hS => ?_)
  have hP : va_P z.1 vwCl ([(h0, .inr (2, [.null, .null, .null, .null, .null, .int 0])), (q7, .inl (zI z, 80, .inl (fun _ => 0)))] ++ Rr) H := hP
  have hD : va_D A0 ([(h0, .inr (2, [.null, .null, .null, .null, .null, .int 0])), (q7, .inl (zI z, 80, .inl (fun _ => 0)))] ++ Rr) := hD
  refine va_putF (D := z.1) (ci := 2) (v := .ref q7) (ty := .array .int) (C := R_M) (T := F_M) (N := 6) hx hb hts i_M ty_M ty_M_ok n_M hown hK hP hD hS 0 rfl rfl 0 (by decide) (hts _ wq_66) (fun _ h9 => h9) rfl hin rfl (by decide +kernel) rfl rfl (Nat.le_of_ble_eq_true rfl) d_M_init_9 (fun H locs hP hD hS => ?_)
  have hP : va_P z.1 vwCl ([(h0, .inr (2, [.ref q7, .null, .null, .null, .null, .int 0])), (q7, .inl (zI z, 80, .inl (fun _ => 0)))] ++ Rr) H := hP
  have hD : va_D A0 ([(h0, .inr (2, [.ref q7, .null, .null, .null, .null, .int 0])), (q7, .inl (zI z, 80, .inl (fun _ => 0)))] ++ Rr) := hD
  refine lv_aload_n hx hb d_M_init_12 rfl (lv_at hl 0 rfl) ?_
  refine lv_bipush (v := 80) hx hb d_M_init_13 (by decide) ?_
  refine zz_newa (L := [(h0, .inr (2, [.ref q7, .null, .null, .null, .null, .int 0])), (q7, .inl (zI z, 80, .inl (fun _ => 0)))]) (Rr := Rr) hx hb 0 (atype := .int) (a0 := (80, .inl (fun _ => 0))) (N' := 80) (hts _ wq_59) rfl rfl (fun C h => by cases h) hK hP hD hS hA (fun _ => rfl) (by decide) (by decide) (by decide) (Nat.le_of_ble_eq_true rfl) (Nat.le_of_ble_eq_true rfl) d_M_init_15 (fun q15 H hP hD hS => ?_)
  have hP : va_P z.1 vwCl ([(h0, .inr (2, [.ref q7, .null, .null, .null, .null, .int 0])), (q7, .inl (zI z, 80, .inl (fun _ => 0))), (q15, .inl (zI z, 80, .inl (fun _ => 0)))] ++ Rr) H := hP
  have hD : va_D A0 ([(h0, .inr (2, [.ref q7, .null, .null, .null, .null, .int 0])), (q7, .inl (zI z, 80, .inl (fun _ => 0))), (q15, .inl (zI z, 80, .inl (fun _ => 0)))] ++ Rr) := hD
  refine va_putF (D := z.1) (ci := 2) (v := .ref q15) (ty := .array .int) (C := R_M) (T := F_M) (N := 6) hx hb hts i_M ty_M ty_M_ok n_M hown hK hP hD hS 0 rfl rfl 1 (by decide) (hts _ wq_67) (fun _ h9 => h9) rfl hin rfl (by decide +kernel) rfl rfl (Nat.le_of_ble_eq_true rfl) d_M_init_17 (fun H locs hP hD hS => ?_)
  have hP : va_P z.1 vwCl ([(h0, .inr (2, [.ref q7, .ref q15, .null, .null, .null, .int 0])), (q7, .inl (zI z, 80, .inl (fun _ => 0))), (q15, .inl (zI z, 80, .inl (fun _ => 0)))] ++ Rr) H := hP
  have hD : va_D A0 ([(h0, .inr (2, [.ref q7, .ref q15, .null, .null, .null, .int 0])), (q7, .inl (zI z, 80, .inl (fun _ => 0))), (q15, .inl (zI z, 80, .inl (fun _ => 0)))] ++ Rr) := hD
  refine lv_aload_n hx hb d_M_init_20 rfl (lv_at hl 0 rfl) ?_
  refine lv_bipush (v := 80) hx hb d_M_init_21 (by decide) ?_
  refine zz_newa (L := [(h0, .inr (2, [.ref q7, .ref q15, .null, .null, .null, .int 0])), (q7, .inl (zI z, 80, .inl (fun _ => 0))), (q15, .inl (zI z, 80, .inl (fun _ => 0)))]) (Rr := Rr) hx hb 0 (atype := .int) (a0 := (80, .inl (fun _ => 0))) (N' := 80) (hts _ wq_59) rfl rfl (fun C h => by cases h) hK hP hD hS hA (fun _ => rfl) (by decide) (by decide) (by decide) (Nat.le_of_ble_eq_true rfl) (Nat.le_of_ble_eq_true rfl) d_M_init_23 (fun q23 H hP hD hS => ?_)
  have hP : va_P z.1 vwCl ([(h0, .inr (2, [.ref q7, .ref q15, .null, .null, .null, .int 0])), (q7, .inl (zI z, 80, .inl (fun _ => 0))), (q15, .inl (zI z, 80, .inl (fun _ => 0))), (q23, .inl (zI z, 80, .inl (fun _ => 0)))] ++ Rr) H := hP
  have hD : va_D A0 ([(h0, .inr (2, [.ref q7, .ref q15, .null, .null, .null, .int 0])), (q7, .inl (zI z, 80, .inl (fun _ => 0))), (q15, .inl (zI z, 80, .inl (fun _ => 0))), (q23, .inl (zI z, 80, .inl (fun _ => 0)))] ++ Rr) := hD
  refine va_putF (D := z.1) (ci := 2) (v := .ref q23) (ty := .array .int) (C := R_M) (T := F_M) (N := 6) hx hb hts i_M ty_M ty_M_ok n_M hown hK hP hD hS 0 rfl rfl 2 (by decide) (hts _ wq_68) (fun _ h9 => h9) rfl hin rfl (by decide +kernel) rfl rfl (Nat.le_of_ble_eq_true rfl) d_M_init_25 (fun H locs hP hD hS => ?_)
  have hP : va_P z.1 vwCl ([(h0, .inr (2, [.ref q7, .ref q15, .ref q23, .null, .null, .int 0])), (q7, .inl (zI z, 80, .inl (fun _ => 0))), (q15, .inl (zI z, 80, .inl (fun _ => 0))), (q23, .inl (zI z, 80, .inl (fun _ => 0)))] ++ Rr) H := hP
  have hD : va_D A0 ([(h0, .inr (2, [.ref q7, .ref q15, .ref q23, .null, .null, .int 0])), (q7, .inl (zI z, 80, .inl (fun _ => 0))), (q15, .inl (zI z, 80, .inl (fun _ => 0))), (q23, .inl (zI z, 80, .inl (fun _ => 0)))] ++ Rr) := hD
  refine lv_aload_n hx hb d_M_init_28 rfl (lv_at hl 0 rfl) ?_
  refine lv_bipush (v := 80) hx hb d_M_init_29 (by decide) ?_
  refine zz_newa (L := [(h0, .inr (2, [.ref q7, .ref q15, .ref q23, .null, .null, .int 0])), (q7, .inl (zI z, 80, .inl (fun _ => 0))), (q15, .inl (zI z, 80, .inl (fun _ => 0))), (q23, .inl (zI z, 80, .inl (fun _ => 0)))]) (Rr := Rr) hx hb 2 (atype := .long) (a0 := (80, .inr (.inl (fun _ => 0)))) (N' := 80) (hts _ wq_89) rfl rfl (fun C h => by cases h) hK hP hD hS hA (fun _ => rfl) (by decide) (by decide) (by decide) (Nat.le_of_ble_eq_true rfl) (Nat.le_of_ble_eq_true rfl) d_M_init_31 (fun q31 H hP hD hS => ?_)
  have hP : va_P z.1 vwCl ([(h0, .inr (2, [.ref q7, .ref q15, .ref q23, .null, .null, .int 0])), (q7, .inl (zI z, 80, .inl (fun _ => 0))), (q15, .inl (zI z, 80, .inl (fun _ => 0))), (q23, .inl (zI z, 80, .inl (fun _ => 0))), (q31, .inl (zL z, 80, .inr (.inl (fun _ => 0))))] ++ Rr) H := hP
  have hD : va_D A0 ([(h0, .inr (2, [.ref q7, .ref q15, .ref q23, .null, .null, .int 0])), (q7, .inl (zI z, 80, .inl (fun _ => 0))), (q15, .inl (zI z, 80, .inl (fun _ => 0))), (q23, .inl (zI z, 80, .inl (fun _ => 0))), (q31, .inl (zL z, 80, .inr (.inl (fun _ => 0))))] ++ Rr) := hD
  refine va_putF (D := z.1) (ci := 2) (v := .ref q31) (ty := .array .long) (C := R_M) (T := F_M) (N := 6) hx hb hts i_M ty_M ty_M_ok n_M hown hK hP hD hS 0 rfl rfl 3 (by decide) (hts _ wq_70) (fun _ h9 => h9) rfl hin rfl (by decide +kernel) rfl rfl (Nat.le_of_ble_eq_true rfl) d_M_init_33 (fun H locs hP hD hS => ?_)
  have hP : va_P z.1 vwCl ([(h0, .inr (2, [.ref q7, .ref q15, .ref q23, .ref q31, .null, .int 0])), (q7, .inl (zI z, 80, .inl (fun _ => 0))), (q15, .inl (zI z, 80, .inl (fun _ => 0))), (q23, .inl (zI z, 80, .inl (fun _ => 0))), (q31, .inl (zL z, 80, .inr (.inl (fun _ => 0))))] ++ Rr) H := hP
  have hD : va_D A0 ([(h0, .inr (2, [.ref q7, .ref q15, .ref q23, .ref q31, .null, .int 0])), (q7, .inl (zI z, 80, .inl (fun _ => 0))), (q15, .inl (zI z, 80, .inl (fun _ => 0))), (q23, .inl (zI z, 80, .inl (fun _ => 0))), (q31, .inl (zL z, 80, .inr (.inl (fun _ => 0))))] ++ Rr) := hD
  refine lv_aload_n hx hb d_M_init_36 rfl (lv_at hl 0 rfl) ?_
  refine lv_bipush (v := 80) hx hb d_M_init_37 (by decide) ?_
  refine zz_newa (L := [(h0, .inr (2, [.ref q7, .ref q15, .ref q23, .ref q31, .null, .int 0])), (q7, .inl (zI z, 80, .inl (fun _ => 0))), (q15, .inl (zI z, 80, .inl (fun _ => 0))), (q23, .inl (zI z, 80, .inl (fun _ => 0))), (q31, .inl (zL z, 80, .inr (.inl (fun _ => 0))))]) (Rr := Rr) hx hb 1 (atype := .boolean) (a0 := (80, .inl (fun _ => 0))) (N' := 80) (hts _ wq_58) rfl rfl (fun C h => by cases h) hK hP hD hS hA (fun _ => rfl) (by decide) (by decide) (by decide) (Nat.le_of_ble_eq_true rfl) (Nat.le_of_ble_eq_true rfl) d_M_init_39 (fun q39 H hP hD hS => ?_)
  have hP : va_P z.1 vwCl ([(h0, .inr (2, [.ref q7, .ref q15, .ref q23, .ref q31, .null, .int 0])), (q7, .inl (zI z, 80, .inl (fun _ => 0))), (q15, .inl (zI z, 80, .inl (fun _ => 0))), (q23, .inl (zI z, 80, .inl (fun _ => 0))), (q31, .inl (zL z, 80, .inr (.inl (fun _ => 0)))), (q39, .inl (zZ z, 80, .inl (fun _ => 0)))] ++ Rr) H := hP
  have hD : va_D A0 ([(h0, .inr (2, [.ref q7, .ref q15, .ref q23, .ref q31, .null, .int 0])), (q7, .inl (zI z, 80, .inl (fun _ => 0))), (q15, .inl (zI z, 80, .inl (fun _ => 0))), (q23, .inl (zI z, 80, .inl (fun _ => 0))), (q31, .inl (zL z, 80, .inr (.inl (fun _ => 0)))), (q39, .inl (zZ z, 80, .inl (fun _ => 0)))] ++ Rr) := hD
  refine va_putF (D := z.1) (ci := 2) (v := .ref q39) (ty := .array .boolean) (C := R_M) (T := F_M) (N := 6) hx hb hts i_M ty_M ty_M_ok n_M hown hK hP hD hS 0 rfl rfl 4 (by decide) (hts _ wq_71) (fun _ h9 => h9) rfl hin rfl (by decide +kernel) rfl rfl (Nat.le_of_ble_eq_true rfl) d_M_init_41 (fun H locs hP hD hS => ?_)
  have hP : va_P z.1 vwCl ([(h0, .inr (2, [.ref q7, .ref q15, .ref q23, .ref q31, .ref q39, .int 0])), (q7, .inl (zI z, 80, .inl (fun _ => 0))), (q15, .inl (zI z, 80, .inl (fun _ => 0))), (q23, .inl (zI z, 80, .inl (fun _ => 0))), (q31, .inl (zL z, 80, .inr (.inl (fun _ => 0)))), (q39, .inl (zZ z, 80, .inl (fun _ => 0)))] ++ Rr) H := hP
  have hD : va_D A0 ([(h0, .inr (2, [.ref q7, .ref q15, .ref q23, .ref q31, .ref q39, .int 0])), (q7, .inl (zI z, 80, .inl (fun _ => 0))), (q15, .inl (zI z, 80, .inl (fun _ => 0))), (q23, .inl (zI z, 80, .inl (fun _ => 0))), (q31, .inl (zL z, 80, .inr (.inl (fun _ => 0)))), (q39, .inl (zZ z, 80, .inl (fun _ => 0)))] ++ Rr) := hD
  refine lv_aload_n hx hb d_M_init_44 rfl (lv_at hl 0 rfl) ?_
  refine lv_iconst (v := 0) hx hb d_M_init_45 (by decide) ?_
  refine va_put (D := z.1) (ci := 2) (v := .int 0) (ty := .int) (C := R_M) (T := F_M) (N := 6) hx hb hts i_M ty_M ty_M_ok n_M hown hK hP hD hS 0 rfl rfl 5 (by decide) (hts _ wq_73) (fun _ h9 => h9) rfl (by decide +kernel) rfl rfl (Nat.le_of_ble_eq_true rfl) d_M_init_46 (fun H locs hP hD hS => ?_)
  have hP : va_P z.1 vwCl ([(h0, .inr (2, [.ref q7, .ref q15, .ref q23, .ref q31, .ref q39, .int 0])), (q7, .inl (zI z, 80, .inl (fun _ => 0))), (q15, .inl (zI z, 80, .inl (fun _ => 0))), (q23, .inl (zI z, 80, .inl (fun _ => 0))), (q31, .inl (zL z, 80, .inr (.inl (fun _ => 0)))), (q39, .inl (zZ z, 80, .inl (fun _ => 0)))] ++ Rr) H := hP
  have hD : va_D A0 ([(h0, .inr (2, [.ref q7, .ref q15, .ref q23, .ref q31, .ref q39, .int 0])), (q7, .inl (zI z, 80, .inl (fun _ => 0))), (q15, .inl (zI z, 80, .inl (fun _ => 0))), (q23, .inl (zI z, 80, .inl (fun _ => 0))), (q31, .inl (zL z, 80, .inr (.inl (fun _ => 0)))), (q39, .inl (zZ z, 80, .inl (fun _ => 0)))] ++ Rr) := hD
  exact zz_vretE hx hb hr hlocks ⟨zad [h0, q7, q15, q23, q31, q39], rfl, rfl⟩ hP hD hS (Nat.le_of_ble_eq_true rfl) (Nat.le_of_ble_eq_true rfl) d_M_init_49

abbrev b_K_init : ByteArray := prog_3_method_1_code
abbrev y_K_init : MethodName := ⟨"MemberChooser$KeptCalls", "<init>", "()V"⟩
abbrev w_K_init : List Cond := Cond.code y_K_init b_K_init 1 none :: zTb
theorem d_K_init_0 : decode b_K_init 0 = .ok (.aload_n 0, 1) := by decide +kernel
theorem d_K_init_1 : decode b_K_init 1 = .ok (.invokespecial 3, 3) := by decide +kernel
theorem d_K_init_4 : decode b_K_init 4 = .ok (.aload_n 0, 1) := by decide +kernel
theorem d_K_init_5 : decode b_K_init 5 = .ok (.bipush 100, 2) := by decide +kernel
theorem d_K_init_7 : decode b_K_init 7 = .ok (.newarray .int, 2) := by decide +kernel
theorem d_K_init_9 : decode b_K_init 9 = .ok (.putfield 11, 3) := by decide +kernel
theorem d_K_init_12 : decode b_K_init 12 = .ok (.aload_n 0, 1) := by decide +kernel
theorem d_K_init_13 : decode b_K_init 13 = .ok (.bipush 100, 2) := by decide +kernel
theorem d_K_init_15 : decode b_K_init 15 = .ok (.newarray .int, 2) := by decide +kernel
theorem d_K_init_17 : decode b_K_init 17 = .ok (.putfield 15, 3) := by decide +kernel
theorem d_K_init_20 : decode b_K_init 20 = .ok (.aload_n 0, 1) := by decide +kernel
theorem d_K_init_21 : decode b_K_init 21 = .ok (.bipush 100, 2) := by decide +kernel
theorem d_K_init_23 : decode b_K_init 23 = .ok (.newarray .int, 2) := by decide +kernel
theorem d_K_init_25 : decode b_K_init 25 = .ok (.putfield 18, 3) := by decide +kernel
theorem d_K_init_28 : decode b_K_init 28 = .ok (.aload_n 0, 1) := by decide +kernel
theorem d_K_init_29 : decode b_K_init 29 = .ok (.bipush 100, 2) := by decide +kernel
theorem d_K_init_31 : decode b_K_init 31 = .ok (.newarray .long, 2) := by decide +kernel
theorem d_K_init_33 : decode b_K_init 33 = .ok (.putfield 21, 3) := by decide +kernel
theorem d_K_init_36 : decode b_K_init 36 = .ok (.aload_n 0, 1) := by decide +kernel
theorem d_K_init_37 : decode b_K_init 37 = .ok (.bipush 100, 2) := by decide +kernel
theorem d_K_init_39 : decode b_K_init 39 = .ok (.newarray .int, 2) := by decide +kernel
theorem d_K_init_41 : decode b_K_init 41 = .ok (.putfield 25, 3) := by decide +kernel
theorem d_K_init_44 : decode b_K_init 44 = .ok (.aload_n 0, 1) := by decide +kernel
theorem d_K_init_45 : decode b_K_init 45 = .ok (.iconst 0, 1) := by decide +kernel
theorem d_K_init_46 : decode b_K_init 46 = .ok (.putfield 28, 3) := by decide +kernel
theorem d_K_init_49 : decode b_K_init 49 = .ok (.return_, 1) := by decide +kernel
abbrev rm_K_init : Room := { frames := 1, cells := 5, slots := 500, locals := 20 }
set_option maxRecDepth 100000 in
set_option maxHeartbeats 4000000 in
theorem k_K_init (l : Launch) (z : zE) (Rr : va_W) (h0 : Nat) : zCe z l y_K_init w_K_init rm_K_init [.ref h0] ([(h0, .inr (4, [.null, .null, .null, .null, .null, .int 0]))] ++ Rr) none (fun w' => ∃ A : Nat → Nat, A 0 = h0 ∧ w' = kw z A zK0 ++ Rr) 5 500 := by
  refine zz_ofE (by decide) (Nat.le_of_ble_eq_true rfl) ?_
  intro p e s m args below meth c A0 ls hM hO hin hr hlocks hA hP hD hl
  have hM : zM z p s m args c b_K_init 1 R_K := hM
  obtain ⟨hx, hb, hml, hown, hts, hK, hN⟩ := id hM
  have hS : va_S A0 s.heap s.heap [] := va_S.rf
  have hl : lv_has ls 1 [(0, .ref h0)] := hl
  refine lv_aload_n hx hb d_K_init_0 rfl (lv_at hl 0 rfl) ?_
  refine W.objInit hx hb hown (hts _ wq_127) (hts _ wq_22) (hts _ wq_23) rfl (by rw [hml]; exact hl.1) rfl d_K_init_1 (Nat.le_of_ble_eq_true rfl) (Nat.le_of_ble_eq_true rfl) ?_
  refine W.eq (g2 := F0 m 4 ls []) rfl ?_
  refine lv_aload_n hx hb d_K_init_4 rfl (lv_at hl 0 rfl) ?_
  refine lv_bipush (v := 100) hx hb d_K_init_5 (by decide) ?_
  refine zz_newa (L := [(h0, .inr (4, [.null, .null, .null, .null, .null, .int 0]))]) (Rr := Rr) hx hb 0 (atype := .int) (a0 := (100, .inl (fun _ => 0))) (N' := 100) (hts _ wq_59) rfl rfl (fun C h => by cases h) hK hP hD hS hA (fun _ => rfl) (by decide) (by decide) (by decide) (Nat.le_of_ble_eq_true rfl) (Nat.le_of_ble_eq_true rfl) d_K_init_7 (fun q7 H hP hD hS => ?_)
  have hP : va_P z.1 vwCl ([(h0, .inr (4, [.null, .null, .null, .null, .null, .int 0])), (q7, .inl (zI z, 100, .inl (fun _ => 0)))] ++ Rr) H := hP
  have hD : va_D A0 ([(h0, .inr (4, [.null, .null, .null, .null, .null, .int 0])), (q7, .inl (zI z, 100, .inl (fun _ => 0)))] ++ Rr) := hD
  refine va_putF (D := z.1) (ci := 4) (v := .ref q7) (ty := .array .int) (C := R_K) (T := F_K) (N := 6) hx hb hts i_K ty_K ty_K_ok n_K hown hK hP hD hS 0 rfl rfl 0 (by decide) (hts _ wq_128) (fun _ h9 => h9) rfl hin rfl (by decide +kernel) rfl rfl (Nat.le_of_ble_eq_true rfl) d_K_init_9 (fun H locs hP hD hS => ?_)
  have hP : va_P z.1 vwCl ([(h0, .inr (4, [.ref q7, .null, .null, .null, .null, .int 0])), (q7, .inl (zI z, 100, .inl (fun _ => 0)))] ++ Rr) H := hP
  have hD : va_D A0 ([(h0, .inr (4, [.ref q7, .null, .null, .null, .null, .int 0])), (q7, .inl (zI z, 100, .inl (fun _ => 0)))] ++ Rr) := hD
  refine lv_aload_n hx hb d_K_init_12 rfl (lv_at hl 0 rfl) ?_
  refine lv_bipush (v := 100) hx hb d_K_init_13 (by decide) ?_
  refine zz_newa (L := [(h0, .inr (4, [.ref q7, .null, .null, .null, .null, .int 0])), (q7, .inl (zI z, 100, .inl (fun _ => 0)))]) (Rr := Rr) hx hb 0 (atype := .int) (a0 := (100, .inl (fun _ => 0))) (N' := 100) (hts _ wq_59) rfl rfl (fun C h => by cases h) hK hP hD hS hA (fun _ => rfl) (by decide) (by decide) (by decide) (Nat.le_of_ble_eq_true rfl) (Nat.le_of_ble_eq_true rfl) d_K_init_15 (fun q15 H hP hD hS => ?_)
  have hP : va_P z.1 vwCl ([(h0, .inr (4, [.ref q7, .null, .null, .null, .null, .int 0])), (q7, .inl (zI z, 100, .inl (fun _ => 0))), (q15, .inl (zI z, 100, .inl (fun _ => 0)))] ++ Rr) H := hP
  have hD : va_D A0 ([(h0, .inr (4, [.ref q7, .null, .null, .null, .null, .int 0])), (q7, .inl (zI z, 100, .inl (fun _ => 0))), (q15, .inl (zI z, 100, .inl (fun _ => 0)))] ++ Rr) := hD
  refine va_putF (D := z.1) (ci := 4) (v := .ref q15) (ty := .array .int) (C := R_K) (T := F_K) (N := 6) hx hb hts i_K ty_K ty_K_ok n_K hown hK hP hD hS 0 rfl rfl 1 (by decide) (hts _ wq_129) (fun _ h9 => h9) rfl hin rfl (by decide +kernel) rfl rfl (Nat.le_of_ble_eq_true rfl) d_K_init_17 (fun H locs hP hD hS => ?_)
  have hP : va_P z.1 vwCl ([(h0, .inr (4, [.ref q7, .ref q15, .null, .null, .null, .int 0])), (q7, .inl (zI z, 100, .inl (fun _ => 0))), (q15, .inl (zI z, 100, .inl (fun _ => 0)))] ++ Rr) H := hP
  have hD : va_D A0 ([(h0, .inr (4, [.ref q7, .ref q15, .null, .null, .null, .int 0])), (q7, .inl (zI z, 100, .inl (fun _ => 0))), (q15, .inl (zI z, 100, .inl (fun _ => 0)))] ++ Rr) := hD
  refine lv_aload_n hx hb d_K_init_20 rfl (lv_at hl 0 rfl) ?_
  refine lv_bipush (v := 100) hx hb d_K_init_21 (by decide) ?_
  refine zz_newa (L := [(h0, .inr (4, [.ref q7, .ref q15, .null, .null, .null, .int 0])), (q7, .inl (zI z, 100, .inl (fun _ => 0))), (q15, .inl (zI z, 100, .inl (fun _ => 0)))]) (Rr := Rr) hx hb 0 (atype := .int) (a0 := (100, .inl (fun _ => 0))) (N' := 100) (hts _ wq_59) rfl rfl (fun C h => by cases h) hK hP hD hS hA (fun _ => rfl) (by decide) (by decide) (by decide) (Nat.le_of_ble_eq_true rfl) (Nat.le_of_ble_eq_true rfl) d_K_init_23 (fun q23 H hP hD hS => ?_)
  have hP : va_P z.1 vwCl ([(h0, .inr (4, [.ref q7, .ref q15, .null, .null, .null, .int 0])), (q7, .inl (zI z, 100, .inl (fun _ => 0))), (q15, .inl (zI z, 100, .inl (fun _ => 0))), (q23, .inl (zI z, 100, .inl (fun _ => 0)))] ++ Rr) H := hP
  have hD : va_D A0 ([(h0, .inr (4, [.ref q7, .ref q15, .null, .null, .null, .int 0])), (q7, .inl (zI z, 100, .inl (fun _ => 0))), (q15, .inl (zI z, 100, .inl (fun _ => 0))), (q23, .inl (zI z, 100, .inl (fun _ => 0)))] ++ Rr) := hD
  refine va_putF (D := z.1) (ci := 4) (v := .ref q23) (ty := .array .int) (C := R_K) (T := F_K) (N := 6) hx hb hts i_K ty_K ty_K_ok n_K hown hK hP hD hS 0 rfl rfl 2 (by decide) (hts _ wq_130) (fun _ h9 => h9) rfl hin rfl (by decide +kernel) rfl rfl (Nat.le_of_ble_eq_true rfl) d_K_init_25 (fun H locs hP hD hS => ?_)
  have hP : va_P z.1 vwCl ([(h0, .inr (4, [.ref q7, .ref q15, .ref q23, .null, .null, .int 0])), (q7, .inl (zI z, 100, .inl (fun _ => 0))), (q15, .inl (zI z, 100, .inl (fun _ => 0))), (q23, .inl (zI z, 100, .inl (fun _ => 0)))] ++ Rr) H := hP
  have hD : va_D A0 ([(h0, .inr (4, [.ref q7, .ref q15, .ref q23, .null, .null, .int 0])), (q7, .inl (zI z, 100, .inl (fun _ => 0))), (q15, .inl (zI z, 100, .inl (fun _ => 0))), (q23, .inl (zI z, 100, .inl (fun _ => 0)))] ++ Rr) := hD
  refine lv_aload_n hx hb d_K_init_28 rfl (lv_at hl 0 rfl) ?_
  refine lv_bipush (v := 100) hx hb d_K_init_29 (by decide) ?_
  refine zz_newa (L := [(h0, .inr (4, [.ref q7, .ref q15, .ref q23, .null, .null, .int 0])), (q7, .inl (zI z, 100, .inl (fun _ => 0))), (q15, .inl (zI z, 100, .inl (fun _ => 0))), (q23, .inl (zI z, 100, .inl (fun _ => 0)))]) (Rr := Rr) hx hb 2 (atype := .long) (a0 := (100, .inr (.inl (fun _ => 0)))) (N' := 100) (hts _ wq_89) rfl rfl (fun C h => by cases h) hK hP hD hS hA (fun _ => rfl) (by decide) (by decide) (by decide) (Nat.le_of_ble_eq_true rfl) (Nat.le_of_ble_eq_true rfl) d_K_init_31 (fun q31 H hP hD hS => ?_)
  have hP : va_P z.1 vwCl ([(h0, .inr (4, [.ref q7, .ref q15, .ref q23, .null, .null, .int 0])), (q7, .inl (zI z, 100, .inl (fun _ => 0))), (q15, .inl (zI z, 100, .inl (fun _ => 0))), (q23, .inl (zI z, 100, .inl (fun _ => 0))), (q31, .inl (zL z, 100, .inr (.inl (fun _ => 0))))] ++ Rr) H := hP
  have hD : va_D A0 ([(h0, .inr (4, [.ref q7, .ref q15, .ref q23, .null, .null, .int 0])), (q7, .inl (zI z, 100, .inl (fun _ => 0))), (q15, .inl (zI z, 100, .inl (fun _ => 0))), (q23, .inl (zI z, 100, .inl (fun _ => 0))), (q31, .inl (zL z, 100, .inr (.inl (fun _ => 0))))] ++ Rr) := hD
  refine va_putF (D := z.1) (ci := 4) (v := .ref q31) (ty := .array .long) (C := R_K) (T := F_K) (N := 6) hx hb hts i_K ty_K ty_K_ok n_K hown hK hP hD hS 0 rfl rfl 3 (by decide) (hts _ wq_131) (fun _ h9 => h9) rfl hin rfl (by decide +kernel) rfl rfl (Nat.le_of_ble_eq_true rfl) d_K_init_33 (fun H locs hP hD hS => ?_)
  have hP : va_P z.1 vwCl ([(h0, .inr (4, [.ref q7, .ref q15, .ref q23, .ref q31, .null, .int 0])), (q7, .inl (zI z, 100, .inl (fun _ => 0))), (q15, .inl (zI z, 100, .inl (fun _ => 0))), (q23, .inl (zI z, 100, .inl (fun _ => 0))), (q31, .inl (zL z, 100, .inr (.inl (fun _ => 0))))] ++ Rr) H := hP
  have hD : va_D A0 ([(h0, .inr (4, [.ref q7, .ref q15, .ref q23, .ref q31, .null, .int 0])), (q7, .inl (zI z, 100, .inl (fun _ => 0))), (q15, .inl (zI z, 100, .inl (fun _ => 0))), (q23, .inl (zI z, 100, .inl (fun _ => 0))), (q31, .inl (zL z, 100, .inr (.inl (fun _ => 0))))] ++ Rr) := hD
  refine lv_aload_n hx hb d_K_init_36 rfl (lv_at hl 0 rfl) ?_
  refine lv_bipush (v := 100) hx hb d_K_init_37 (by decide) ?_
  refine zz_newa (L := [(h0, .inr (4, [.ref q7, .ref q15, .ref q23, .ref q31, .null, .int 0])), (q7, .inl (zI z, 100, .inl (fun _ => 0))), (q15, .inl (zI z, 100, .inl (fun _ => 0))), (q23, .inl (zI z, 100, .inl (fun _ => 0))), (q31, .inl (zL z, 100, .inr (.inl (fun _ => 0))))]) (Rr := Rr) hx hb 0 (atype := .int) (a0 := (100, .inl (fun _ => 0))) (N' := 100) (hts _ wq_59) rfl rfl (fun C h => by cases h) hK hP hD hS hA (fun _ => rfl) (by decide) (by decide) (by decide) (Nat.le_of_ble_eq_true rfl) (Nat.le_of_ble_eq_true rfl) d_K_init_39 (fun q39 H hP hD hS => ?_)
  have hP : va_P z.1 vwCl ([(h0, .inr (4, [.ref q7, .ref q15, .ref q23, .ref q31, .null, .int 0])), (q7, .inl (zI z, 100, .inl (fun _ => 0))), (q15, .inl (zI z, 100, .inl (fun _ => 0))), (q23, .inl (zI z, 100, .inl (fun _ => 0))), (q31, .inl (zL z, 100, .inr (.inl (fun _ => 0)))), (q39, .inl (zI z, 100, .inl (fun _ => 0)))] ++ Rr) H := hP
  have hD : va_D A0 ([(h0, .inr (4, [.ref q7, .ref q15, .ref q23, .ref q31, .null, .int 0])), (q7, .inl (zI z, 100, .inl (fun _ => 0))), (q15, .inl (zI z, 100, .inl (fun _ => 0))), (q23, .inl (zI z, 100, .inl (fun _ => 0))), (q31, .inl (zL z, 100, .inr (.inl (fun _ => 0)))), (q39, .inl (zI z, 100, .inl (fun _ => 0)))] ++ Rr) := hD
  refine va_putF (D := z.1) (ci := 4) (v := .ref q39) (ty := .array .int) (C := R_K) (T := F_K) (N := 6) hx hb hts i_K ty_K ty_K_ok n_K hown hK hP hD hS 0 rfl rfl 4 (by decide) (hts _ wq_132) (fun _ h9 => h9) rfl hin rfl (by decide +kernel) rfl rfl (Nat.le_of_ble_eq_true rfl) d_K_init_41 (fun H locs hP hD hS => ?_)
  have hP : va_P z.1 vwCl ([(h0, .inr (4, [.ref q7, .ref q15, .ref q23, .ref q31, .ref q39, .int 0])), (q7, .inl (zI z, 100, .inl (fun _ => 0))), (q15, .inl (zI z, 100, .inl (fun _ => 0))), (q23, .inl (zI z, 100, .inl (fun _ => 0))), (q31, .inl (zL z, 100, .inr (.inl (fun _ => 0)))), (q39, .inl (zI z, 100, .inl (fun _ => 0)))] ++ Rr) H := hP
  have hD : va_D A0 ([(h0, .inr (4, [.ref q7, .ref q15, .ref q23, .ref q31, .ref q39, .int 0])), (q7, .inl (zI z, 100, .inl (fun _ => 0))), (q15, .inl (zI z, 100, .inl (fun _ => 0))), (q23, .inl (zI z, 100, .inl (fun _ => 0))), (q31, .inl (zL z, 100, .inr (.inl (fun _ => 0)))), (q39, .inl (zI z, 100, .inl (fun _ => 0)))] ++ Rr) := hD
  refine lv_aload_n hx hb d_K_init_44 rfl (lv_at hl 0 rfl) ?_
  refine lv_iconst (v := 0) hx hb d_K_init_45 (by decide) ?_
  refine va_put (D := z.1) (ci := 4) (v := .int 0) (ty := .int) (C := R_K) (T := F_K) (N := 6) hx hb hts i_K ty_K ty_K_ok n_K hown hK hP hD hS 0 rfl rfl 5 (by decide) (hts _ wq_134) (fun _ h9 => h9) rfl (by decide +kernel) rfl rfl (Nat.le_of_ble_eq_true rfl) d_K_init_46 (fun H locs hP hD hS => ?_)
  have hP : va_P z.1 vwCl ([(h0, .inr (4, [.ref q7, .ref q15, .ref q23, .ref q31, .ref q39, .int 0])), (q7, .inl (zI z, 100, .inl (fun _ => 0))), (q15, .inl (zI z, 100, .inl (fun _ => 0))), (q23, .inl (zI z, 100, .inl (fun _ => 0))), (q31, .inl (zL z, 100, .inr (.inl (fun _ => 0)))), (q39, .inl (zI z, 100, .inl (fun _ => 0)))] ++ Rr) H := hP
  have hD : va_D A0 ([(h0, .inr (4, [.ref q7, .ref q15, .ref q23, .ref q31, .ref q39, .int 0])), (q7, .inl (zI z, 100, .inl (fun _ => 0))), (q15, .inl (zI z, 100, .inl (fun _ => 0))), (q23, .inl (zI z, 100, .inl (fun _ => 0))), (q31, .inl (zL z, 100, .inr (.inl (fun _ => 0)))), (q39, .inl (zI z, 100, .inl (fun _ => 0)))] ++ Rr) := hD
  exact zz_vretE hx hb hr hlocks ⟨zad [h0, q7, q15, q23, q31, q39], rfl, rfl⟩ hP hD hS (Nat.le_of_ble_eq_true rfl) (Nat.le_of_ble_eq_true rfl) d_K_init_49

abbrev b_H_init : ByteArray := prog_2_method_1_code
abbrev y_H_init : MethodName := ⟨"MemberChooser$Chooser", "<init>", "(LMemberChooser$Types;LMemberChooser$Members;)V"⟩
abbrev w_H_init : List Cond := Cond.code y_H_init b_H_init 3 none :: zTb
theorem d_H_init_0 : decode b_H_init 0 = .ok (.aload_n 0, 1) := by decide +kernel
theorem d_H_init_1 : decode b_H_init 1 = .ok (.invokespecial 3, 3) := by decide +kernel
theorem d_H_init_4 : decode b_H_init 4 = .ok (.aload_n 0, 1) := by decide +kernel
theorem d_H_init_5 : decode b_H_init 5 = .ok (.aload_n 1, 1) := by decide +kernel
theorem d_H_init_6 : decode b_H_init 6 = .ok (.putfield 9, 3) := by decide +kernel
theorem d_H_init_9 : decode b_H_init 9 = .ok (.aload_n 0, 1) := by decide +kernel
theorem d_H_init_10 : decode b_H_init 10 = .ok (.aload_n 2, 1) := by decide +kernel
theorem d_H_init_11 : decode b_H_init 11 = .ok (.putfield 15, 3) := by decide +kernel
theorem d_H_init_14 : decode b_H_init 14 = .ok (.aload_n 0, 1) := by decide +kernel
theorem d_H_init_15 : decode b_H_init 15 = .ok (.bipush 24, 2) := by decide +kernel
theorem d_H_init_17 : decode b_H_init 17 = .ok (.newarray .int, 2) := by decide +kernel
theorem d_H_init_19 : decode b_H_init 19 = .ok (.putfield 21, 3) := by decide +kernel
theorem d_H_init_22 : decode b_H_init 22 = .ok (.aload_n 0, 1) := by decide +kernel
theorem d_H_init_23 : decode b_H_init 23 = .ok (.bipush 80, 2) := by decide +kernel
theorem d_H_init_25 : decode b_H_init 25 = .ok (.newarray .int, 2) := by decide +kernel
theorem d_H_init_27 : decode b_H_init 27 = .ok (.putfield 27, 3) := by decide +kernel
theorem d_H_init_30 : decode b_H_init 30 = .ok (.aload_n 0, 1) := by decide +kernel
theorem d_H_init_31 : decode b_H_init 31 = .ok (.bipush 80, 2) := by decide +kernel
theorem d_H_init_33 : decode b_H_init 33 = .ok (.newarray .int, 2) := by decide +kernel
theorem d_H_init_35 : decode b_H_init 35 = .ok (.putfield 30, 3) := by decide +kernel
theorem d_H_init_38 : decode b_H_init 38 = .ok (.aload_n 0, 1) := by decide +kernel
theorem d_H_init_39 : decode b_H_init 39 = .ok (.iconst 0, 1) := by decide +kernel
theorem d_H_init_40 : decode b_H_init 40 = .ok (.putfield 33, 3) := by decide +kernel
theorem d_H_init_43 : decode b_H_init 43 = .ok (.aload_n 0, 1) := by decide +kernel
theorem d_H_init_44 : decode b_H_init 44 = .ok (.iconst 0, 1) := by decide +kernel
theorem d_H_init_45 : decode b_H_init 45 = .ok (.putfield 37, 3) := by decide +kernel
theorem d_H_init_48 : decode b_H_init 48 = .ok (.aload_n 0, 1) := by decide +kernel
theorem d_H_init_49 : decode b_H_init 49 = .ok (.iconst 0, 1) := by decide +kernel
theorem d_H_init_50 : decode b_H_init 50 = .ok (.putfield 40, 3) := by decide +kernel
theorem d_H_init_53 : decode b_H_init 53 = .ok (.return_, 1) := by decide +kernel
abbrev rm_H_init : Room := { frames := 1, cells := 3, slots := 184, locals := 20 }
set_option maxRecDepth 100000 in
set_option maxHeartbeats 4000000 in
theorem k_H_init (l : Launch) (z : zE) (Rr : va_W) (h0 : Nat) (aT aM : Nat) : zCe z l y_H_init w_H_init rm_H_init [.ref h0, .ref aT, .ref aM] ([(h0, .inr (3, [.null, .null, .null, .null, .null, .int 0, .int 0, .int 0]))] ++ Rr) none (fun w' => ∃ A : Nat → Nat, A 0 = h0 ∧ w' = hw z A aT aM zH0 ++ Rr) 3 184 := by
  refine zz_ofE (by decide) (Nat.le_of_ble_eq_true rfl) ?_
  intro p e s m args below meth c A0 ls hM hO hin hr hlocks hA hP hD hl
  have hM : zM z p s m args c b_H_init 3 R_H := hM
  obtain ⟨hx, hb, hml, hown, hts, hK, hN⟩ := id hM
  have hS : va_S A0 s.heap s.heap [] := va_S.rf
  have hl : lv_has ls 3 [(0, .ref h0), (1, .ref aT), (2, .ref aM)] := hl
  refine lv_aload_n hx hb d_H_init_0 rfl (lv_at hl 0 rfl) ?_
  refine W.objInit hx hb hown (hts _ wq_95) (hts _ wq_22) (hts _ wq_23) rfl (by rw [hml]; exact hl.1) rfl d_H_init_1 (Nat.le_of_ble_eq_true rfl) (Nat.le_of_ble_eq_true rfl) ?_
  refine W.eq (g2 := F0 m 4 ls []) rfl ?_
  refine lv_aload_n hx hb d_H_init_4 rfl (lv_at hl 0 rfl) ?_
  refine lv_aload_n hx hb d_H_init_5 rfl (lv_at hl 1 rfl) ?_
  refine va_putF (D := z.1) (ci := 3) (v := .ref aT) (ty := .object "MemberChooser$Types") (C := R_H) (T := F_H) (N := 8) hx hb hts i_H ty_H ty_H_ok n_H hown hK hP hD hS 0 rfl rfl 0 (by decide) (hts _ wq_96) (fun _ h9 => h9) rfl hin rfl (by decide +kernel) rfl rfl (Nat.le_of_ble_eq_true rfl) d_H_init_6 (fun H locs hP hD hS => ?_)
  have hP : va_P z.1 vwCl ([(h0, .inr (3, [.ref aT, .null, .null, .null, .null, .int 0, .int 0, .int 0]))] ++ Rr) H := hP
  have hD : va_D A0 ([(h0, .inr (3, [.ref aT, .null, .null, .null, .null, .int 0, .int 0, .int 0]))] ++ Rr) := hD
  refine lv_aload_n hx hb d_H_init_9 rfl (lv_at hl 0 rfl) ?_
  refine lv_aload_n hx hb d_H_init_10 rfl (lv_at hl 2 rfl) ?_
  refine va_putF (D := z.1) (ci := 3) (v := .ref aM) (ty := .object "MemberChooser$Members") (C := R_H) (T := F_H) (N := 8) hx hb hts i_H ty_H ty_H_ok n_H hown hK hP hD hS 0 rfl rfl 1 (by decide) (hts _ wq_97) (fun _ h9 => h9) rfl hin rfl (by decide +kernel) rfl rfl (Nat.le_of_ble_eq_true rfl) d_H_init_11 (fun H locs hP hD hS => ?_)
  have hP : va_P z.1 vwCl ([(h0, .inr (3, [.ref aT, .ref aM, .null, .null, .null, .int 0, .int 0, .int 0]))] ++ Rr) H := hP
  have hD : va_D A0 ([(h0, .inr (3, [.ref aT, .ref aM, .null, .null, .null, .int 0, .int 0, .int 0]))] ++ Rr) := hD
  refine lv_aload_n hx hb d_H_init_14 rfl (lv_at hl 0 rfl) ?_
  refine lv_bipush (v := 24) hx hb d_H_init_15 (by decide) ?_
  refine zz_newa (L := [(h0, .inr (3, [.ref aT, .ref aM, .null, .null, .null, .int 0, .int 0, .int 0]))]) (Rr := Rr) hx hb 0 (atype := .int) (a0 := (24, .inl (fun _ => 0))) (N' := 24) (hts _ wq_59) rfl rfl (fun C h => by cases h) hK hP hD hS hA (fun _ => rfl) (by decide) (by decide) (by decide) (Nat.le_of_ble_eq_true rfl) (Nat.le_of_ble_eq_true rfl) d_H_init_17 (fun q17 H hP hD hS => ?_)
  have hP : va_P z.1 vwCl ([(h0, .inr (3, [.ref aT, .ref aM, .null, .null, .null, .int 0, .int 0, .int 0])), (q17, .inl (zI z, 24, .inl (fun _ => 0)))] ++ Rr) H := hP
  have hD : va_D A0 ([(h0, .inr (3, [.ref aT, .ref aM, .null, .null, .null, .int 0, .int 0, .int 0])), (q17, .inl (zI z, 24, .inl (fun _ => 0)))] ++ Rr) := hD
  refine va_putF (D := z.1) (ci := 3) (v := .ref q17) (ty := .array .int) (C := R_H) (T := F_H) (N := 8) hx hb hts i_H ty_H ty_H_ok n_H hown hK hP hD hS 0 rfl rfl 2 (by decide) (hts _ wq_98) (fun _ h9 => h9) rfl hin rfl (by decide +kernel) rfl rfl (Nat.le_of_ble_eq_true rfl) d_H_init_19 (fun H locs hP hD hS => ?_)
  have hP : va_P z.1 vwCl ([(h0, .inr (3, [.ref aT, .ref aM, .ref q17, .null, .null, .int 0, .int 0, .int 0])), (q17, .inl (zI z, 24, .inl (fun _ => 0)))] ++ Rr) H := hP
  have hD : va_D A0 ([(h0, .inr (3, [.ref aT, .ref aM, .ref q17, .null, .null, .int 0, .int 0, .int 0])), (q17, .inl (zI z, 24, .inl (fun _ => 0)))] ++ Rr) := hD
  refine lv_aload_n hx hb d_H_init_22 rfl (lv_at hl 0 rfl) ?_
  refine lv_bipush (v := 80) hx hb d_H_init_23 (by decide) ?_
  refine zz_newa (L := [(h0, .inr (3, [.ref aT, .ref aM, .ref q17, .null, .null, .int 0, .int 0, .int 0])), (q17, .inl (zI z, 24, .inl (fun _ => 0)))]) (Rr := Rr) hx hb 0 (atype := .int) (a0 := (80, .inl (fun _ => 0))) (N' := 80) (hts _ wq_59) rfl rfl (fun C h => by cases h) hK hP hD hS hA (fun _ => rfl) (by decide) (by decide) (by decide) (Nat.le_of_ble_eq_true rfl) (Nat.le_of_ble_eq_true rfl) d_H_init_25 (fun q25 H hP hD hS => ?_)
  have hP : va_P z.1 vwCl ([(h0, .inr (3, [.ref aT, .ref aM, .ref q17, .null, .null, .int 0, .int 0, .int 0])), (q17, .inl (zI z, 24, .inl (fun _ => 0))), (q25, .inl (zI z, 80, .inl (fun _ => 0)))] ++ Rr) H := hP
  have hD : va_D A0 ([(h0, .inr (3, [.ref aT, .ref aM, .ref q17, .null, .null, .int 0, .int 0, .int 0])), (q17, .inl (zI z, 24, .inl (fun _ => 0))), (q25, .inl (zI z, 80, .inl (fun _ => 0)))] ++ Rr) := hD
  refine va_putF (D := z.1) (ci := 3) (v := .ref q25) (ty := .array .int) (C := R_H) (T := F_H) (N := 8) hx hb hts i_H ty_H ty_H_ok n_H hown hK hP hD hS 0 rfl rfl 3 (by decide) (hts _ wq_99) (fun _ h9 => h9) rfl hin rfl (by decide +kernel) rfl rfl (Nat.le_of_ble_eq_true rfl) d_H_init_27 (fun H locs hP hD hS => ?_)
  have hP : va_P z.1 vwCl ([(h0, .inr (3, [.ref aT, .ref aM, .ref q17, .ref q25, .null, .int 0, .int 0, .int 0])), (q17, .inl (zI z, 24, .inl (fun _ => 0))), (q25, .inl (zI z, 80, .inl (fun _ => 0)))] ++ Rr) H := hP
  have hD : va_D A0 ([(h0, .inr (3, [.ref aT, .ref aM, .ref q17, .ref q25, .null, .int 0, .int 0, .int 0])), (q17, .inl (zI z, 24, .inl (fun _ => 0))), (q25, .inl (zI z, 80, .inl (fun _ => 0)))] ++ Rr) := hD
  refine lv_aload_n hx hb d_H_init_30 rfl (lv_at hl 0 rfl) ?_
  refine lv_bipush (v := 80) hx hb d_H_init_31 (by decide) ?_
  refine zz_newa (L := [(h0, .inr (3, [.ref aT, .ref aM, .ref q17, .ref q25, .null, .int 0, .int 0, .int 0])), (q17, .inl (zI z, 24, .inl (fun _ => 0))), (q25, .inl (zI z, 80, .inl (fun _ => 0)))]) (Rr := Rr) hx hb 0 (atype := .int) (a0 := (80, .inl (fun _ => 0))) (N' := 80) (hts _ wq_59) rfl rfl (fun C h => by cases h) hK hP hD hS hA (fun _ => rfl) (by decide) (by decide) (by decide) (Nat.le_of_ble_eq_true rfl) (Nat.le_of_ble_eq_true rfl) d_H_init_33 (fun q33 H hP hD hS => ?_)
  have hP : va_P z.1 vwCl ([(h0, .inr (3, [.ref aT, .ref aM, .ref q17, .ref q25, .null, .int 0, .int 0, .int 0])), (q17, .inl (zI z, 24, .inl (fun _ => 0))), (q25, .inl (zI z, 80, .inl (fun _ => 0))), (q33, .inl (zI z, 80, .inl (fun _ => 0)))] ++ Rr) H := hP
  have hD : va_D A0 ([(h0, .inr (3, [.ref aT, .ref aM, .ref q17, .ref q25, .null, .int 0, .int 0, .int 0])), (q17, .inl (zI z, 24, .inl (fun _ => 0))), (q25, .inl (zI z, 80, .inl (fun _ => 0))), (q33, .inl (zI z, 80, .inl (fun _ => 0)))] ++ Rr) := hD
  refine va_putF (D := z.1) (ci := 3) (v := .ref q33) (ty := .array .int) (C := R_H) (T := F_H) (N := 8) hx hb hts i_H ty_H ty_H_ok n_H hown hK hP hD hS 0 rfl rfl 4 (by decide) (hts _ wq_100) (fun _ h9 => h9) rfl hin rfl (by decide +kernel) rfl rfl (Nat.le_of_ble_eq_true rfl) d_H_init_35 (fun H locs hP hD hS => ?_)
  have hP : va_P z.1 vwCl ([(h0, .inr (3, [.ref aT, .ref aM, .ref q17, .ref q25, .ref q33, .int 0, .int 0, .int 0])), (q17, .inl (zI z, 24, .inl (fun _ => 0))), (q25, .inl (zI z, 80, .inl (fun _ => 0))), (q33, .inl (zI z, 80, .inl (fun _ => 0)))] ++ Rr) H := hP
  have hD : va_D A0 ([(h0, .inr (3, [.ref aT, .ref aM, .ref q17, .ref q25, .ref q33, .int 0, .int 0, .int 0])), (q17, .inl (zI z, 24, .inl (fun _ => 0))), (q25, .inl (zI z, 80, .inl (fun _ => 0))), (q33, .inl (zI z, 80, .inl (fun _ => 0)))] ++ Rr) := hD
  refine lv_aload_n hx hb d_H_init_38 rfl (lv_at hl 0 rfl) ?_
  refine lv_iconst (v := 0) hx hb d_H_init_39 (by decide) ?_
  refine va_put (D := z.1) (ci := 3) (v := .int 0) (ty := .int) (C := R_H) (T := F_H) (N := 8) hx hb hts i_H ty_H ty_H_ok n_H hown hK hP hD hS 0 rfl rfl 5 (by decide) (hts _ wq_101) (fun _ h9 => h9) rfl (by decide +kernel) rfl rfl (Nat.le_of_ble_eq_true rfl) d_H_init_40 (fun H locs hP hD hS => ?_)
  have hP : va_P z.1 vwCl ([(h0, .inr (3, [.ref aT, .ref aM, .ref q17, .ref q25, .ref q33, .int 0, .int 0, .int 0])), (q17, .inl (zI z, 24, .inl (fun _ => 0))), (q25, .inl (zI z, 80, .inl (fun _ => 0))), (q33, .inl (zI z, 80, .inl (fun _ => 0)))] ++ Rr) H := hP
  have hD : va_D A0 ([(h0, .inr (3, [.ref aT, .ref aM, .ref q17, .ref q25, .ref q33, .int 0, .int 0, .int 0])), (q17, .inl (zI z, 24, .inl (fun _ => 0))), (q25, .inl (zI z, 80, .inl (fun _ => 0))), (q33, .inl (zI z, 80, .inl (fun _ => 0)))] ++ Rr) := hD
  refine lv_aload_n hx hb d_H_init_43 rfl (lv_at hl 0 rfl) ?_
  refine lv_iconst (v := 0) hx hb d_H_init_44 (by decide) ?_
  refine va_put (D := z.1) (ci := 3) (v := .int 0) (ty := .int) (C := R_H) (T := F_H) (N := 8) hx hb hts i_H ty_H ty_H_ok n_H hown hK hP hD hS 0 rfl rfl 6 (by decide) (hts _ wq_102) (fun _ h9 => h9) rfl (by decide +kernel) rfl rfl (Nat.le_of_ble_eq_true rfl) d_H_init_45 (fun H locs hP hD hS => ?_)
  have hP : va_P z.1 vwCl ([(h0, .inr (3, [.ref aT, .ref aM, .ref q17, .ref q25, .ref q33, .int 0, .int 0, .int 0])), (q17, .inl (zI z, 24, .inl (fun _ => 0))), (q25, .inl (zI z, 80, .inl (fun _ => 0))), (q33, .inl (zI z, 80, .inl (fun _ => 0)))] ++ Rr) H := hP
  have hD : va_D A0 ([(h0, .inr (3, [.ref aT, .ref aM, .ref q17, .ref q25, .ref q33, .int 0, .int 0, .int 0])), (q17, .inl (zI z, 24, .inl (fun _ => 0))), (q25, .inl (zI z, 80, .inl (fun _ => 0))), (q33, .inl (zI z, 80, .inl (fun _ => 0)))] ++ Rr) := hD
  refine lv_aload_n hx hb d_H_init_48 rfl (lv_at hl 0 rfl) ?_
  refine lv_iconst (v := 0) hx hb d_H_init_49 (by decide) ?_
  refine va_put (D := z.1) (ci := 3) (v := .int 0) (ty := .int) (C := R_H) (T := F_H) (N := 8) hx hb hts i_H ty_H ty_H_ok n_H hown hK hP hD hS 0 rfl rfl 7 (by decide) (hts _ wq_103) (fun _ h9 => h9) rfl (by decide +kernel) rfl rfl (Nat.le_of_ble_eq_true rfl) d_H_init_50 (fun H locs hP hD hS => ?_)
  have hP : va_P z.1 vwCl ([(h0, .inr (3, [.ref aT, .ref aM, .ref q17, .ref q25, .ref q33, .int 0, .int 0, .int 0])), (q17, .inl (zI z, 24, .inl (fun _ => 0))), (q25, .inl (zI z, 80, .inl (fun _ => 0))), (q33, .inl (zI z, 80, .inl (fun _ => 0)))] ++ Rr) H := hP
  have hD : va_D A0 ([(h0, .inr (3, [.ref aT, .ref aM, .ref q17, .ref q25, .ref q33, .int 0, .int 0, .int 0])), (q17, .inl (zI z, 24, .inl (fun _ => 0))), (q25, .inl (zI z, 80, .inl (fun _ => 0))), (q33, .inl (zI z, 80, .inl (fun _ => 0)))] ++ Rr) := hD
  exact zz_vretE hx hb hr hlocks ⟨zad [h0, q17, q25, q33], rfl, rfl⟩ hP hD hS (Nat.le_of_ble_eq_true rfl) (Nat.le_of_ble_eq_true rfl) d_H_init_53

