abbrev b_X_init : ByteArray := prog_1_method_1_code
abbrev y_X_init : MethodName := ⟨"MemberChooser", "<init>", "()V"⟩
abbrev w_X_init : List Cond := Cond.code y_X_init b_X_init 1 none :: zTb
theorem d_X_init_0 : decode b_X_init 0 = .ok (.aload_n 0, 1) := by decide +kernel
theorem d_X_init_1 : decode b_X_init 1 = .ok (.invokespecial 1, 3) := by decide +kernel
theorem d_X_init_4 : decode b_X_init 4 = .ok (.aload_n 0, 1) := by decide +kernel
theorem d_X_init_5 : decode b_X_init 5 = .ok (.new 7, 3) := by decide +kernel
theorem d_X_init_8 : decode b_X_init 8 = .ok (.dup, 1) := by decide +kernel
theorem d_X_init_9 : decode b_X_init 9 = .ok (.invokespecial 9, 3) := by decide +kernel
theorem d_X_init_12 : decode b_X_init 12 = .ok (.putfield 10, 3) := by decide +kernel
theorem d_X_init_15 : decode b_X_init 15 = .ok (.aload_n 0, 1) := by decide +kernel
theorem d_X_init_16 : decode b_X_init 16 = .ok (.new 16, 3) := by decide +kernel
theorem d_X_init_19 : decode b_X_init 19 = .ok (.dup, 1) := by decide +kernel
theorem d_X_init_20 : decode b_X_init 20 = .ok (.invokespecial 18, 3) := by decide +kernel
theorem d_X_init_23 : decode b_X_init 23 = .ok (.putfield 19, 3) := by decide +kernel
theorem d_X_init_26 : decode b_X_init 26 = .ok (.aload_n 0, 1) := by decide +kernel
theorem d_X_init_27 : decode b_X_init 27 = .ok (.new 23, 3) := by decide +kernel
theorem d_X_init_30 : decode b_X_init 30 = .ok (.dup, 1) := by decide +kernel
theorem d_X_init_31 : decode b_X_init 31 = .ok (.aload_n 0, 1) := by decide +kernel
theorem d_X_init_32 : decode b_X_init 32 = .ok (.getfield 10, 3) := by decide +kernel
theorem d_X_init_35 : decode b_X_init 35 = .ok (.aload_n 0, 1) := by decide +kernel
theorem d_X_init_36 : decode b_X_init 36 = .ok (.getfield 19, 3) := by decide +kernel
theorem d_X_init_39 : decode b_X_init 39 = .ok (.invokespecial 25, 3) := by decide +kernel
theorem d_X_init_42 : decode b_X_init 42 = .ok (.putfield 28, 3) := by decide +kernel
theorem d_X_init_45 : decode b_X_init 45 = .ok (.aload_n 0, 1) := by decide +kernel
theorem d_X_init_46 : decode b_X_init 46 = .ok (.new 32, 3) := by decide +kernel
theorem d_X_init_49 : decode b_X_init 49 = .ok (.dup, 1) := by decide +kernel
theorem d_X_init_50 : decode b_X_init 50 = .ok (.invokespecial 34, 3) := by decide +kernel
theorem d_X_init_53 : decode b_X_init 53 = .ok (.putfield 35, 3) := by decide +kernel
theorem d_X_init_56 : decode b_X_init 56 = .ok (.aload_n 0, 1) := by decide +kernel
theorem d_X_init_57 : decode b_X_init 57 = .ok (.iconst 0, 1) := by decide +kernel
theorem d_X_init_58 : decode b_X_init 58 = .ok (.putfield 39, 3) := by decide +kernel
theorem d_X_init_61 : decode b_X_init 61 = .ok (.aload_n 0, 1) := by decide +kernel
theorem d_X_init_62 : decode b_X_init 62 = .ok (.iconst 0, 1) := by decide +kernel
theorem d_X_init_63 : decode b_X_init 63 = .ok (.putfield 43, 3) := by decide +kernel
theorem d_X_init_66 : decode b_X_init 66 = .ok (.return_, 1) := by decide +kernel
def zS0 (S' : ZT) : ZC := (S', zM0, zH0, zK0, (0, 0))
theorem cw_split {z : zE} {A : Nat → Nat} {S : ZC} : cw z A S = [(A 0, .inr (0, [.ref (A 17), .ref (A 11), .ref (A 7), .ref (A 1), .int (xWk S), .int (xFk S)]))] ++ (kw z (fun k => A (1 + k)) S.2.2.2.1 ++ (hw z (fun k => A (7 + k)) (A 17) (A 11) S.2.2.1 ++ (mw z (fun k => A (11 + k)) S.2.1 ++ tw z (fun k => A (17 + k)) S.1))) := by
  have e : (List.range 32).map (fun i => (A (23 + i), (.inl (zI z, 24, .inl (tGr S i)) : va_E))) = (List.range 32).map (fun i => (A (17 + (6 + i)), (.inl (zI z, 24, .inl (uGr S.1 i)) : va_E))) := List.map_congr_left (fun i _ => by rw [← Nat.add_assoc])
  have e2 : (fun i => some (A (23 + i))) = (fun i => some (A (17 + (6 + i)))) := funext (fun i => by rw [← Nat.add_assoc])
  unfold cw
  rw [e, e2]
  rfl
abbrev rm_X_init : Room := { frames := 3, cells := 54, slots := 2038, locals := 90 }
set_option maxRecDepth 100000 in
set_option maxHeartbeats 4000000 in
theorem k_X_init (l : Launch) (z : zE) (Rr : va_W) (h0 n : Nat) (S' : ZT) (hT : fx_T_init n zT0 = some S') : zCe z l y_X_init w_X_init rm_X_init [.ref h0] ([(h0, .inr (0, [.null, .null, .null, .null, .int 0, .int 0]))] ++ Rr) none (fun w' => ∃ A : Nat → Nat, A 0 = h0 ∧ w' = cw z A (zS0 S') ++ Rr) 54 2038 := by
  refine zz_ofE (by decide) (Nat.le_of_ble_eq_true rfl) ?_
  intro p e s m args below meth c A0 ls hM hO hin hr hlocks hA hP hD hl
  have hM : zM z p s m args c b_X_init 1 R_X := hM
  obtain ⟨hx, hb, hml, hown, hts, hK, hN⟩ := id hM
  have hS : va_S A0 s.heap s.heap [] := va_S.rf
  have hl : lv_has ls 1 [(0, .ref h0)] := hl
  refine lv_aload_n hx hb d_X_init_0 rfl (lv_at hl 0 rfl) ?_
  refine W.objInit hx hb hown (hts _ wq_21) (hts _ wq_22) (hts _ wq_23) rfl (by rw [hml]; exact hl.1) rfl d_X_init_1 (Nat.le_of_ble_eq_true rfl) (Nat.le_of_ble_eq_true rfl) ?_
  refine W.eq (g2 := F0 m 4 ls []) rfl ?_
  refine lv_aload_n hx hb d_X_init_4 rfl (lv_at hl 0 rfl) ?_
  refine va_new (ci := 1) (fs := [.null, .null, .null, .null, .null, .int 0]) (C := R_T) (T := F_T) (N := 6) hx hb hts i_T ty_T ty_T_ok hown (hts _ wq_24) (hts _ wq_25) (hts _ wq_2) hK hP hD hS hA rfl (fun j hj => by rcases (show j = 0 ∨ j = 1 ∨ j = 2 ∨ j = 3 ∨ j = 4 ∨ j = 5 by omega) with rfl | rfl | rfl | rfl | rfl | rfl <;> rfl) (Nat.le_of_ble_eq_true rfl) (Nat.le_of_ble_eq_true rfl) d_X_init_5 (fun qT H hP hD hS => ?_)
  have hP := zz_swP hP
  have hD := zz_swD hD
  refine lv_dup hx hb d_X_init_8 rfl ?_
  refine zz_goE (As := []) (rest := [.ref qT, .ref h0]) (k_T_init l z ([(h0, .inr (0, [.null, .null, .null, .null, .int 0, .int 0]))] ++ Rr) qT n S' hT) ⟨hx, hb, hml, hown, hts⟩ (cwI 0 hts (zz_gC wq_28) rfl rfl rfl (hts _ wq_2) (hts _ wq_26) (hts _ wq_27) rfl (by decide +kernel) ⟨Nat.le_of_ble_eq_true rfl, Nat.le_of_ble_eq_true rfl⟩) hK hN hO hP hD hS hA rfl hl.1 rfl (Nat.le_of_ble_eq_true rfl) d_X_init_9 ⟨Nat.le_of_ble_eq_true rfl, Nat.le_of_ble_eq_true rfl⟩ (fun w' H locs hw hP9 hD9 hS => ?_)
  obtain ⟨AT, eT, rfl⟩ := hw
  subst eT
  have hP := zz_s3P hP9
  have hD := zz_s3D hD9
  clear hP9 hD9
  refine va_putF (D := z.1) (ci := 0) (v := .ref (AT 0)) (ty := .object "MemberChooser$Types") (C := R_X) (T := F_X) (N := 6) hx hb hts i_X ty_X ty_X_ok n_X hown hK hP hD hS 0 rfl rfl 0 (by decide) (hts _ wq_149) (fun _ h9 => h9) rfl hin rfl (by decide +kernel) rfl rfl (Nat.le_of_ble_eq_true rfl) d_X_init_12 (fun H locs hP hD hS => ?_)
  have hP : va_P z.1 vwCl ([(h0, .inr (0, [.ref (AT 0), .null, .null, .null, .int 0, .int 0]))] ++ (tw z AT S' ++ Rr)) H := hP
  have hD : va_D A0 ([(h0, .inr (0, [.ref (AT 0), .null, .null, .null, .int 0, .int 0]))] ++ (tw z AT S' ++ Rr)) := hD
  refine lv_aload_n hx hb d_X_init_15 rfl (lv_at hl 0 rfl) ?_
  refine va_new (ci := 2) (fs := [.null, .null, .null, .null, .null, .int 0]) (C := R_M) (T := F_M) (N := 6) hx hb hts i_M ty_M ty_M_ok hown (hts _ wq_60) (hts _ wq_61) (hts _ wq_3) hK hP hD hS hA rfl (fun j hj => by rcases (show j = 0 ∨ j = 1 ∨ j = 2 ∨ j = 3 ∨ j = 4 ∨ j = 5 by omega) with rfl | rfl | rfl | rfl | rfl | rfl <;> rfl) (Nat.le_of_ble_eq_true rfl) (Nat.le_of_ble_eq_true rfl) d_X_init_16 (fun qM H hP hD hS => ?_)
  have hP := zz_swP hP
  have hD := zz_swD hD
  refine lv_dup hx hb d_X_init_19 rfl ?_
  refine zz_goE (As := []) (rest := [.ref qM, .ref h0]) (k_M_init l z ([(h0, .inr (0, [.ref (AT 0), .null, .null, .null, .int 0, .int 0]))] ++ (tw z AT S' ++ Rr)) qM) ⟨hx, hb, hml, hown, hts⟩ (cwI 0 hts (zz_gC wq_64) rfl rfl rfl (hts _ wq_3) (hts _ wq_62) (hts _ wq_63) rfl (by decide +kernel) ⟨Nat.le_of_ble_eq_true rfl, Nat.le_of_ble_eq_true rfl⟩) hK hN hO hP hD hS hA rfl hl.1 rfl (Nat.le_of_ble_eq_true rfl) d_X_init_20 ⟨Nat.le_of_ble_eq_true rfl, Nat.le_of_ble_eq_true rfl⟩ (fun w' H locs hw hP9 hD9 hS => ?_)
  obtain ⟨AM, eM, rfl⟩ := hw
  subst eM
  have hP := zz_s3P hP9
  have hD := zz_s3D hD9
  clear hP9 hD9
  refine va_putF (D := z.1) (ci := 0) (v := .ref (AM 0)) (ty := .object "MemberChooser$Members") (C := R_X) (T := F_X) (N := 6) hx hb hts i_X ty_X ty_X_ok n_X hown hK hP hD hS 0 rfl rfl 1 (by decide) (hts _ wq_150) (fun _ h9 => h9) rfl hin rfl (by decide +kernel) rfl rfl (Nat.le_of_ble_eq_true rfl) d_X_init_23 (fun H locs hP hD hS => ?_)
  have hP : va_P z.1 vwCl ([(h0, .inr (0, [.ref (AT 0), .ref (AM 0), .null, .null, .int 0, .int 0]))] ++ (mw z AM zM0 ++ (tw z AT S' ++ Rr))) H := hP
  have hD : va_D A0 ([(h0, .inr (0, [.ref (AT 0), .ref (AM 0), .null, .null, .int 0, .int 0]))] ++ (mw z AM zM0 ++ (tw z AT S' ++ Rr))) := hD
  refine lv_aload_n hx hb d_X_init_26 rfl (lv_at hl 0 rfl) ?_
  refine va_new (ci := 3) (fs := [.null, .null, .null, .null, .null, .int 0, .int 0, .int 0]) (C := R_H) (T := F_H) (N := 8) hx hb hts i_H ty_H ty_H_ok hown (hts _ wq_90) (hts _ wq_91) (hts _ wq_4) hK hP hD hS hA rfl (fun j hj => by rcases (show j = 0 ∨ j = 1 ∨ j = 2 ∨ j = 3 ∨ j = 4 ∨ j = 5 ∨ j = 6 ∨ j = 7 by omega) with rfl | rfl | rfl | rfl | rfl | rfl | rfl | rfl <;> rfl) (Nat.le_of_ble_eq_true rfl) (Nat.le_of_ble_eq_true rfl) d_X_init_27 (fun qH H hP hD hS => ?_)
  have hP := zz_swP hP
  have hD := zz_swD hD
  refine lv_dup hx hb d_X_init_30 rfl ?_
  refine lv_aload_n hx hb d_X_init_31 rfl (lv_at hl 0 rfl) ?_
  refine va_get (D := z.1) (ci := 0) (v := .ref (AT 0)) (C := R_X) (T := F_X) (N := 6) hx hb hts i_X hown hK hP 1 rfl rfl 0 (by decide) (hts _ wq_149) (fun _ h9 => h9) rfl d_X_init_32 ?_
  refine lv_aload_n hx hb d_X_init_35 rfl (lv_at hl 0 rfl) ?_
  refine va_get (D := z.1) (ci := 0) (v := .ref (AM 0)) (C := R_X) (T := F_X) (N := 6) hx hb hts i_X hown hK hP 1 rfl rfl 1 (by decide) (hts _ wq_150) (fun _ h9 => h9) rfl d_X_init_36 ?_
  refine zz_goE (As := [.ref (AT 0), .ref (AM 0)]) (rest := [.ref qH, .ref h0]) (k_H_init l z ([(h0, .inr (0, [.ref (AT 0), .ref (AM 0), .null, .null, .int 0, .int 0]))] ++ (mw z AM zM0 ++ (tw z AT S' ++ Rr))) qH (AT 0) (AM 0)) ⟨hx, hb, hml, hown, hts⟩ (cwI 2 hts (zz_gC wq_94) rfl rfl rfl (hts _ wq_4) (hts _ wq_92) (hts _ wq_93) rfl (by decide +kernel) ⟨Nat.le_of_ble_eq_true rfl, Nat.le_of_ble_eq_true rfl⟩) hK hN hO hP hD hS hA rfl hl.1 rfl (Nat.le_of_ble_eq_true rfl) d_X_init_39 ⟨Nat.le_of_ble_eq_true rfl, Nat.le_of_ble_eq_true rfl⟩ (fun w' H locs hw hP9 hD9 hS => ?_)
  obtain ⟨AH, eH, rfl⟩ := hw
  subst eH
  have hP := zz_s3P hP9
  have hD := zz_s3D hD9
  clear hP9 hD9
  refine va_putF (D := z.1) (ci := 0) (v := .ref (AH 0)) (ty := .object "MemberChooser$Chooser") (C := R_X) (T := F_X) (N := 6) hx hb hts i_X ty_X ty_X_ok n_X hown hK hP hD hS 0 rfl rfl 2 (by decide) (hts _ wq_151) (fun _ h9 => h9) rfl hin rfl (by decide +kernel) rfl rfl (Nat.le_of_ble_eq_true rfl) d_X_init_42 (fun H locs hP hD hS => ?_)
  have hP : va_P z.1 vwCl ([(h0, .inr (0, [.ref (AT 0), .ref (AM 0), .ref (AH 0), .null, .int 0, .int 0]))] ++ (hw z AH (AT 0) (AM 0) zH0 ++ (mw z AM zM0 ++ (tw z AT S' ++ Rr)))) H := hP
  have hD : va_D A0 ([(h0, .inr (0, [.ref (AT 0), .ref (AM 0), .ref (AH 0), .null, .int 0, .int 0]))] ++ (hw z AH (AT 0) (AM 0) zH0 ++ (mw z AM zM0 ++ (tw z AT S' ++ Rr)))) := hD
  refine lv_aload_n hx hb d_X_init_45 rfl (lv_at hl 0 rfl) ?_
  refine va_new (ci := 4) (fs := [.null, .null, .null, .null, .null, .int 0]) (C := R_K) (T := F_K) (N := 6) hx hb hts i_K ty_K ty_K_ok hown (hts _ wq_122) (hts _ wq_123) (hts _ wq_5) hK hP hD hS hA rfl (fun j hj => by rcases (show j = 0 ∨ j = 1 ∨ j = 2 ∨ j = 3 ∨ j = 4 ∨ j = 5 by omega) with rfl | rfl | rfl | rfl | rfl | rfl <;> rfl) (Nat.le_of_ble_eq_true rfl) (Nat.le_of_ble_eq_true rfl) d_X_init_46 (fun qK H hP hD hS => ?_)
  have hP := zz_swP hP
  have hD := zz_swD hD
  refine lv_dup hx hb d_X_init_49 rfl ?_
  refine zz_goE (As := []) (rest := [.ref qK, .ref h0]) (k_K_init l z ([(h0, .inr (0, [.ref (AT 0), .ref (AM 0), .ref (AH 0), .null, .int 0, .int 0]))] ++ (hw z AH (AT 0) (AM 0) zH0 ++ (mw z AM zM0 ++ (tw z AT S' ++ Rr)))) qK) ⟨hx, hb, hml, hown, hts⟩ (cwI 0 hts (zz_gC wq_126) rfl rfl rfl (hts _ wq_5) (hts _ wq_124) (hts _ wq_125) rfl (by decide +kernel) ⟨Nat.le_of_ble_eq_true rfl, Nat.le_of_ble_eq_true rfl⟩) hK hN hO hP hD hS hA rfl hl.1 rfl (Nat.le_of_ble_eq_true rfl) d_X_init_50 ⟨Nat.le_of_ble_eq_true rfl, Nat.le_of_ble_eq_true rfl⟩ (fun w' H locs hw hP9 hD9 hS => ?_)
  obtain ⟨AK, eK, rfl⟩ := hw
  subst eK
  have hP := zz_s3P hP9
  have hD := zz_s3D hD9
  clear hP9 hD9
  refine va_putF (D := z.1) (ci := 0) (v := .ref (AK 0)) (ty := .object "MemberChooser$KeptCalls") (C := R_X) (T := F_X) (N := 6) hx hb hts i_X ty_X ty_X_ok n_X hown hK hP hD hS 0 rfl rfl 3 (by decide) (hts _ wq_152) (fun _ h9 => h9) rfl hin rfl (by decide +kernel) rfl rfl (Nat.le_of_ble_eq_true rfl) d_X_init_53 (fun H locs hP hD hS => ?_)
  have hP : va_P z.1 vwCl ([(h0, .inr (0, [.ref (AT 0), .ref (AM 0), .ref (AH 0), .ref (AK 0), .int 0, .int 0]))] ++ (kw z AK zK0 ++ (hw z AH (AT 0) (AM 0) zH0 ++ (mw z AM zM0 ++ (tw z AT S' ++ Rr))))) H := hP
  have hD : va_D A0 ([(h0, .inr (0, [.ref (AT 0), .ref (AM 0), .ref (AH 0), .ref (AK 0), .int 0, .int 0]))] ++ (kw z AK zK0 ++ (hw z AH (AT 0) (AM 0) zH0 ++ (mw z AM zM0 ++ (tw z AT S' ++ Rr))))) := hD
  refine lv_aload_n hx hb d_X_init_56 rfl (lv_at hl 0 rfl) ?_
  refine lv_iconst (v := 0) hx hb d_X_init_57 (by decide) ?_
  refine va_put (D := z.1) (ci := 0) (v := .int 0) (ty := .int) (C := R_X) (T := F_X) (N := 6) hx hb hts i_X ty_X ty_X_ok n_X hown hK hP hD hS 0 rfl rfl 4 (by decide) (hts _ wq_153) (fun _ h9 => h9) rfl (by decide +kernel) rfl rfl (Nat.le_of_ble_eq_true rfl) d_X_init_58 (fun H locs hP hD hS => ?_)
  have hP : va_P z.1 vwCl ([(h0, .inr (0, [.ref (AT 0), .ref (AM 0), .ref (AH 0), .ref (AK 0), .int 0, .int 0]))] ++ (kw z AK zK0 ++ (hw z AH (AT 0) (AM 0) zH0 ++ (mw z AM zM0 ++ (tw z AT S' ++ Rr))))) H := hP
  have hD : va_D A0 ([(h0, .inr (0, [.ref (AT 0), .ref (AM 0), .ref (AH 0), .ref (AK 0), .int 0, .int 0]))] ++ (kw z AK zK0 ++ (hw z AH (AT 0) (AM 0) zH0 ++ (mw z AM zM0 ++ (tw z AT S' ++ Rr))))) := hD
  refine lv_aload_n hx hb d_X_init_61 rfl (lv_at hl 0 rfl) ?_
  refine lv_iconst (v := 0) hx hb d_X_init_62 (by decide) ?_
  refine va_put (D := z.1) (ci := 0) (v := .int 0) (ty := .int) (C := R_X) (T := F_X) (N := 6) hx hb hts i_X ty_X ty_X_ok n_X hown hK hP hD hS 0 rfl rfl 5 (by decide) (hts _ wq_154) (fun _ h9 => h9) rfl (by decide +kernel) rfl rfl (Nat.le_of_ble_eq_true rfl) d_X_init_63 (fun H locs hP hD hS => ?_)
  have hP : va_P z.1 vwCl ([(h0, .inr (0, [.ref (AT 0), .ref (AM 0), .ref (AH 0), .ref (AK 0), .int 0, .int 0]))] ++ (kw z AK zK0 ++ (hw z AH (AT 0) (AM 0) zH0 ++ (mw z AM zM0 ++ (tw z AT S' ++ Rr))))) H := hP
  have hD : va_D A0 ([(h0, .inr (0, [.ref (AT 0), .ref (AM 0), .ref (AH 0), .ref (AK 0), .int 0, .int 0]))] ++ (kw z AK zK0 ++ (hw z AH (AT 0) (AM 0) zH0 ++ (mw z AM zM0 ++ (tw z AT S' ++ Rr))))) := hD
  have ew : ([(h0, .inr (0, [.ref (AT 0), .ref (AM 0), .ref (AH 0), .ref (AK 0), .int 0, .int 0]))] ++ (kw z AK zK0 ++ (hw z AH (AT 0) (AM 0) zH0 ++ (mw z AM zM0 ++ (tw z AT S' ++ Rr))))) = cw z (fun k => if k < 1 then h0 else if k < 7 then AK (k - 1) else if k < 11 then AH (k - 7) else if k < 17 then AM (k - 11) else AT (k - 17)) (zS0 S') ++ Rr := by
    rw [cw_split]
    have eT : (fun k => (fun k => if k < 1 then h0 else if k < 7 then AK (k - 1) else if k < 11 then AH (k - 7) else if k < 17 then AM (k - 11) else AT (k - 17)) (17 + k)) = AT := funext (fun k => by show (if 17 + k < 1 then _ else if 17 + k < 7 then _ else if 17 + k < 11 then _ else if 17 + k < 17 then _ else AT (17 + k - 17)) = _; rw [if_neg (by omega), if_neg (by omega), if_neg (by omega), if_neg (by omega), show 17 + k - 17 = k by omega])
    rw [eT]
    simp only [List.append_assoc]
    rfl
  rw [ew] at hP hD
  exact zz_vretE hx hb hr hlocks ⟨_, rfl, rfl⟩ hP hD hS (Nat.le_of_ble_eq_true rfl) (Nat.le_of_ble_eq_true rfl) d_X_init_66

