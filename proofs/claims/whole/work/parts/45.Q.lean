abbrev b_Q_keep : ByteArray := prog_7_method_28_code
abbrev y_Q_keep : MethodName := ⟨"MemberChooserModel", "keep", "(IIIJI)V"⟩
abbrev w_Q_keep : List Cond := Cond.code y_Q_keep b_Q_keep 8 none :: zTb
theorem d_Q_keep_0 : decode b_Q_keep 0 = .ok (.aload_n 0, 1) := by decide +kernel
theorem d_Q_keep_1 : decode b_Q_keep 1 = .ok (.getfield 95, 3) := by decide +kernel
theorem d_Q_keep_4 : decode b_Q_keep 4 = .ok (.bipush 100, 2) := by decide +kernel
theorem d_Q_keep_6 : decode b_Q_keep 6 = .ok (.if_icmp .ne 39, 3) := by decide +kernel
theorem d_Q_keep_9 : decode b_Q_keep 9 = .ok (.iconst 1, 1) := by decide +kernel
theorem d_Q_keep_10 : decode b_Q_keep 10 = .ok (.istore 7, 2) := by decide +kernel
theorem d_Q_keep_12 : decode b_Q_keep 12 = .ok (.iload 7, 2) := by decide +kernel
theorem d_Q_keep_14 : decode b_Q_keep 14 = .ok (.bipush 100, 2) := by decide +kernel
theorem d_Q_keep_16 : decode b_Q_keep 16 = .ok (.if_icmp .ge 19, 3) := by decide +kernel
theorem d_Q_keep_19 : decode b_Q_keep 19 = .ok (.aload_n 0, 1) := by decide +kernel
theorem d_Q_keep_20 : decode b_Q_keep 20 = .ok (.iload 7, 2) := by decide +kernel
theorem d_Q_keep_22 : decode b_Q_keep 22 = .ok (.iload 7, 2) := by decide +kernel
theorem d_Q_keep_24 : decode b_Q_keep 24 = .ok (.iconst 1, 1) := by decide +kernel
theorem d_Q_keep_25 : decode b_Q_keep 25 = .ok (.isub, 1) := by decide +kernel
theorem d_Q_keep_26 : decode b_Q_keep 26 = .ok (.invokevirtual 110, 3) := by decide +kernel
theorem d_Q_keep_29 : decode b_Q_keep 29 = .ok (.iinc 7 1, 3) := by decide +kernel
theorem d_Q_keep_32 : decode b_Q_keep 32 = .ok (.goto (-20), 3) := by decide +kernel
theorem d_Q_keep_35 : decode b_Q_keep 35 = .ok (.aload_n 0, 1) := by decide +kernel
theorem d_Q_keep_36 : decode b_Q_keep 36 = .ok (.dup, 1) := by decide +kernel
theorem d_Q_keep_37 : decode b_Q_keep 37 = .ok (.getfield 95, 3) := by decide +kernel
theorem d_Q_keep_40 : decode b_Q_keep 40 = .ok (.iconst 1, 1) := by decide +kernel
theorem d_Q_keep_41 : decode b_Q_keep 41 = .ok (.isub, 1) := by decide +kernel
theorem d_Q_keep_42 : decode b_Q_keep 42 = .ok (.putfield 95, 3) := by decide +kernel
theorem d_Q_keep_45 : decode b_Q_keep 45 = .ok (.aload_n 0, 1) := by decide +kernel
theorem d_Q_keep_46 : decode b_Q_keep 46 = .ok (.getfield 42, 3) := by decide +kernel
theorem d_Q_keep_49 : decode b_Q_keep 49 = .ok (.aload_n 0, 1) := by decide +kernel
theorem d_Q_keep_50 : decode b_Q_keep 50 = .ok (.getfield 95, 3) := by decide +kernel
theorem d_Q_keep_53 : decode b_Q_keep 53 = .ok (.iload_n 1, 1) := by decide +kernel
theorem d_Q_keep_54 : decode b_Q_keep 54 = .ok (.iastore, 1) := by decide +kernel
theorem d_Q_keep_55 : decode b_Q_keep 55 = .ok (.aload_n 0, 1) := by decide +kernel
theorem d_Q_keep_56 : decode b_Q_keep 56 = .ok (.getfield 45, 3) := by decide +kernel
theorem d_Q_keep_59 : decode b_Q_keep 59 = .ok (.aload_n 0, 1) := by decide +kernel
theorem d_Q_keep_60 : decode b_Q_keep 60 = .ok (.getfield 95, 3) := by decide +kernel
theorem d_Q_keep_63 : decode b_Q_keep 63 = .ok (.iload_n 2, 1) := by decide +kernel
theorem d_Q_keep_64 : decode b_Q_keep 64 = .ok (.iastore, 1) := by decide +kernel
theorem d_Q_keep_65 : decode b_Q_keep 65 = .ok (.aload_n 0, 1) := by decide +kernel
theorem d_Q_keep_66 : decode b_Q_keep 66 = .ok (.getfield 48, 3) := by decide +kernel
theorem d_Q_keep_69 : decode b_Q_keep 69 = .ok (.aload_n 0, 1) := by decide +kernel
theorem d_Q_keep_70 : decode b_Q_keep 70 = .ok (.getfield 95, 3) := by decide +kernel
theorem d_Q_keep_73 : decode b_Q_keep 73 = .ok (.iload_n 3, 1) := by decide +kernel
theorem d_Q_keep_74 : decode b_Q_keep 74 = .ok (.iastore, 1) := by decide +kernel
theorem d_Q_keep_75 : decode b_Q_keep 75 = .ok (.aload_n 0, 1) := by decide +kernel
theorem d_Q_keep_76 : decode b_Q_keep 76 = .ok (.getfield 51, 3) := by decide +kernel
theorem d_Q_keep_79 : decode b_Q_keep 79 = .ok (.aload_n 0, 1) := by decide +kernel
theorem d_Q_keep_80 : decode b_Q_keep 80 = .ok (.getfield 95, 3) := by decide +kernel
theorem d_Q_keep_83 : decode b_Q_keep 83 = .ok (.lload 4, 2) := by decide +kernel
theorem d_Q_keep_85 : decode b_Q_keep 85 = .ok (.lastore, 1) := by decide +kernel
theorem d_Q_keep_86 : decode b_Q_keep 86 = .ok (.aload_n 0, 1) := by decide +kernel
theorem d_Q_keep_87 : decode b_Q_keep 87 = .ok (.getfield 55, 3) := by decide +kernel
theorem d_Q_keep_90 : decode b_Q_keep 90 = .ok (.aload_n 0, 1) := by decide +kernel
theorem d_Q_keep_91 : decode b_Q_keep 91 = .ok (.getfield 95, 3) := by decide +kernel
theorem d_Q_keep_94 : decode b_Q_keep 94 = .ok (.iload 6, 2) := by decide +kernel
theorem d_Q_keep_96 : decode b_Q_keep 96 = .ok (.iastore, 1) := by decide +kernel
theorem d_Q_keep_97 : decode b_Q_keep 97 = .ok (.aload_n 0, 1) := by decide +kernel
theorem d_Q_keep_98 : decode b_Q_keep 98 = .ok (.dup, 1) := by decide +kernel
theorem d_Q_keep_99 : decode b_Q_keep 99 = .ok (.getfield 95, 3) := by decide +kernel
theorem d_Q_keep_102 : decode b_Q_keep 102 = .ok (.iconst 1, 1) := by decide +kernel
theorem d_Q_keep_103 : decode b_Q_keep 103 = .ok (.iadd, 1) := by decide +kernel
theorem d_Q_keep_104 : decode b_Q_keep 104 = .ok (.putfield 95, 3) := by decide +kernel
theorem d_Q_keep_107 : decode b_Q_keep 107 = .ok (.return_, 1) := by decide +kernel
abbrev rm_Q_keep : Room := { frames := 1, cells := 0, slots := 0, locals := 22 }
def st_Q_keep_L12 (n : Nat) (v1 : Int32) (v2 : Int32) (v3 : Int32) (v4 : Int64) (v6 : Int32) (v7 : Int32) (S : ZQ) : Option ((Int32 × ZQ) ⊕ (Nat × Int32 × ZQ)) :=
  (if (100 : Int32) ≤ v7 then
  some (.inr (35, v7, S))
  else
  zbind1 (fx_Q_move n S v7 (v7 - (1 : Int32))) (fun S_3 =>
    some (.inl ((v7 + (1 : Int32)), S_3))))

def fx_Q_keep_L12 (n : Nat) (v1 : Int32) (v2 : Int32) (v3 : Int32) (v4 : Int64) (v6 : Int32) (v7 : Int32) (S : ZQ) : Option (Nat × Int32 × ZQ) := zloop (fun (st : Int32 × ZQ) => st_Q_keep_L12 n v1 v2 v3 v4 v6 st.1 st.2) n (v7, S)

def jx_Q_keep_45 (n : Nat) (v1 : Int32) (v2 : Int32) (v3 : Int32) (v4 : Int64) (v6 : Int32) (S : ZQ) : Option (ZQ) :=
  (if zoob (qKe S) 100 then none else
    zlet (qKt' S (upd (qKt S) (qKe S).toNatClampNeg v1)) (fun S_7 =>
    (if zoob (qKe S_7) 100 then none else
    zlet (qKn' S_7 (upd (qKn S_7) (qKe S_7).toNatClampNeg v2)) (fun S_9 =>
    (if zoob (qKe S_9) 100 then none else
    zlet (qKm' S_9 (upd (qKm S_9) (qKe S_9).toNatClampNeg v3)) (fun S_11 =>
    (if zoob (qKe S_11) 100 then none else
    zlet (qKc' S_11 (vp_updL (qKc S_11) (qKe S_11).toNatClampNeg v4)) (fun S_13 =>
    (if zoob (qKe S_13) 100 then none else
    zlet (qKa' S_13 (upd (qKa S_13) (qKe S_13).toNatClampNeg v6)) (fun S_15 =>
    zlet (qKe' S_15 ((qKe S_15) + (1 : Int32))) (fun S_16 =>
    some S_16)))))))))))

def fx_Q_keep (n : Nat) (S : ZQ) (a1 : Int32) (a2 : Int32) (a3 : Int32) (a4 : Int64) (a6 : Int32) : Option (ZQ) :=
  (if (qKe S) = (100 : Int32) then
  zbL2 (fx_Q_keep_L12 n a1 a2 a3 a4 a6 (1 : Int32) S) (fun x_4 v7_4 S_4 =>
    if x_4 = 35 then
    zlet (qKe' S_4 ((qKe S_4) - (1 : Int32))) (fun S_5 =>
    jx_Q_keep_45 n a1 a2 a3 a4 a6 S_5)
    else none)
  else
  jx_Q_keep_45 n a1 a2 a3 a4 a6 S)

set_option maxRecDepth 100000 in
set_option maxHeartbeats 4000000 in
theorem lp_Q_keep_L12 {z : zE} {B : Nat → Nat} {Rr : va_W} {p : Program} {l : Launch} {e : Env} {s : State} {m : MethodId} {args : Array Value} {below : List Frame} {meth : Method} {c : Code} {Q : State → Prop} {H0 : Heap} {A0 : Nat → Prop} (hM : zM z p s m args c b_Q_keep 8 R_Q) (hA : ∀ q : Nat, H0.size ≤ q → A0 q) (n : Nat) (v1 : Int32) (v2 : Int32) (v3 : Int32) (v4 : Int64) (v6 : Int32) :
    ∀ (v7 : Int32) (S : ZQ) (r : Nat × Int32 × ZQ), fx_Q_keep_L12 n v1 v2 v3 v4 v6 v7 S = some r → (∀ (H : Heap) (locs : List Loc) (ls : Array Slot), va_P z.1 vwCl (qw z B r.2.2 ++ Rr) H → va_D A0 (qw z B r.2.2 ++ Rr) → va_S A0 H0 H locs → lv_has ls 8 [(0, .ref (B 0)), (1, .int v1), (2, .int v2), (3, .int v3), (4, .long v4), (6, .int v6), (7, .int r.2.1)] → W p l e rm_Q_keep s m args below meth c H locs 0 0 Q (F0 m r.1 ls [])) →
    ∀ (H : Heap) (locs : List Loc) (ls : Array Slot), va_P z.1 vwCl (qw z B S ++ Rr) H → va_D A0 (qw z B S ++ Rr) → va_S A0 H0 H locs → lv_has ls 8 [(0, .ref (B 0)), (1, .int v1), (2, .int v2), (3, .int v3), (4, .long v4), (6, .int v6), (7, .int v7)] → W p l e rm_Q_keep s m args below meth c H locs 0 0 Q (F0 m 12 ls []) := by
  obtain ⟨hx, hb, hml, hown, hts, hK, hN⟩ := id hM
  intro v7 S r h hE
  refine zz_loop (G := fun (st : Int32 × ZQ) => ∀ (H : Heap) (locs : List Loc) (ls : Array Slot), va_P z.1 vwCl (qw z B st.2 ++ Rr) H → va_D A0 (qw z B st.2 ++ Rr) → va_S A0 H0 H locs → lv_has ls 8 [(0, .ref (B 0)), (1, .int v1), (2, .int v2), (3, .int v3), (4, .long v4), (6, .int v6), (7, .int st.1)] → W p l e rm_Q_keep s m args below meth c H locs 0 0 Q (F0 m 12 ls [])) (E := fun (r : Nat × Int32 × ZQ) => ∀ (H : Heap) (locs : List Loc) (ls : Array Slot), va_P z.1 vwCl (qw z B r.2.2 ++ Rr) H → va_D A0 (qw z B r.2.2 ++ Rr) → va_S A0 H0 H locs → lv_has ls 8 [(0, .ref (B 0)), (1, .int v1), (2, .int v2), (3, .int v3), (4, .long v4), (6, .int v6), (7, .int r.2.1)] → W p l e rm_Q_keep s m args below meth c H locs 0 0 Q (F0 m r.1 ls [])) ?_ n (v7, S) r h hE
  clear h hE r v7 S
  rintro ⟨v7, S⟩ o h hG hE H locs ls hP hD hS hl
  have h : st_Q_keep_L12 n v1 v2 v3 v4 v6 v7 S = some o := h
  have hl : lv_has ls 8 [(0, .ref (B 0)), (1, .int v1), (2, .int v2), (3, .int v3), (4, .long v4), (6, .int v6), (7, .int v7)] := hl
  have hP : va_P z.1 vwCl (qw z B S ++ Rr) H := hP
  have hD : va_D A0 (qw z B S ++ Rr) := hD
  unfold st_Q_keep_L12 at h
  refine lv_iload hx hb d_Q_keep_12 (lv_at hl 6 rfl) ?_
  refine lv_bipush (v := 100) hx hb d_Q_keep_14 (by decide) ?_
  refine lv_icmp_ge (tgt := 35) hx hb d_Q_keep_16 (by decide) (fun c_2 => ?_) (fun c_2 => ?_)
  · replace h := zz_t c_2 h
    exact hE _ (Option.some.inj h).symm _ _ _ hP hD hS hl
  · replace h := zz_f c_2 h
    refine lv_aload_n hx hb d_Q_keep_19 rfl (lv_at hl 0 rfl) ?_
    refine lv_iload hx hb d_Q_keep_20 (lv_at hl 6 rfl) ?_
    refine lv_iload hx hb d_Q_keep_22 (lv_at hl 6 rfl) ?_
    refine lv_iconst (v := 1) hx hb d_Q_keep_24 (by decide) ?_
    refine lv_isub hx hb d_Q_keep_25 ?_
    obtain ⟨S_3, e_3, h⟩ := zz_bind1 h
    refine zz_goV (zz_runV (As := [.int v7, .int (v7 - (1 : Int32))]) (rest := []) (k_Q_move l z B Rr n _ _ _ _ e_3) ⟨hx, hb, hml, hown, hts⟩ (cwV 2 hts (zz_gV wq_688 wq_690 wp_24 wq_6 wq_691) rfl rfl rfl (by decide +kernel) ⟨Nat.le_of_ble_eq_true rfl, Nat.le_of_ble_eq_true rfl⟩) hK hN hP hD (va_recv hK hP (ci := 5) (q0 := 0) rfl rfl) rfl hl.1 rfl (Nat.le_of_ble_eq_true rfl) d_Q_keep_26 ⟨Nat.le_of_ble_eq_true rfl, Nat.le_of_ble_eq_true rfl⟩) hD hS hA (fun H locs hP hD hS => ?_)
    refine lv_iinc (v := (v7 + (1 : Int32))) (lv' := [(7, .int (v7 + (1 : Int32))), (0, .ref (B 0)), (1, .int v1), (2, .int v2), (3, .int v3), (4, .long v4), (6, .int v6)]) hx hb d_Q_keep_29 hl (k := 6) rfl rfl (by decide) rfl (fun ls hl => ?_)
    refine lv_goto (tgt := 12) hx hb d_Q_keep_32 (by decide) ?_
    exact hG _ (Option.some.inj h).symm _ _ _ hP hD hS (lv_sub hl [1, 2, 3, 4, 5, 6, 0] rfl)

set_option maxRecDepth 100000 in
set_option maxHeartbeats 4000000 in
theorem k_Q_keep (l : Launch) (z : zE) (B : Nat → Nat) (Rr : va_W) (n : Nat) (S : ZQ) (a1 : Int32) (a2 : Int32) (a3 : Int32) (a4 : Int64) (a6 : Int32) (S' : ZQ) (h : fx_Q_keep n S a1 a2 a3 a4 a6 = some S') : zC z l y_Q_keep w_Q_keep rm_Q_keep [.ref (B 0), .int a1, .int a2, .int a3, .long a4, .int a6] (qw z B S ++ Rr) none (qw z B S' ++ Rr) := by
  refine zz_of (by decide) (Nat.le_of_ble_eq_true rfl) ?_
  intro p e s m args below meth c A0 ls hM hr hlocks hA hP hD hl
  have hM : zM z p s m args c b_Q_keep 8 R_Q := hM
  obtain ⟨hx, hb, hml, hown, hts, hK, hN⟩ := id hM
  have hS : va_S A0 s.heap s.heap [] := va_S.rf
  have hl : lv_has ls 8 [(0, .ref (B 0)), (1, .int a1), (2, .int a2), (3, .int a3), (4, .long a4), (6, .int a6)] := hl
  have J45 : ∀ (v1 : Int32) (v2 : Int32) (v3 : Int32) (v4 : Int64) (v6 : Int32) (S : ZQ), jx_Q_keep_45 n v1 v2 v3 v4 v6 S = some S' → ∀ (H : Heap) (locs : List Loc) (ls : Array Slot), va_P z.1 vwCl (qw z B S ++ Rr) H → va_D A0 (qw z B S ++ Rr) → va_S A0 s.heap H locs → lv_has ls 8 [(0, .ref (B 0)), (1, .int v1), (2, .int v2), (3, .int v3), (4, .long v4), (6, .int v6)] → W p l e rm_Q_keep s m args below meth c H locs 0 0 (zQ z below args s A0 none (qw z B S' ++ Rr)) (F0 m 45 ls []) := by
    intro v1 v2 v3 v4 v6 S h H locs ls hP hD hS hl
    unfold jx_Q_keep_45 at h
    refine lv_aload_n hx hb d_Q_keep_45 rfl (lv_at hl 0 rfl) ?_
    refine va_get (D := z.1) (ci := 5) (v := .ref (B 10)) (C := R_Q) (T := F_Q) (N := 28) hx hb hts i_Q hown hK hP 0 rfl rfl 13 (by decide) (hts _ wq_564) (fun _ h9 => h9) rfl d_Q_keep_46 ?_
    refine lv_aload_n hx hb d_Q_keep_49 rfl (lv_at hl 0 rfl) ?_
    refine va_get (D := z.1) (ci := 5) (v := .int (qKe S)) (C := R_Q) (T := F_Q) (N := 28) hx hb hts i_Q hown hK hP 0 rfl rfl 12 (by decide) (hts _ wq_563) (fun _ h9 => h9) rfl d_Q_keep_50 ?_
    refine lv_iload_n hx hb d_Q_keep_53 rfl (lv_at hl 1 rfl) ?_
    obtain ⟨c_6, h⟩ := zz_oob h
    obtain ⟨S_7, e_7, h⟩ := zz_let h
    refine va_iast hx hb hK hP hD hS 10 0 rfl rfl c_6 d_Q_keep_54 (fun H locs hP hD hS => ?_)
    have hP : va_P z.1 vwCl (qw z B S_7 ++ Rr) H := by rw [e_7]; exact hP
    have hD : va_D A0 (qw z B S_7 ++ Rr) := by rw [e_7]; exact hD
    refine lv_aload_n hx hb d_Q_keep_55 rfl (lv_at hl 0 rfl) ?_
    refine va_get (D := z.1) (ci := 5) (v := .ref (B 11)) (C := R_Q) (T := F_Q) (N := 28) hx hb hts i_Q hown hK hP 0 rfl rfl 14 (by decide) (hts _ wq_565) (fun _ h9 => h9) rfl d_Q_keep_56 ?_
    refine lv_aload_n hx hb d_Q_keep_59 rfl (lv_at hl 0 rfl) ?_
    refine va_get (D := z.1) (ci := 5) (v := .int (qKe S_7)) (C := R_Q) (T := F_Q) (N := 28) hx hb hts i_Q hown hK hP 0 rfl rfl 12 (by decide) (hts _ wq_563) (fun _ h9 => h9) rfl d_Q_keep_60 ?_
    refine lv_iload_n hx hb d_Q_keep_63 rfl (lv_at hl 2 rfl) ?_
    obtain ⟨c_8, h⟩ := zz_oob h
    obtain ⟨S_9, e_9, h⟩ := zz_let h
    refine va_iast hx hb hK hP hD hS 11 0 rfl rfl c_8 d_Q_keep_64 (fun H locs hP hD hS => ?_)
    have hP : va_P z.1 vwCl (qw z B S_9 ++ Rr) H := by rw [e_9]; exact hP
    have hD : va_D A0 (qw z B S_9 ++ Rr) := by rw [e_9]; exact hD
    refine lv_aload_n hx hb d_Q_keep_65 rfl (lv_at hl 0 rfl) ?_
    refine va_get (D := z.1) (ci := 5) (v := .ref (B 12)) (C := R_Q) (T := F_Q) (N := 28) hx hb hts i_Q hown hK hP 0 rfl rfl 15 (by decide) (hts _ wq_566) (fun _ h9 => h9) rfl d_Q_keep_66 ?_
    refine lv_aload_n hx hb d_Q_keep_69 rfl (lv_at hl 0 rfl) ?_
    refine va_get (D := z.1) (ci := 5) (v := .int (qKe S_9)) (C := R_Q) (T := F_Q) (N := 28) hx hb hts i_Q hown hK hP 0 rfl rfl 12 (by decide) (hts _ wq_563) (fun _ h9 => h9) rfl d_Q_keep_70 ?_
    refine lv_iload_n hx hb d_Q_keep_73 rfl (lv_at hl 3 rfl) ?_
    obtain ⟨c_10, h⟩ := zz_oob h
    obtain ⟨S_11, e_11, h⟩ := zz_let h
    refine va_iast hx hb hK hP hD hS 12 0 rfl rfl c_10 d_Q_keep_74 (fun H locs hP hD hS => ?_)
    have hP : va_P z.1 vwCl (qw z B S_11 ++ Rr) H := by rw [e_11]; exact hP
    have hD : va_D A0 (qw z B S_11 ++ Rr) := by rw [e_11]; exact hD
    refine lv_aload_n hx hb d_Q_keep_75 rfl (lv_at hl 0 rfl) ?_
    refine va_get (D := z.1) (ci := 5) (v := .ref (B 13)) (C := R_Q) (T := F_Q) (N := 28) hx hb hts i_Q hown hK hP 0 rfl rfl 16 (by decide) (hts _ wq_567) (fun _ h9 => h9) rfl d_Q_keep_76 ?_
    refine lv_aload_n hx hb d_Q_keep_79 rfl (lv_at hl 0 rfl) ?_
    refine va_get (D := z.1) (ci := 5) (v := .int (qKe S_11)) (C := R_Q) (T := F_Q) (N := 28) hx hb hts i_Q hown hK hP 0 rfl rfl 12 (by decide) (hts _ wq_563) (fun _ h9 => h9) rfl d_Q_keep_80 ?_
    refine lv_lload hx hb d_Q_keep_83 (lv_at hl 4 rfl) ?_
    obtain ⟨c_12, h⟩ := zz_oob h
    obtain ⟨S_13, e_13, h⟩ := zz_let h
    refine va_last hx hb hK hP hD hS 13 2 rfl rfl c_12 d_Q_keep_85 (fun H locs hP hD hS => ?_)
    have hP : va_P z.1 vwCl (qw z B S_13 ++ Rr) H := by rw [e_13]; exact hP
    have hD : va_D A0 (qw z B S_13 ++ Rr) := by rw [e_13]; exact hD
    refine lv_aload_n hx hb d_Q_keep_86 rfl (lv_at hl 0 rfl) ?_
    refine va_get (D := z.1) (ci := 5) (v := .ref (B 14)) (C := R_Q) (T := F_Q) (N := 28) hx hb hts i_Q hown hK hP 0 rfl rfl 17 (by decide) (hts _ wq_568) (fun _ h9 => h9) rfl d_Q_keep_87 ?_
    refine lv_aload_n hx hb d_Q_keep_90 rfl (lv_at hl 0 rfl) ?_
    refine va_get (D := z.1) (ci := 5) (v := .int (qKe S_13)) (C := R_Q) (T := F_Q) (N := 28) hx hb hts i_Q hown hK hP 0 rfl rfl 12 (by decide) (hts _ wq_563) (fun _ h9 => h9) rfl d_Q_keep_91 ?_
    refine lv_iload hx hb d_Q_keep_94 (lv_at hl 5 rfl) ?_
    obtain ⟨c_14, h⟩ := zz_oob h
    obtain ⟨S_15, e_15, h⟩ := zz_let h
    refine va_iast hx hb hK hP hD hS 14 0 rfl rfl c_14 d_Q_keep_96 (fun H locs hP hD hS => ?_)
    have hP : va_P z.1 vwCl (qw z B S_15 ++ Rr) H := by rw [e_15]; exact hP
    have hD : va_D A0 (qw z B S_15 ++ Rr) := by rw [e_15]; exact hD
    refine lv_aload_n hx hb d_Q_keep_97 rfl (lv_at hl 0 rfl) ?_
    refine lv_dup hx hb d_Q_keep_98 rfl ?_
    refine va_get (D := z.1) (ci := 5) (v := .int (qKe S_15)) (C := R_Q) (T := F_Q) (N := 28) hx hb hts i_Q hown hK hP 0 rfl rfl 12 (by decide) (hts _ wq_563) (fun _ h9 => h9) rfl d_Q_keep_99 ?_
    refine lv_iconst (v := 1) hx hb d_Q_keep_102 (by decide) ?_
    refine lv_iadd hx hb d_Q_keep_103 ?_
    obtain ⟨S_16, e_16, h⟩ := zz_let h
    refine va_put (D := z.1) (ci := 5) (v := .int ((qKe S_15) + (1 : Int32))) (ty := .int) (C := R_Q) (T := F_Q) (N := 28) hx hb hts i_Q ty_Q ty_Q_ok n_Q hown hK hP hD hS 0 rfl rfl 12 (by decide) (hts _ wq_563) (fun _ h9 => h9) rfl (by decide +kernel) rfl rfl (Nat.le_of_ble_eq_true rfl) d_Q_keep_104 (fun H locs hP hD hS => ?_)
    have hP : va_P z.1 vwCl (qw z B S_16 ++ Rr) H := by rw [e_16]; exact hP
    have hD : va_D A0 (qw z B S_16 ++ Rr) := by rw [e_16]; exact hD
    exact zz_vret (fun S => qw z B S ++ Rr) hx hb hr hlocks hP hD hS h d_Q_keep_107
  unfold fx_Q_keep at h
  refine lv_aload_n hx hb d_Q_keep_0 rfl (lv_at hl 0 rfl) ?_
  refine va_get (D := z.1) (ci := 5) (v := .int (qKe S)) (C := R_Q) (T := F_Q) (N := 28) hx hb hts i_Q hown hK hP 0 rfl rfl 12 (by decide) (hts _ wq_563) (fun _ h9 => h9) rfl d_Q_keep_1 ?_
  refine lv_bipush (v := 100) hx hb d_Q_keep_4 (by decide) ?_
  refine lv_icmp_ne (tgt := 45) hx hb d_Q_keep_6 (by decide) (fun c_1 => ?_) (fun c_1 => ?_)
  · replace h := zz_f c_1 h
    exact J45 _ _ _ _ _ _ h _ _ _ hP hD hS hl
  · replace h := zz_t c_1 h
    refine lv_iconst (v := 1) hx hb d_Q_keep_9 (by decide) ?_
    refine lv_istore (lv' := [(7, .int (1 : Int32)), (0, .ref (B 0)), (1, .int a1), (2, .int a2), (3, .int a3), (4, .long a4), (6, .int a6)]) hx hb d_Q_keep_10 hl (by decide) rfl (fun ls hl => ?_)
    replace h := zz_bL2 h
    obtain ⟨x_4, v7_4, S_4, e_4, h⟩ := h
    refine lp_Q_keep_L12 hM hA n a1 a2 a3 a4 a6 _ _ _ e_4 ?_ _ _ _ hP hD hS (lv_sub hl [1, 2, 3, 4, 5, 6, 0] rfl)
    intro H locs ls hP hD hS hl
    have hl : lv_has ls 8 [(0, .ref (B 0)), (1, .int a1), (2, .int a2), (3, .int a3), (4, .long a4), (6, .int a6), (7, .int v7_4)] := hl
    have hP : va_P z.1 vwCl (qw z B S_4 ++ Rr) H := hP
    have hD : va_D A0 (qw z B S_4 ++ Rr) := hD
    replace h := zz_grd h
    obtain ⟨c_4, h⟩ := h
    subst c_4
    refine W.eq (g2 := F0 m 35 ls []) rfl ?_
    refine lv_aload_n hx hb d_Q_keep_35 rfl (lv_at hl 0 rfl) ?_
    refine lv_dup hx hb d_Q_keep_36 rfl ?_
    refine va_get (D := z.1) (ci := 5) (v := .int (qKe S_4)) (C := R_Q) (T := F_Q) (N := 28) hx hb hts i_Q hown hK hP 0 rfl rfl 12 (by decide) (hts _ wq_563) (fun _ h9 => h9) rfl d_Q_keep_37 ?_
    refine lv_iconst (v := 1) hx hb d_Q_keep_40 (by decide) ?_
    refine lv_isub hx hb d_Q_keep_41 ?_
    obtain ⟨S_5, e_5, h⟩ := zz_let h
    refine va_put (D := z.1) (ci := 5) (v := .int ((qKe S_4) - (1 : Int32))) (ty := .int) (C := R_Q) (T := F_Q) (N := 28) hx hb hts i_Q ty_Q ty_Q_ok n_Q hown hK hP hD hS 0 rfl rfl 12 (by decide) (hts _ wq_563) (fun _ h9 => h9) rfl (by decide +kernel) rfl rfl (Nat.le_of_ble_eq_true rfl) d_Q_keep_42 (fun H locs hP hD hS => ?_)
    have hP : va_P z.1 vwCl (qw z B S_5 ++ Rr) H := by rw [e_5]; exact hP
    have hD : va_D A0 (qw z B S_5 ++ Rr) := by rw [e_5]; exact hD
    exact J45 _ _ _ _ _ _ h _ _ _ hP hD hS (lv_sub hl [0, 1, 2, 3, 4, 5] rfl)

abbrev b_Q_call : ByteArray := prog_7_method_27_code
abbrev y_Q_call : MethodName := ⟨"MemberChooserModel", "call", "(IIIJ)I"⟩
abbrev w_Q_call : List Cond := Cond.code y_Q_call b_Q_call 12 (some .int) :: zTb
theorem d_Q_call_0 : decode b_Q_call 0 = .ok (.aload_n 0, 1) := by decide +kernel
theorem d_Q_call_1 : decode b_Q_call 1 = .ok (.iload_n 1, 1) := by decide +kernel
theorem d_Q_call_2 : decode b_Q_call 2 = .ok (.invokevirtual 76, 3) := by decide +kernel
theorem d_Q_call_5 : decode b_Q_call 5 = .ok (.ifCond .eq 27, 3) := by decide +kernel
theorem d_Q_call_8 : decode b_Q_call 8 = .ok (.iload_n 2, 1) := by decide +kernel
theorem d_Q_call_9 : decode b_Q_call 9 = .ok (.ifCond .lt 23, 3) := by decide +kernel
theorem d_Q_call_12 : decode b_Q_call 12 = .ok (.iload_n 2, 1) := by decide +kernel
theorem d_Q_call_13 : decode b_Q_call 13 = .ok (.bipush 10, 2) := by decide +kernel
theorem d_Q_call_15 : decode b_Q_call 15 = .ok (.if_icmp .ge 17, 3) := by decide +kernel
theorem d_Q_call_18 : decode b_Q_call 18 = .ok (.iload_n 3, 1) := by decide +kernel
theorem d_Q_call_19 : decode b_Q_call 19 = .ok (.ifCond .lt 13, 3) := by decide +kernel
theorem d_Q_call_22 : decode b_Q_call 22 = .ok (.iload_n 3, 1) := by decide +kernel
theorem d_Q_call_23 : decode b_Q_call 23 = .ok (.bipush 7, 2) := by decide +kernel
theorem d_Q_call_25 : decode b_Q_call 25 = .ok (.if_icmp .ge 7, 3) := by decide +kernel
theorem d_Q_call_28 : decode b_Q_call 28 = .ok (.iconst 1, 1) := by decide +kernel
theorem d_Q_call_29 : decode b_Q_call 29 = .ok (.goto 4, 3) := by decide +kernel
theorem d_Q_call_32 : decode b_Q_call 32 = .ok (.iconst 0, 1) := by decide +kernel
theorem d_Q_call_33 : decode b_Q_call 33 = .ok (.istore 6, 2) := by decide +kernel
theorem d_Q_call_35 : decode b_Q_call 35 = .ok (.iconst 0, 1) := by decide +kernel
theorem d_Q_call_36 : decode b_Q_call 36 = .ok (.istore 7, 2) := by decide +kernel
theorem d_Q_call_38 : decode b_Q_call 38 = .ok (.iload 7, 2) := by decide +kernel
theorem d_Q_call_40 : decode b_Q_call 40 = .ok (.iload_n 3, 1) := by decide +kernel
theorem d_Q_call_41 : decode b_Q_call 41 = .ok (.if_icmp .ge 73, 3) := by decide +kernel
theorem d_Q_call_44 : decode b_Q_call 44 = .ok (.iload 6, 2) := by decide +kernel
theorem d_Q_call_46 : decode b_Q_call 46 = .ok (.ifCond .eq 68, 3) := by decide +kernel
theorem d_Q_call_49 : decode b_Q_call 49 = .ok (.aload_n 0, 1) := by decide +kernel
theorem d_Q_call_50 : decode b_Q_call 50 = .ok (.getfield 64, 3) := by decide +kernel
theorem d_Q_call_53 : decode b_Q_call 53 = .ok (.iload 7, 2) := by decide +kernel
theorem d_Q_call_55 : decode b_Q_call 55 = .ok (.lload 4, 2) := by decide +kernel
theorem d_Q_call_57 : decode b_Q_call 57 = .ok (.iload 7, 2) := by decide +kernel
theorem d_Q_call_59 : decode b_Q_call 59 = .ok (.invokestatic 100, 3) := by decide +kernel
theorem d_Q_call_62 : decode b_Q_call 62 = .ok (.iastore, 1) := by decide +kernel
theorem d_Q_call_63 : decode b_Q_call 63 = .ok (.aload_n 0, 1) := by decide +kernel
theorem d_Q_call_64 : decode b_Q_call 64 = .ok (.getfield 64, 3) := by decide +kernel
theorem d_Q_call_67 : decode b_Q_call 67 = .ok (.iload 7, 2) := by decide +kernel
theorem d_Q_call_69 : decode b_Q_call 69 = .ok (.iaload, 1) := by decide +kernel
theorem d_Q_call_70 : decode b_Q_call 70 = .ok (.sipush 255, 3) := by decide +kernel
theorem d_Q_call_73 : decode b_Q_call 73 = .ok (.if_icmp .eq 28, 3) := by decide +kernel
theorem d_Q_call_76 : decode b_Q_call 76 = .ok (.aload_n 0, 1) := by decide +kernel
theorem d_Q_call_77 : decode b_Q_call 77 = .ok (.getfield 64, 3) := by decide +kernel
theorem d_Q_call_80 : decode b_Q_call 80 = .ok (.iload 7, 2) := by decide +kernel
theorem d_Q_call_82 : decode b_Q_call 82 = .ok (.iaload, 1) := by decide +kernel
theorem d_Q_call_83 : decode b_Q_call 83 = .ok (.iconst 2, 1) := by decide +kernel
theorem d_Q_call_84 : decode b_Q_call 84 = .ok (.if_icmp .le 21, 3) := by decide +kernel
theorem d_Q_call_87 : decode b_Q_call 87 = .ok (.aload_n 0, 1) := by decide +kernel
theorem d_Q_call_88 : decode b_Q_call 88 = .ok (.getfield 64, 3) := by decide +kernel
theorem d_Q_call_91 : decode b_Q_call 91 = .ok (.iload 7, 2) := by decide +kernel
theorem d_Q_call_93 : decode b_Q_call 93 = .ok (.iaload, 1) := by decide +kernel
theorem d_Q_call_94 : decode b_Q_call 94 = .ok (.aload_n 0, 1) := by decide +kernel
theorem d_Q_call_95 : decode b_Q_call 95 = .ok (.getfield 9, 3) := by decide +kernel
theorem d_Q_call_98 : decode b_Q_call 98 = .ok (.if_icmp .ge 7, 3) := by decide +kernel
theorem d_Q_call_101 : decode b_Q_call 101 = .ok (.iconst 1, 1) := by decide +kernel
theorem d_Q_call_102 : decode b_Q_call 102 = .ok (.goto 4, 3) := by decide +kernel
theorem d_Q_call_105 : decode b_Q_call 105 = .ok (.iconst 0, 1) := by decide +kernel
theorem d_Q_call_106 : decode b_Q_call 106 = .ok (.istore 6, 2) := by decide +kernel
theorem d_Q_call_108 : decode b_Q_call 108 = .ok (.iinc 7 1, 3) := by decide +kernel
theorem d_Q_call_111 : decode b_Q_call 111 = .ok (.goto (-73), 3) := by decide +kernel
theorem d_Q_call_114 : decode b_Q_call 114 = .ok (.aload_n 0, 1) := by decide +kernel
theorem d_Q_call_115 : decode b_Q_call 115 = .ok (.iload 6, 2) := by decide +kernel
theorem d_Q_call_117 : decode b_Q_call 117 = .ok (.ifCond .eq 7, 3) := by decide +kernel
theorem d_Q_call_120 : decode b_Q_call 120 = .ok (.iconst 0, 1) := by decide +kernel
theorem d_Q_call_121 : decode b_Q_call 121 = .ok (.goto 4, 3) := by decide +kernel
theorem d_Q_call_124 : decode b_Q_call 124 = .ok (.iconst 1, 1) := by decide +kernel
theorem d_Q_call_125 : decode b_Q_call 125 = .ok (.putfield 73, 3) := by decide +kernel
theorem d_Q_call_128 : decode b_Q_call 128 = .ok (.aload_n 0, 1) := by decide +kernel
theorem d_Q_call_129 : decode b_Q_call 129 = .ok (.getfield 73, 3) := by decide +kernel
theorem d_Q_call_132 : decode b_Q_call 132 = .ok (.ifCond .le 5, 3) := by decide +kernel
theorem d_Q_call_135 : decode b_Q_call 135 = .ok (.iconst 0, 1) := by decide +kernel
theorem d_Q_call_136 : decode b_Q_call 136 = .ok (.ireturn, 1) := by decide +kernel
theorem d_Q_call_137 : decode b_Q_call 137 = .ok (.iload_n 3, 1) := by decide +kernel
theorem d_Q_call_138 : decode b_Q_call 138 = .ok (.ifCond .ne 7, 3) := by decide +kernel
theorem d_Q_call_141 : decode b_Q_call 141 = .ok (.lconst 0, 1) := by decide +kernel
theorem d_Q_call_142 : decode b_Q_call 142 = .ok (.goto 14, 3) := by decide +kernel
theorem d_Q_call_145 : decode b_Q_call 145 = .ok (.lload 4, 2) := by decide +kernel
theorem d_Q_call_147 : decode b_Q_call 147 = .ok (.lconst 1, 1) := by decide +kernel
theorem d_Q_call_148 : decode b_Q_call 148 = .ok (.bipush 8, 2) := by decide +kernel
theorem d_Q_call_150 : decode b_Q_call 150 = .ok (.iload_n 3, 1) := by decide +kernel
theorem d_Q_call_151 : decode b_Q_call 151 = .ok (.imul, 1) := by decide +kernel
theorem d_Q_call_152 : decode b_Q_call 152 = .ok (.lshl, 1) := by decide +kernel
theorem d_Q_call_153 : decode b_Q_call 153 = .ok (.lconst 1, 1) := by decide +kernel
theorem d_Q_call_154 : decode b_Q_call 154 = .ok (.lsub, 1) := by decide +kernel
theorem d_Q_call_155 : decode b_Q_call 155 = .ok (.land, 1) := by decide +kernel
theorem d_Q_call_156 : decode b_Q_call 156 = .ok (.lstore 7, 2) := by decide +kernel
theorem d_Q_call_158 : decode b_Q_call 158 = .ok (.iconst 0, 1) := by decide +kernel
theorem d_Q_call_159 : decode b_Q_call 159 = .ok (.istore 9, 2) := by decide +kernel
theorem d_Q_call_161 : decode b_Q_call 161 = .ok (.iconst 0, 1) := by decide +kernel
theorem d_Q_call_162 : decode b_Q_call 162 = .ok (.istore 10, 2) := by decide +kernel
theorem d_Q_call_164 : decode b_Q_call 164 = .ok (.iconst 0, 1) := by decide +kernel
theorem d_Q_call_165 : decode b_Q_call 165 = .ok (.istore 11, 2) := by decide +kernel
theorem d_Q_call_167 : decode b_Q_call 167 = .ok (.iload 11, 2) := by decide +kernel
theorem d_Q_call_169 : decode b_Q_call 169 = .ok (.aload_n 0, 1) := by decide +kernel
theorem d_Q_call_170 : decode b_Q_call 170 = .ok (.getfield 95, 3) := by decide +kernel
theorem d_Q_call_173 : decode b_Q_call 173 = .ok (.if_icmp .ge 76, 3) := by decide +kernel
theorem d_Q_call_176 : decode b_Q_call 176 = .ok (.iload 10, 2) := by decide +kernel
theorem d_Q_call_178 : decode b_Q_call 178 = .ok (.ifCond .ne 71, 3) := by decide +kernel
theorem d_Q_call_181 : decode b_Q_call 181 = .ok (.aload_n 0, 1) := by decide +kernel
theorem d_Q_call_182 : decode b_Q_call 182 = .ok (.getfield 42, 3) := by decide +kernel
theorem d_Q_call_185 : decode b_Q_call 185 = .ok (.iload 11, 2) := by decide +kernel
theorem d_Q_call_187 : decode b_Q_call 187 = .ok (.iaload, 1) := by decide +kernel
theorem d_Q_call_188 : decode b_Q_call 188 = .ok (.iload_n 1, 1) := by decide +kernel
theorem d_Q_call_189 : decode b_Q_call 189 = .ok (.if_icmp .ne 42, 3) := by decide +kernel
theorem d_Q_call_192 : decode b_Q_call 192 = .ok (.aload_n 0, 1) := by decide +kernel
theorem d_Q_call_193 : decode b_Q_call 193 = .ok (.getfield 45, 3) := by decide +kernel
theorem d_Q_call_196 : decode b_Q_call 196 = .ok (.iload 11, 2) := by decide +kernel
theorem d_Q_call_198 : decode b_Q_call 198 = .ok (.iaload, 1) := by decide +kernel
theorem d_Q_call_199 : decode b_Q_call 199 = .ok (.iload_n 2, 1) := by decide +kernel
theorem d_Q_call_200 : decode b_Q_call 200 = .ok (.if_icmp .ne 31, 3) := by decide +kernel
theorem d_Q_call_203 : decode b_Q_call 203 = .ok (.aload_n 0, 1) := by decide +kernel
theorem d_Q_call_204 : decode b_Q_call 204 = .ok (.getfield 48, 3) := by decide +kernel
theorem d_Q_call_207 : decode b_Q_call 207 = .ok (.iload 11, 2) := by decide +kernel
theorem d_Q_call_209 : decode b_Q_call 209 = .ok (.iaload, 1) := by decide +kernel
theorem d_Q_call_210 : decode b_Q_call 210 = .ok (.iload_n 3, 1) := by decide +kernel
theorem d_Q_call_211 : decode b_Q_call 211 = .ok (.if_icmp .ne 20, 3) := by decide +kernel
theorem d_Q_call_214 : decode b_Q_call 214 = .ok (.aload_n 0, 1) := by decide +kernel
theorem d_Q_call_215 : decode b_Q_call 215 = .ok (.getfield 51, 3) := by decide +kernel
theorem d_Q_call_218 : decode b_Q_call 218 = .ok (.iload 11, 2) := by decide +kernel
theorem d_Q_call_220 : decode b_Q_call 220 = .ok (.laload, 1) := by decide +kernel
theorem d_Q_call_221 : decode b_Q_call 221 = .ok (.lload 7, 2) := by decide +kernel
theorem d_Q_call_223 : decode b_Q_call 223 = .ok (.lcmp, 1) := by decide +kernel
theorem d_Q_call_224 : decode b_Q_call 224 = .ok (.ifCond .ne 7, 3) := by decide +kernel
theorem d_Q_call_227 : decode b_Q_call 227 = .ok (.iconst 1, 1) := by decide +kernel
theorem d_Q_call_228 : decode b_Q_call 228 = .ok (.goto 4, 3) := by decide +kernel
theorem d_Q_call_231 : decode b_Q_call 231 = .ok (.iconst 0, 1) := by decide +kernel
theorem d_Q_call_232 : decode b_Q_call 232 = .ok (.istore 10, 2) := by decide +kernel
theorem d_Q_call_234 : decode b_Q_call 234 = .ok (.aload_n 0, 1) := by decide +kernel
theorem d_Q_call_235 : decode b_Q_call 235 = .ok (.getfield 55, 3) := by decide +kernel
theorem d_Q_call_238 : decode b_Q_call 238 = .ok (.iload 11, 2) := by decide +kernel
theorem d_Q_call_240 : decode b_Q_call 240 = .ok (.iaload, 1) := by decide +kernel
theorem d_Q_call_241 : decode b_Q_call 241 = .ok (.istore 9, 2) := by decide +kernel
theorem d_Q_call_243 : decode b_Q_call 243 = .ok (.iinc 11 1, 3) := by decide +kernel
theorem d_Q_call_246 : decode b_Q_call 246 = .ok (.goto (-79), 3) := by decide +kernel
theorem d_Q_call_249 : decode b_Q_call 249 = .ok (.iload 10, 2) := by decide +kernel
theorem d_Q_call_251 : decode b_Q_call 251 = .ok (.ifCond .eq 16, 3) := by decide +kernel
theorem d_Q_call_254 : decode b_Q_call 254 = .ok (.aload_n 0, 1) := by decide +kernel
theorem d_Q_call_255 : decode b_Q_call 255 = .ok (.dup, 1) := by decide +kernel
theorem d_Q_call_256 : decode b_Q_call 256 = .ok (.getfield 153, 3) := by decide +kernel
theorem d_Q_call_259 : decode b_Q_call 259 = .ok (.iconst 1, 1) := by decide +kernel
theorem d_Q_call_260 : decode b_Q_call 260 = .ok (.iadd, 1) := by decide +kernel
theorem d_Q_call_261 : decode b_Q_call 261 = .ok (.putfield 153, 3) := by decide +kernel
theorem d_Q_call_264 : decode b_Q_call 264 = .ok (.goto 33, 3) := by decide +kernel
theorem d_Q_call_267 : decode b_Q_call 267 = .ok (.aload_n 0, 1) := by decide +kernel
theorem d_Q_call_268 : decode b_Q_call 268 = .ok (.iload_n 1, 1) := by decide +kernel
theorem d_Q_call_269 : decode b_Q_call 269 = .ok (.iload_n 2, 1) := by decide +kernel
theorem d_Q_call_270 : decode b_Q_call 270 = .ok (.iload_n 3, 1) := by decide +kernel
theorem d_Q_call_271 : decode b_Q_call 271 = .ok (.invokevirtual 156, 3) := by decide +kernel
theorem d_Q_call_274 : decode b_Q_call 274 = .ok (.istore 9, 2) := by decide +kernel
theorem d_Q_call_276 : decode b_Q_call 276 = .ok (.aload_n 0, 1) := by decide +kernel
theorem d_Q_call_277 : decode b_Q_call 277 = .ok (.dup, 1) := by decide +kernel
theorem d_Q_call_278 : decode b_Q_call 278 = .ok (.getfield 160, 3) := by decide +kernel
theorem d_Q_call_281 : decode b_Q_call 281 = .ok (.iconst 1, 1) := by decide +kernel
theorem d_Q_call_282 : decode b_Q_call 282 = .ok (.iadd, 1) := by decide +kernel
theorem d_Q_call_283 : decode b_Q_call 283 = .ok (.putfield 160, 3) := by decide +kernel
theorem d_Q_call_286 : decode b_Q_call 286 = .ok (.aload_n 0, 1) := by decide +kernel
theorem d_Q_call_287 : decode b_Q_call 287 = .ok (.iload_n 1, 1) := by decide +kernel
theorem d_Q_call_288 : decode b_Q_call 288 = .ok (.iload_n 2, 1) := by decide +kernel
theorem d_Q_call_289 : decode b_Q_call 289 = .ok (.iload_n 3, 1) := by decide +kernel
theorem d_Q_call_290 : decode b_Q_call 290 = .ok (.lload 7, 2) := by decide +kernel
theorem d_Q_call_292 : decode b_Q_call 292 = .ok (.iload 9, 2) := by decide +kernel
theorem d_Q_call_294 : decode b_Q_call 294 = .ok (.invokevirtual 163, 3) := by decide +kernel
theorem d_Q_call_297 : decode b_Q_call 297 = .ok (.aload_n 0, 1) := by decide +kernel
theorem d_Q_call_298 : decode b_Q_call 298 = .ok (.iload 9, 2) := by decide +kernel
theorem d_Q_call_300 : decode b_Q_call 300 = .ok (.bipush (-2), 2) := by decide +kernel
theorem d_Q_call_302 : decode b_Q_call 302 = .ok (.if_icmp .ne 7, 3) := by decide +kernel
theorem d_Q_call_305 : decode b_Q_call 305 = .ok (.iconst 2, 1) := by decide +kernel
theorem d_Q_call_306 : decode b_Q_call 306 = .ok (.goto 15, 3) := by decide +kernel
theorem d_Q_call_309 : decode b_Q_call 309 = .ok (.iload 9, 2) := by decide +kernel
theorem d_Q_call_311 : decode b_Q_call 311 = .ok (.bipush (-3), 2) := by decide +kernel
theorem d_Q_call_313 : decode b_Q_call 313 = .ok (.if_icmp .ne 7, 3) := by decide +kernel
theorem d_Q_call_316 : decode b_Q_call 316 = .ok (.iconst 3, 1) := by decide +kernel
theorem d_Q_call_317 : decode b_Q_call 317 = .ok (.goto 4, 3) := by decide +kernel
theorem d_Q_call_320 : decode b_Q_call 320 = .ok (.iconst 0, 1) := by decide +kernel
theorem d_Q_call_321 : decode b_Q_call 321 = .ok (.putfield 73, 3) := by decide +kernel
theorem d_Q_call_324 : decode b_Q_call 324 = .ok (.aload_n 0, 1) := by decide +kernel
theorem d_Q_call_325 : decode b_Q_call 325 = .ok (.getfield 73, 3) := by decide +kernel
theorem d_Q_call_328 : decode b_Q_call 328 = .ok (.ifCond .le 7, 3) := by decide +kernel
theorem d_Q_call_331 : decode b_Q_call 331 = .ok (.iconst 0, 1) := by decide +kernel
theorem d_Q_call_332 : decode b_Q_call 332 = .ok (.goto 5, 3) := by decide +kernel
theorem d_Q_call_335 : decode b_Q_call 335 = .ok (.iload 9, 2) := by decide +kernel
theorem d_Q_call_337 : decode b_Q_call 337 = .ok (.ireturn, 1) := by decide +kernel
abbrev rm_Q_call : Room := { frames := 5, cells := 0, slots := 0, locals := 124 }
def st_Q_call_L38 (n : Nat) (v1 : Int32) (v2 : Int32) (v3 : Int32) (v4 : Int64) (v6 : Int32) (v7 : Int32) (S : ZQ) : Option ((Int32 × Int32 × ZQ) ⊕ (Nat × Int32 × Int32 × ZQ)) :=
  (if v3 ≤ v7 then
  some (.inr (114, v6, v7, S))
  else
  (if v6 = 0 then
    some (.inr (114, v6, v7, S))
    else
    zbind1 (fx_Q_byteOf n v4 v7) (fun r_9 =>
      (if zoob v7 6 then none else
      zlet (qVl' S (upd (qVl S) v7.toNatClampNeg r_9)) (fun S_11 =>
      (if zoob v7 6 then none else
      (if ((qVl S_11) v7.toNatClampNeg) = (255 : Int32) then
      some (.inl ((1 : Int32), (v7 + (1 : Int32)), S_11))
      else
      (if zoob v7 6 then none else
        (if ((qVl S_11) v7.toNatClampNeg) ≤ (2 : Int32) then
        some (.inl ((0 : Int32), (v7 + (1 : Int32)), S_11))
        else
        (if zoob v7 6 then none else
          (if (qTy S_11) ≤ ((qVl S_11) v7.toNatClampNeg) then
          some (.inl ((0 : Int32), (v7 + (1 : Int32)), S_11))
          else
          some (.inl ((1 : Int32), (v7 + (1 : Int32)), S_11)))))))))))))

def fx_Q_call_L38 (n : Nat) (v1 : Int32) (v2 : Int32) (v3 : Int32) (v4 : Int64) (v6 : Int32) (v7 : Int32) (S : ZQ) : Option (Nat × Int32 × Int32 × ZQ) := zloop (fun (st : Int32 × Int32 × ZQ) => st_Q_call_L38 n v1 v2 v3 v4 st.1 st.2.1 st.2.2) n (v6, v7, S)

def jx_Q_call_L167_231 (n : Nat) (v1 : Int32) (v2 : Int32) (v3 : Int32) (v7 : Int64) (v11 : Int32) (S : ZQ) : Option ((Int32 × Int32 × Int32 × ZQ) ⊕ (Nat × Int32 × Int32 × Int32 × ZQ)) :=
  (if zoob v11 100 then none else
    some (.inl (((qKa S) v11.toNatClampNeg), (0 : Int32), (v11 + (1 : Int32)), S)))

def st_Q_call_L167 (n : Nat) (v1 : Int32) (v2 : Int32) (v3 : Int32) (v7 : Int64) (v9 : Int32) (v10 : Int32) (v11 : Int32) (S : ZQ) : Option ((Int32 × Int32 × Int32 × ZQ) ⊕ (Nat × Int32 × Int32 × Int32 × ZQ)) :=
  (if (qKe S) ≤ v11 then
  some (.inr (249, v9, v10, v11, S))
  else
  (if v10 = 0 then
    (if zoob v11 100 then none else
      (if ((qKt S) v11.toNatClampNeg) = v1 then
      (if zoob v11 100 then none else
        (if ((qKn S) v11.toNatClampNeg) = v2 then
        (if zoob v11 100 then none else
          (if ((qKm S) v11.toNatClampNeg) = v3 then
          (if zoob v11 100 then none else
            (if (lg_cmp ((qKc S) v11.toNatClampNeg) v7) = 0 then
            (if zoob v11 100 then none else
              some (.inl (((qKa S) v11.toNatClampNeg), (1 : Int32), (v11 + (1 : Int32)), S)))
            else
            jx_Q_call_L167_231 n v1 v2 v3 v7 v11 S))
          else
          jx_Q_call_L167_231 n v1 v2 v3 v7 v11 S))
        else
        jx_Q_call_L167_231 n v1 v2 v3 v7 v11 S))
      else
      jx_Q_call_L167_231 n v1 v2 v3 v7 v11 S))
    else
    some (.inr (249, v9, v10, v11, S))))

def fx_Q_call_L167 (n : Nat) (v1 : Int32) (v2 : Int32) (v3 : Int32) (v7 : Int64) (v9 : Int32) (v10 : Int32) (v11 : Int32) (S : ZQ) : Option (Nat × Int32 × Int32 × Int32 × ZQ) := zloop (fun (st : Int32 × Int32 × Int32 × ZQ) => st_Q_call_L167 n v1 v2 v3 v7 st.1 st.2.1 st.2.2.1 st.2.2.2) n (v9, v10, v11, S)

def jx_Q_call_297 (n : Nat) (v9 : Int32) (S : ZQ) : Option (Int32 × ZQ) :=
  (if v9 = (-2 : Int32) then
    zlet (qTh' S (2 : Int32)) (fun S_47 =>
      (if (qTh S_47) ≤ 0 then
      some (v9, S_47)
      else
      some ((0 : Int32), S_47)))
    else
    (if v9 = (-3 : Int32) then
      zlet (qTh' S (3 : Int32)) (fun S_45 =>
        (if (qTh S_45) ≤ 0 then
        some (v9, S_45)
        else
        some ((0 : Int32), S_45)))
      else
      zlet (qTh' S (0 : Int32)) (fun S_43 =>
        (if (qTh S_43) ≤ 0 then
        some (v9, S_43)
        else
        some ((0 : Int32), S_43)))))

def jx_Q_call_156 (n : Nat) (k0 : Int64) (v1 : Int32) (v2 : Int32) (v3 : Int32) (S : ZQ) : Option (Int32 × ZQ) :=
  zbL4 (fx_Q_call_L167 n v1 v2 v3 k0 (0 : Int32) (0 : Int32) (0 : Int32) S) (fun x_35 v9_35 v10_35 v11_35 S_35 =>
    if x_35 = 249 then
    (if v10_35 = 0 then
    zbind (fx_Q_workOut n S_35 v1 v2 v3) (fun r_37 S_37 =>
      zlet (qWo' S_37 ((qWo S_37) + (1 : Int32))) (fun S_38 =>
      zbind1 (fx_Q_keep n S_38 v1 v2 v3 k0 r_37) (fun S_39 =>
      jx_Q_call_297 n r_37 S_39)))
    else
    zlet (qHa' S_35 ((qHa S_35) + (1 : Int32))) (fun S_40 =>
      jx_Q_call_297 n v9_35 S_40))
    else none)

def jx_Q_call_125 (n : Nat) (k0 : Int32) (v1 : Int32) (v2 : Int32) (v3 : Int32) (v4 : Int64) (S : ZQ) : Option (Int32 × ZQ) :=
  zlet (qTh' S k0) (fun S_20 =>
    (if (qTh S_20) ≤ 0 then
    (if v3 = 0 then
      jx_Q_call_156 n (0 : Int64) v1 v2 v3 S_20
      else
      jx_Q_call_156 n (v4 &&& (((1 : Int64) <<< (((8 : Int32) * v3).toInt64 &&& 63)) - (1 : Int64))) v1 v2 v3 S_20)
    else
    some ((0 : Int32), S_20)))

def jx_Q_call_33 (n : Nat) (k0 : Int32) (v1 : Int32) (v2 : Int32) (v3 : Int32) (v4 : Int64) (S : ZQ) : Option (Int32 × ZQ) :=
  zbL3 (fx_Q_call_L38 n v1 v2 v3 v4 k0 (0 : Int32) S) (fun x_18 v6_18 v7_18 S_18 =>
    if x_18 = 114 then
    (if v6_18 = 0 then
    jx_Q_call_125 n (1 : Int32) v1 v2 v3 v4 S_18
    else
    jx_Q_call_125 n (0 : Int32) v1 v2 v3 v4 S_18)
    else none)

def jx_Q_call_32 (n : Nat) (v1 : Int32) (v2 : Int32) (v3 : Int32) (v4 : Int64) (S : ZQ) : Option (Int32 × ZQ) :=
  jx_Q_call_33 n (0 : Int32) v1 v2 v3 v4 S

def fx_Q_call (n : Nat) (S : ZQ) (a1 : Int32) (a2 : Int32) (a3 : Int32) (a4 : Int64) : Option (Int32 × ZQ) :=
  zbind (fx_Q_isOwn n S a1) (fun r_1 S_1 =>
  (if r_1 = 0 then
  jx_Q_call_32 n a1 a2 a3 a4 S_1
  else
  (if a2 < 0 then
    jx_Q_call_32 n a1 a2 a3 a4 S_1
    else
    (if (10 : Int32) ≤ a2 then
      jx_Q_call_32 n a1 a2 a3 a4 S_1
      else
      (if a3 < 0 then
        jx_Q_call_32 n a1 a2 a3 a4 S_1
        else
        (if (7 : Int32) ≤ a3 then
          jx_Q_call_32 n a1 a2 a3 a4 S_1
          else
          jx_Q_call_33 n (1 : Int32) a1 a2 a3 a4 S_1))))))

set_option maxRecDepth 100000 in
set_option maxHeartbeats 4000000 in
theorem lp_Q_call_L38 {z : zE} {B : Nat → Nat} {Rr : va_W} {p : Program} {l : Launch} {e : Env} {s : State} {m : MethodId} {args : Array Value} {below : List Frame} {meth : Method} {c : Code} {Q : State → Prop} {H0 : Heap} {A0 : Nat → Prop} (hM : zM z p s m args c b_Q_call 12 R_Q) (hA : ∀ q : Nat, H0.size ≤ q → A0 q) (n : Nat) (v1 : Int32) (v2 : Int32) (v3 : Int32) (v4 : Int64) :
    ∀ (v6 : Int32) (v7 : Int32) (S : ZQ) (r : Nat × Int32 × Int32 × ZQ), fx_Q_call_L38 n v1 v2 v3 v4 v6 v7 S = some r → (∀ (H : Heap) (locs : List Loc) (ls : Array Slot), va_P z.1 vwCl (qw z B r.2.2.2 ++ Rr) H → va_D A0 (qw z B r.2.2.2 ++ Rr) → va_S A0 H0 H locs → lv_has ls 12 [(0, .ref (B 0)), (1, .int v1), (2, .int v2), (3, .int v3), (4, .long v4), (6, .int r.2.1), (7, .int r.2.2.1)] → W p l e rm_Q_call s m args below meth c H locs 0 0 Q (F0 m r.1 ls [])) →
    ∀ (H : Heap) (locs : List Loc) (ls : Array Slot), va_P z.1 vwCl (qw z B S ++ Rr) H → va_D A0 (qw z B S ++ Rr) → va_S A0 H0 H locs → lv_has ls 12 [(0, .ref (B 0)), (1, .int v1), (2, .int v2), (3, .int v3), (4, .long v4), (6, .int v6), (7, .int v7)] → W p l e rm_Q_call s m args below meth c H locs 0 0 Q (F0 m 38 ls []) := by
  obtain ⟨hx, hb, hml, hown, hts, hK, hN⟩ := id hM
  intro v6 v7 S r h hE
  refine zz_loop (G := fun (st : Int32 × Int32 × ZQ) => ∀ (H : Heap) (locs : List Loc) (ls : Array Slot), va_P z.1 vwCl (qw z B st.2.2 ++ Rr) H → va_D A0 (qw z B st.2.2 ++ Rr) → va_S A0 H0 H locs → lv_has ls 12 [(0, .ref (B 0)), (1, .int v1), (2, .int v2), (3, .int v3), (4, .long v4), (6, .int st.1), (7, .int st.2.1)] → W p l e rm_Q_call s m args below meth c H locs 0 0 Q (F0 m 38 ls [])) (E := fun (r : Nat × Int32 × Int32 × ZQ) => ∀ (H : Heap) (locs : List Loc) (ls : Array Slot), va_P z.1 vwCl (qw z B r.2.2.2 ++ Rr) H → va_D A0 (qw z B r.2.2.2 ++ Rr) → va_S A0 H0 H locs → lv_has ls 12 [(0, .ref (B 0)), (1, .int v1), (2, .int v2), (3, .int v3), (4, .long v4), (6, .int r.2.1), (7, .int r.2.2.1)] → W p l e rm_Q_call s m args below meth c H locs 0 0 Q (F0 m r.1 ls [])) ?_ n (v6, v7, S) r h hE
  clear h hE r v6 v7 S
  rintro ⟨v6, v7, S⟩ o h hG hE H locs ls hP hD hS hl
  have h : st_Q_call_L38 n v1 v2 v3 v4 v6 v7 S = some o := h
  have hl : lv_has ls 12 [(0, .ref (B 0)), (1, .int v1), (2, .int v2), (3, .int v3), (4, .long v4), (6, .int v6), (7, .int v7)] := hl
  have hP : va_P z.1 vwCl (qw z B S ++ Rr) H := hP
  have hD : va_D A0 (qw z B S ++ Rr) := hD
  unfold st_Q_call_L38 at h
  refine lv_iload hx hb d_Q_call_38 (lv_at hl 6 rfl) ?_
  refine lv_iload_n hx hb d_Q_call_40 rfl (lv_at hl 3 rfl) ?_
  refine lv_icmp_ge (tgt := 114) hx hb d_Q_call_41 (by decide) (fun c_7 => ?_) (fun c_7 => ?_)
  · replace h := zz_t c_7 h
    exact hE _ (Option.some.inj h).symm _ _ _ hP hD hS hl
  · replace h := zz_f c_7 h
    refine lv_iload hx hb d_Q_call_44 (lv_at hl 5 rfl) ?_
    refine lv_if_eq (tgt := 114) hx hb d_Q_call_46 (by decide) (fun c_8 => ?_) (fun c_8 => ?_)
    · replace h := zz_t c_8 h
      exact hE _ (Option.some.inj h).symm _ _ _ hP hD hS hl
    · replace h := zz_f c_8 h
      refine lv_aload_n hx hb d_Q_call_49 rfl (lv_at hl 0 rfl) ?_
      refine va_get (D := z.1) (ci := 5) (v := .ref (B 17)) (C := R_Q) (T := F_Q) (N := 28) hx hb hts i_Q hown hK hP 0 rfl rfl 25 (by decide) (hts _ wq_576) (fun _ h9 => h9) rfl d_Q_call_50 ?_
      refine lv_iload hx hb d_Q_call_53 (lv_at hl 6 rfl) ?_
      refine lv_lload hx hb d_Q_call_55 (lv_at hl 4 rfl) ?_
      refine lv_iload hx hb d_Q_call_57 (lv_at hl 6 rfl) ?_
      obtain ⟨r_9, e_9, h⟩ := zz_bind1 h
      refine zz_goI (zz_runS (As := [.long v4, .int v7]) (rest := [.int v7, .ref (B 17)]) (k_Q_byteOf l z _ n _ _ _ e_9) ⟨hx, hb, hml, hown, hts⟩ (va_cwS 2 hts (zz_gS wq_680 wq_681 wq_6 wq_682) rfl rfl rfl (by decide +kernel) ⟨Nat.le_of_ble_eq_true rfl, Nat.le_of_ble_eq_true rfl⟩) hK hN hP hD rfl hl.1 rfl (Nat.le_of_ble_eq_true rfl) d_Q_call_59 ⟨Nat.le_of_ble_eq_true rfl, Nat.le_of_ble_eq_true rfl⟩) hD hS hA (fun H locs hP hD hS => ?_)
      obtain ⟨c_10, h⟩ := zz_oob h
      obtain ⟨S_11, e_11, h⟩ := zz_let h
      refine va_iast hx hb hK hP hD hS 17 0 rfl rfl c_10 d_Q_call_62 (fun H locs hP hD hS => ?_)
      have hP : va_P z.1 vwCl (qw z B S_11 ++ Rr) H := by rw [e_11]; exact hP
      have hD : va_D A0 (qw z B S_11 ++ Rr) := by rw [e_11]; exact hD
      refine lv_aload_n hx hb d_Q_call_63 rfl (lv_at hl 0 rfl) ?_
      refine va_get (D := z.1) (ci := 5) (v := .ref (B 17)) (C := R_Q) (T := F_Q) (N := 28) hx hb hts i_Q hown hK hP 0 rfl rfl 25 (by decide) (hts _ wq_576) (fun _ h9 => h9) rfl d_Q_call_64 ?_
      refine lv_iload hx hb d_Q_call_67 (lv_at hl 6 rfl) ?_
      obtain ⟨c_12, h⟩ := zz_oob h
      refine va_iald hx hb hK hP 17 0 rfl rfl c_12 d_Q_call_69 ?_
      refine lv_sipush (v := 255) hx hb d_Q_call_70 (by decide) ?_
      refine lv_icmp_eq (tgt := 101) hx hb d_Q_call_73 (by decide) (fun c_13 => ?_) (fun c_13 => ?_)
      · replace h := zz_t c_13 h
        refine lv_iconst (v := 1) hx hb d_Q_call_101 (by decide) ?_
        refine lv_goto (tgt := 106) hx hb d_Q_call_102 (by decide) ?_
        refine lv_istore (lv' := [(6, .int (1 : Int32)), (0, .ref (B 0)), (1, .int v1), (2, .int v2), (3, .int v3), (4, .long v4), (7, .int v7)]) hx hb d_Q_call_106 hl (by decide) rfl (fun ls hl => ?_)
        refine lv_iinc (v := (v7 + (1 : Int32))) (lv' := [(7, .int (v7 + (1 : Int32))), (6, .int (1 : Int32)), (0, .ref (B 0)), (1, .int v1), (2, .int v2), (3, .int v3), (4, .long v4)]) hx hb d_Q_call_108 hl (k := 6) rfl rfl (by decide) rfl (fun ls hl => ?_)
        refine lv_goto (tgt := 38) hx hb d_Q_call_111 (by decide) ?_
        exact hG _ (Option.some.inj h).symm _ _ _ hP hD hS (lv_sub hl [2, 3, 4, 5, 6, 1, 0] rfl)
      · replace h := zz_f c_13 h
        refine lv_aload_n hx hb d_Q_call_76 rfl (lv_at hl 0 rfl) ?_
        refine va_get (D := z.1) (ci := 5) (v := .ref (B 17)) (C := R_Q) (T := F_Q) (N := 28) hx hb hts i_Q hown hK hP 0 rfl rfl 25 (by decide) (hts _ wq_576) (fun _ h9 => h9) rfl d_Q_call_77 ?_
        refine lv_iload hx hb d_Q_call_80 (lv_at hl 6 rfl) ?_
        obtain ⟨c_14, h⟩ := zz_oob h
        refine va_iald hx hb hK hP 17 0 rfl rfl c_14 d_Q_call_82 ?_
        refine lv_iconst (v := 2) hx hb d_Q_call_83 (by decide) ?_
        refine lv_icmp_le (tgt := 105) hx hb d_Q_call_84 (by decide) (fun c_15 => ?_) (fun c_15 => ?_)
        · replace h := zz_t c_15 h
          refine lv_iconst (v := 0) hx hb d_Q_call_105 (by decide) ?_
          refine lv_istore (lv' := [(6, .int (0 : Int32)), (0, .ref (B 0)), (1, .int v1), (2, .int v2), (3, .int v3), (4, .long v4), (7, .int v7)]) hx hb d_Q_call_106 hl (by decide) rfl (fun ls hl => ?_)
          refine lv_iinc (v := (v7 + (1 : Int32))) (lv' := [(7, .int (v7 + (1 : Int32))), (6, .int (0 : Int32)), (0, .ref (B 0)), (1, .int v1), (2, .int v2), (3, .int v3), (4, .long v4)]) hx hb d_Q_call_108 hl (k := 6) rfl rfl (by decide) rfl (fun ls hl => ?_)
          refine lv_goto (tgt := 38) hx hb d_Q_call_111 (by decide) ?_
          exact hG _ (Option.some.inj h).symm _ _ _ hP hD hS (lv_sub hl [2, 3, 4, 5, 6, 1, 0] rfl)
        · replace h := zz_f c_15 h
          refine lv_aload_n hx hb d_Q_call_87 rfl (lv_at hl 0 rfl) ?_
          refine va_get (D := z.1) (ci := 5) (v := .ref (B 17)) (C := R_Q) (T := F_Q) (N := 28) hx hb hts i_Q hown hK hP 0 rfl rfl 25 (by decide) (hts _ wq_576) (fun _ h9 => h9) rfl d_Q_call_88 ?_
          refine lv_iload hx hb d_Q_call_91 (lv_at hl 6 rfl) ?_
          obtain ⟨c_16, h⟩ := zz_oob h
          refine va_iald hx hb hK hP 17 0 rfl rfl c_16 d_Q_call_93 ?_
          refine lv_aload_n hx hb d_Q_call_94 rfl (lv_at hl 0 rfl) ?_
          refine va_get (D := z.1) (ci := 5) (v := .int (qTy S_11)) (C := R_Q) (T := F_Q) (N := 28) hx hb hts i_Q hown hK hP 0 rfl rfl 1 (by decide) (hts _ wq_552) (fun _ h9 => h9) rfl d_Q_call_95 ?_
          refine lv_icmp_ge (tgt := 105) hx hb d_Q_call_98 (by decide) (fun c_17 => ?_) (fun c_17 => ?_)
          · replace h := zz_t c_17 h
            refine lv_iconst (v := 0) hx hb d_Q_call_105 (by decide) ?_
            refine lv_istore (lv' := [(6, .int (0 : Int32)), (0, .ref (B 0)), (1, .int v1), (2, .int v2), (3, .int v3), (4, .long v4), (7, .int v7)]) hx hb d_Q_call_106 hl (by decide) rfl (fun ls hl => ?_)
            refine lv_iinc (v := (v7 + (1 : Int32))) (lv' := [(7, .int (v7 + (1 : Int32))), (6, .int (0 : Int32)), (0, .ref (B 0)), (1, .int v1), (2, .int v2), (3, .int v3), (4, .long v4)]) hx hb d_Q_call_108 hl (k := 6) rfl rfl (by decide) rfl (fun ls hl => ?_)
            refine lv_goto (tgt := 38) hx hb d_Q_call_111 (by decide) ?_
            exact hG _ (Option.some.inj h).symm _ _ _ hP hD hS (lv_sub hl [2, 3, 4, 5, 6, 1, 0] rfl)
          · replace h := zz_f c_17 h
            refine lv_iconst (v := 1) hx hb d_Q_call_101 (by decide) ?_
            refine lv_goto (tgt := 106) hx hb d_Q_call_102 (by decide) ?_
            refine lv_istore (lv' := [(6, .int (1 : Int32)), (0, .ref (B 0)), (1, .int v1), (2, .int v2), (3, .int v3), (4, .long v4), (7, .int v7)]) hx hb d_Q_call_106 hl (by decide) rfl (fun ls hl => ?_)
            refine lv_iinc (v := (v7 + (1 : Int32))) (lv' := [(7, .int (v7 + (1 : Int32))), (6, .int (1 : Int32)), (0, .ref (B 0)), (1, .int v1), (2, .int v2), (3, .int v3), (4, .long v4)]) hx hb d_Q_call_108 hl (k := 6) rfl rfl (by decide) rfl (fun ls hl => ?_)
            refine lv_goto (tgt := 38) hx hb d_Q_call_111 (by decide) ?_
            exact hG _ (Option.some.inj h).symm _ _ _ hP hD hS (lv_sub hl [2, 3, 4, 5, 6, 1, 0] rfl)

set_option maxRecDepth 100000 in
set_option maxHeartbeats 4000000 in
theorem lp_Q_call_L167 {z : zE} {B : Nat → Nat} {Rr : va_W} {p : Program} {l : Launch} {e : Env} {s : State} {m : MethodId} {args : Array Value} {below : List Frame} {meth : Method} {c : Code} {Q : State → Prop} {H0 : Heap} {A0 : Nat → Prop} (hM : zM z p s m args c b_Q_call 12 R_Q) (hA : ∀ q : Nat, H0.size ≤ q → A0 q) (n : Nat) (v1 : Int32) (v2 : Int32) (v3 : Int32) (v7 : Int64) :
    ∀ (v9 : Int32) (v10 : Int32) (v11 : Int32) (S : ZQ) (r : Nat × Int32 × Int32 × Int32 × ZQ), fx_Q_call_L167 n v1 v2 v3 v7 v9 v10 v11 S = some r → (∀ (H : Heap) (locs : List Loc) (ls : Array Slot), va_P z.1 vwCl (qw z B r.2.2.2.2 ++ Rr) H → va_D A0 (qw z B r.2.2.2.2 ++ Rr) → va_S A0 H0 H locs → lv_has ls 12 [(0, .ref (B 0)), (1, .int v1), (2, .int v2), (3, .int v3), (7, .long v7), (9, .int r.2.1), (10, .int r.2.2.1), (11, .int r.2.2.2.1)] → W p l e rm_Q_call s m args below meth c H locs 0 0 Q (F0 m r.1 ls [])) →
    ∀ (H : Heap) (locs : List Loc) (ls : Array Slot), va_P z.1 vwCl (qw z B S ++ Rr) H → va_D A0 (qw z B S ++ Rr) → va_S A0 H0 H locs → lv_has ls 12 [(0, .ref (B 0)), (1, .int v1), (2, .int v2), (3, .int v3), (7, .long v7), (9, .int v9), (10, .int v10), (11, .int v11)] → W p l e rm_Q_call s m args below meth c H locs 0 0 Q (F0 m 167 ls []) := by
  obtain ⟨hx, hb, hml, hown, hts, hK, hN⟩ := id hM
  intro v9 v10 v11 S r h hE
  refine zz_loop (G := fun (st : Int32 × Int32 × Int32 × ZQ) => ∀ (H : Heap) (locs : List Loc) (ls : Array Slot), va_P z.1 vwCl (qw z B st.2.2.2 ++ Rr) H → va_D A0 (qw z B st.2.2.2 ++ Rr) → va_S A0 H0 H locs → lv_has ls 12 [(0, .ref (B 0)), (1, .int v1), (2, .int v2), (3, .int v3), (7, .long v7), (9, .int st.1), (10, .int st.2.1), (11, .int st.2.2.1)] → W p l e rm_Q_call s m args below meth c H locs 0 0 Q (F0 m 167 ls [])) (E := fun (r : Nat × Int32 × Int32 × Int32 × ZQ) => ∀ (H : Heap) (locs : List Loc) (ls : Array Slot), va_P z.1 vwCl (qw z B r.2.2.2.2 ++ Rr) H → va_D A0 (qw z B r.2.2.2.2 ++ Rr) → va_S A0 H0 H locs → lv_has ls 12 [(0, .ref (B 0)), (1, .int v1), (2, .int v2), (3, .int v3), (7, .long v7), (9, .int r.2.1), (10, .int r.2.2.1), (11, .int r.2.2.2.1)] → W p l e rm_Q_call s m args below meth c H locs 0 0 Q (F0 m r.1 ls [])) ?_ n (v9, v10, v11, S) r h hE
  clear h hE r v9 v10 v11 S
  rintro ⟨v9, v10, v11, S⟩ o h hG hE H locs ls hP hD hS hl
  have h : st_Q_call_L167 n v1 v2 v3 v7 v9 v10 v11 S = some o := h
  have hl : lv_has ls 12 [(0, .ref (B 0)), (1, .int v1), (2, .int v2), (3, .int v3), (7, .long v7), (9, .int v9), (10, .int v10), (11, .int v11)] := hl
  have hP : va_P z.1 vwCl (qw z B S ++ Rr) H := hP
  have hD : va_D A0 (qw z B S ++ Rr) := hD
  have J231 : ∀ (v11 : Int32) (S : ZQ), jx_Q_call_L167_231 n v1 v2 v3 v7 v11 S = some o → ∀ (H : Heap) (locs : List Loc) (ls : Array Slot), va_P z.1 vwCl (qw z B S ++ Rr) H → va_D A0 (qw z B S ++ Rr) → va_S A0 H0 H locs → lv_has ls 12 [(0, .ref (B 0)), (1, .int v1), (2, .int v2), (3, .int v3), (7, .long v7), (11, .int v11)] → W p l e rm_Q_call s m args below meth c H locs 0 0 Q (F0 m 231 ls []) := by
    intro v11 S h H locs ls hP hD hS hl
    unfold jx_Q_call_L167_231 at h
    refine lv_iconst (v := 0) hx hb d_Q_call_231 (by decide) ?_
    refine lv_istore (lv' := [(10, .int (0 : Int32)), (0, .ref (B 0)), (1, .int v1), (2, .int v2), (3, .int v3), (7, .long v7), (11, .int v11)]) hx hb d_Q_call_232 hl (by decide) rfl (fun ls hl => ?_)
    refine lv_aload_n hx hb d_Q_call_234 rfl (lv_at hl 1 rfl) ?_
    refine va_get (D := z.1) (ci := 5) (v := .ref (B 14)) (C := R_Q) (T := F_Q) (N := 28) hx hb hts i_Q hown hK hP 0 rfl rfl 17 (by decide) (hts _ wq_568) (fun _ h9 => h9) rfl d_Q_call_235 ?_
    refine lv_iload hx hb d_Q_call_238 (lv_at hl 6 rfl) ?_
    obtain ⟨c_34, h⟩ := zz_oob h
    refine va_iald hx hb hK hP 14 0 rfl rfl c_34 d_Q_call_240 ?_
    refine lv_istore (lv' := [(9, .int ((qKa S) v11.toNatClampNeg)), (10, .int (0 : Int32)), (0, .ref (B 0)), (1, .int v1), (2, .int v2), (3, .int v3), (7, .long v7), (11, .int v11)]) hx hb d_Q_call_241 hl (by decide) rfl (fun ls hl => ?_)
    refine lv_iinc (v := (v11 + (1 : Int32))) (lv' := [(11, .int (v11 + (1 : Int32))), (9, .int ((qKa S) v11.toNatClampNeg)), (10, .int (0 : Int32)), (0, .ref (B 0)), (1, .int v1), (2, .int v2), (3, .int v3), (7, .long v7)]) hx hb d_Q_call_243 hl (k := 7) rfl rfl (by decide) rfl (fun ls hl => ?_)
    refine lv_goto (tgt := 167) hx hb d_Q_call_246 (by decide) ?_
    exact hG _ (Option.some.inj h).symm _ _ _ hP hD hS (lv_sub hl [3, 4, 5, 6, 7, 1, 2, 0] rfl)
  unfold st_Q_call_L167 at h
  refine lv_iload hx hb d_Q_call_167 (lv_at hl 7 rfl) ?_
  refine lv_aload_n hx hb d_Q_call_169 rfl (lv_at hl 0 rfl) ?_
  refine va_get (D := z.1) (ci := 5) (v := .int (qKe S)) (C := R_Q) (T := F_Q) (N := 28) hx hb hts i_Q hown hK hP 0 rfl rfl 12 (by decide) (hts _ wq_563) (fun _ h9 => h9) rfl d_Q_call_170 ?_
  refine lv_icmp_ge (tgt := 249) hx hb d_Q_call_173 (by decide) (fun c_23 => ?_) (fun c_23 => ?_)
  · replace h := zz_t c_23 h
    exact hE _ (Option.some.inj h).symm _ _ _ hP hD hS hl
  · replace h := zz_f c_23 h
    refine lv_iload hx hb d_Q_call_176 (lv_at hl 6 rfl) ?_
    refine lv_if_ne (tgt := 249) hx hb d_Q_call_178 (by decide) (fun c_24 => ?_) (fun c_24 => ?_)
    · replace h := zz_f c_24 h
      exact hE _ (Option.some.inj h).symm _ _ _ hP hD hS hl
    · replace h := zz_t c_24 h
      refine lv_aload_n hx hb d_Q_call_181 rfl (lv_at hl 0 rfl) ?_
      refine va_get (D := z.1) (ci := 5) (v := .ref (B 10)) (C := R_Q) (T := F_Q) (N := 28) hx hb hts i_Q hown hK hP 0 rfl rfl 13 (by decide) (hts _ wq_564) (fun _ h9 => h9) rfl d_Q_call_182 ?_
      refine lv_iload hx hb d_Q_call_185 (lv_at hl 7 rfl) ?_
      obtain ⟨c_25, h⟩ := zz_oob h
      refine va_iald hx hb hK hP 10 0 rfl rfl c_25 d_Q_call_187 ?_
      refine lv_iload_n hx hb d_Q_call_188 rfl (lv_at hl 1 rfl) ?_
      refine lv_icmp_ne (tgt := 231) hx hb d_Q_call_189 (by decide) (fun c_26 => ?_) (fun c_26 => ?_)
      · replace h := zz_f c_26 h
        exact J231 _ _ h _ _ _ hP hD hS (lv_sub hl [0, 1, 2, 3, 4, 7] rfl)
      · replace h := zz_t c_26 h
        refine lv_aload_n hx hb d_Q_call_192 rfl (lv_at hl 0 rfl) ?_
        refine va_get (D := z.1) (ci := 5) (v := .ref (B 11)) (C := R_Q) (T := F_Q) (N := 28) hx hb hts i_Q hown hK hP 0 rfl rfl 14 (by decide) (hts _ wq_565) (fun _ h9 => h9) rfl d_Q_call_193 ?_
        refine lv_iload hx hb d_Q_call_196 (lv_at hl 7 rfl) ?_
        obtain ⟨c_27, h⟩ := zz_oob h
        refine va_iald hx hb hK hP 11 0 rfl rfl c_27 d_Q_call_198 ?_
        refine lv_iload_n hx hb d_Q_call_199 rfl (lv_at hl 2 rfl) ?_
        refine lv_icmp_ne (tgt := 231) hx hb d_Q_call_200 (by decide) (fun c_28 => ?_) (fun c_28 => ?_)
        · replace h := zz_f c_28 h
          exact J231 _ _ h _ _ _ hP hD hS (lv_sub hl [0, 1, 2, 3, 4, 7] rfl)
        · replace h := zz_t c_28 h
          refine lv_aload_n hx hb d_Q_call_203 rfl (lv_at hl 0 rfl) ?_
          refine va_get (D := z.1) (ci := 5) (v := .ref (B 12)) (C := R_Q) (T := F_Q) (N := 28) hx hb hts i_Q hown hK hP 0 rfl rfl 15 (by decide) (hts _ wq_566) (fun _ h9 => h9) rfl d_Q_call_204 ?_
          refine lv_iload hx hb d_Q_call_207 (lv_at hl 7 rfl) ?_
          obtain ⟨c_29, h⟩ := zz_oob h
          refine va_iald hx hb hK hP 12 0 rfl rfl c_29 d_Q_call_209 ?_
          refine lv_iload_n hx hb d_Q_call_210 rfl (lv_at hl 3 rfl) ?_
          refine lv_icmp_ne (tgt := 231) hx hb d_Q_call_211 (by decide) (fun c_30 => ?_) (fun c_30 => ?_)
          · replace h := zz_f c_30 h
            exact J231 _ _ h _ _ _ hP hD hS (lv_sub hl [0, 1, 2, 3, 4, 7] rfl)
          · replace h := zz_t c_30 h
            refine lv_aload_n hx hb d_Q_call_214 rfl (lv_at hl 0 rfl) ?_
            refine va_get (D := z.1) (ci := 5) (v := .ref (B 13)) (C := R_Q) (T := F_Q) (N := 28) hx hb hts i_Q hown hK hP 0 rfl rfl 16 (by decide) (hts _ wq_567) (fun _ h9 => h9) rfl d_Q_call_215 ?_
            refine lv_iload hx hb d_Q_call_218 (lv_at hl 7 rfl) ?_
            obtain ⟨c_31, h⟩ := zz_oob h
            refine va_lald hx hb hK hP 13 2 rfl rfl c_31 d_Q_call_220 ?_
            refine lv_lload hx hb d_Q_call_221 (lv_at hl 4 rfl) ?_
            refine W.lcmp hx hb d_Q_call_223 ?_
            refine lv_if_ne (tgt := 231) hx hb d_Q_call_224 (by decide) (fun c_32 => ?_) (fun c_32 => ?_)
            · replace h := zz_f c_32 h
              exact J231 _ _ h _ _ _ hP hD hS (lv_sub hl [0, 1, 2, 3, 4, 7] rfl)
            · replace h := zz_t c_32 h
              refine lv_iconst (v := 1) hx hb d_Q_call_227 (by decide) ?_
              refine lv_goto (tgt := 232) hx hb d_Q_call_228 (by decide) ?_
              refine lv_istore (lv' := [(10, .int (1 : Int32)), (0, .ref (B 0)), (1, .int v1), (2, .int v2), (3, .int v3), (7, .long v7), (9, .int v9), (11, .int v11)]) hx hb d_Q_call_232 hl (by decide) rfl (fun ls hl => ?_)
              refine lv_aload_n hx hb d_Q_call_234 rfl (lv_at hl 1 rfl) ?_
              refine va_get (D := z.1) (ci := 5) (v := .ref (B 14)) (C := R_Q) (T := F_Q) (N := 28) hx hb hts i_Q hown hK hP 0 rfl rfl 17 (by decide) (hts _ wq_568) (fun _ h9 => h9) rfl d_Q_call_235 ?_
              refine lv_iload hx hb d_Q_call_238 (lv_at hl 7 rfl) ?_
              obtain ⟨c_33, h⟩ := zz_oob h
              refine va_iald hx hb hK hP 14 0 rfl rfl c_33 d_Q_call_240 ?_
              refine lv_istore (lv' := [(9, .int ((qKa S) v11.toNatClampNeg)), (10, .int (1 : Int32)), (0, .ref (B 0)), (1, .int v1), (2, .int v2), (3, .int v3), (7, .long v7), (11, .int v11)]) hx hb d_Q_call_241 hl (by decide) rfl (fun ls hl => ?_)
              refine lv_iinc (v := (v11 + (1 : Int32))) (lv' := [(11, .int (v11 + (1 : Int32))), (9, .int ((qKa S) v11.toNatClampNeg)), (10, .int (1 : Int32)), (0, .ref (B 0)), (1, .int v1), (2, .int v2), (3, .int v3), (7, .long v7)]) hx hb d_Q_call_243 hl (k := 7) rfl rfl (by decide) rfl (fun ls hl => ?_)
              refine lv_goto (tgt := 167) hx hb d_Q_call_246 (by decide) ?_
              exact hG _ (Option.some.inj h).symm _ _ _ hP hD hS (lv_sub hl [3, 4, 5, 6, 7, 1, 2, 0] rfl)

set_option maxRecDepth 100000 in
set_option maxHeartbeats 4000000 in
theorem k_Q_call (l : Launch) (z : zE) (B : Nat → Nat) (Rr : va_W) (n : Nat) (S : ZQ) (a1 : Int32) (a2 : Int32) (a3 : Int32) (a4 : Int64) (r0 : Int32) (S' : ZQ) (h : fx_Q_call n S a1 a2 a3 a4 = some (r0, S')) : zC z l y_Q_call w_Q_call rm_Q_call [.ref (B 0), .int a1, .int a2, .int a3, .long a4] (qw z B S ++ Rr) (some (.int r0)) (qw z B S' ++ Rr) := by
  refine zz_of (by decide) (Nat.le_of_ble_eq_true rfl) ?_
  intro p e s m args below meth c A0 ls hM hr hlocks hA hP hD hl
  have hM : zM z p s m args c b_Q_call 12 R_Q := hM
  obtain ⟨hx, hb, hml, hown, hts, hK, hN⟩ := id hM
  have hS : va_S A0 s.heap s.heap [] := va_S.rf
  have hl : lv_has ls 12 [(0, .ref (B 0)), (1, .int a1), (2, .int a2), (3, .int a3), (4, .long a4)] := hl
  have J297 : ∀ (v9 : Int32) (S : ZQ), jx_Q_call_297 n v9 S = some (r0, S') → ∀ (H : Heap) (locs : List Loc) (ls : Array Slot), va_P z.1 vwCl (qw z B S ++ Rr) H → va_D A0 (qw z B S ++ Rr) → va_S A0 s.heap H locs → lv_has ls 12 [(0, .ref (B 0)), (9, .int v9)] → W p l e rm_Q_call s m args below meth c H locs 0 0 (zQ z below args s A0 (some (.int r0)) (qw z B S' ++ Rr)) (F0 m 297 ls []) := by
    intro v9 S h H locs ls hP hD hS hl
    unfold jx_Q_call_297 at h
    refine lv_aload_n hx hb d_Q_call_297 rfl (lv_at hl 0 rfl) ?_
    refine lv_iload hx hb d_Q_call_298 (lv_at hl 1 rfl) ?_
    refine lv_bipush (v := -2) hx hb d_Q_call_300 (by decide) ?_
    refine lv_icmp_ne (tgt := 309) hx hb d_Q_call_302 (by decide) (fun c_41 => ?_) (fun c_41 => ?_)
    · replace h := zz_f c_41 h
      refine lv_iload hx hb d_Q_call_309 (lv_at hl 1 rfl) ?_
      refine lv_bipush (v := -3) hx hb d_Q_call_311 (by decide) ?_
      refine lv_icmp_ne (tgt := 320) hx hb d_Q_call_313 (by decide) (fun c_42 => ?_) (fun c_42 => ?_)
      · replace h := zz_f c_42 h
        refine lv_iconst (v := 0) hx hb d_Q_call_320 (by decide) ?_
        obtain ⟨S_43, e_43, h⟩ := zz_let h
        refine va_put (D := z.1) (ci := 5) (v := .int (0 : Int32)) (ty := .int) (C := R_Q) (T := F_Q) (N := 28) hx hb hts i_Q ty_Q ty_Q_ok n_Q hown hK hP hD hS 0 rfl rfl 0 (by decide) (hts _ wq_551) (fun _ h9 => h9) rfl (by decide +kernel) rfl rfl (Nat.le_of_ble_eq_true rfl) d_Q_call_321 (fun H locs hP hD hS => ?_)
        have hP : va_P z.1 vwCl (qw z B S_43 ++ Rr) H := by rw [e_43]; exact hP
        have hD : va_D A0 (qw z B S_43 ++ Rr) := by rw [e_43]; exact hD
        refine lv_aload_n hx hb d_Q_call_324 rfl (lv_at hl 0 rfl) ?_
        refine va_get (D := z.1) (ci := 5) (v := .int (qTh S_43)) (C := R_Q) (T := F_Q) (N := 28) hx hb hts i_Q hown hK hP 0 rfl rfl 0 (by decide) (hts _ wq_551) (fun _ h9 => h9) rfl d_Q_call_325 ?_
        refine lv_if_le (tgt := 335) hx hb d_Q_call_328 (by decide) (fun c_44 => ?_) (fun c_44 => ?_)
        · replace h := zz_t c_44 h
          refine lv_iload hx hb d_Q_call_335 (lv_at hl 1 rfl) ?_
          exact zz_iret (fun S => qw z B S ++ Rr) hx hb hr hlocks hP hD hS h d_Q_call_337
        · replace h := zz_f c_44 h
          refine lv_iconst (v := 0) hx hb d_Q_call_331 (by decide) ?_
          refine lv_goto (tgt := 337) hx hb d_Q_call_332 (by decide) ?_
          exact zz_iret (fun S => qw z B S ++ Rr) hx hb hr hlocks hP hD hS h d_Q_call_337
      · replace h := zz_t c_42 h
        refine lv_iconst (v := 3) hx hb d_Q_call_316 (by decide) ?_
        refine lv_goto (tgt := 321) hx hb d_Q_call_317 (by decide) ?_
        obtain ⟨S_45, e_45, h⟩ := zz_let h
        refine va_put (D := z.1) (ci := 5) (v := .int (3 : Int32)) (ty := .int) (C := R_Q) (T := F_Q) (N := 28) hx hb hts i_Q ty_Q ty_Q_ok n_Q hown hK hP hD hS 0 rfl rfl 0 (by decide) (hts _ wq_551) (fun _ h9 => h9) rfl (by decide +kernel) rfl rfl (Nat.le_of_ble_eq_true rfl) d_Q_call_321 (fun H locs hP hD hS => ?_)
        have hP : va_P z.1 vwCl (qw z B S_45 ++ Rr) H := by rw [e_45]; exact hP
        have hD : va_D A0 (qw z B S_45 ++ Rr) := by rw [e_45]; exact hD
        refine lv_aload_n hx hb d_Q_call_324 rfl (lv_at hl 0 rfl) ?_
        refine va_get (D := z.1) (ci := 5) (v := .int (qTh S_45)) (C := R_Q) (T := F_Q) (N := 28) hx hb hts i_Q hown hK hP 0 rfl rfl 0 (by decide) (hts _ wq_551) (fun _ h9 => h9) rfl d_Q_call_325 ?_
        refine lv_if_le (tgt := 335) hx hb d_Q_call_328 (by decide) (fun c_46 => ?_) (fun c_46 => ?_)
        · replace h := zz_t c_46 h
          refine lv_iload hx hb d_Q_call_335 (lv_at hl 1 rfl) ?_
          exact zz_iret (fun S => qw z B S ++ Rr) hx hb hr hlocks hP hD hS h d_Q_call_337
        · replace h := zz_f c_46 h
          refine lv_iconst (v := 0) hx hb d_Q_call_331 (by decide) ?_
          refine lv_goto (tgt := 337) hx hb d_Q_call_332 (by decide) ?_
          exact zz_iret (fun S => qw z B S ++ Rr) hx hb hr hlocks hP hD hS h d_Q_call_337
    · replace h := zz_t c_41 h
      refine lv_iconst (v := 2) hx hb d_Q_call_305 (by decide) ?_
      refine lv_goto (tgt := 321) hx hb d_Q_call_306 (by decide) ?_
      obtain ⟨S_47, e_47, h⟩ := zz_let h
      refine va_put (D := z.1) (ci := 5) (v := .int (2 : Int32)) (ty := .int) (C := R_Q) (T := F_Q) (N := 28) hx hb hts i_Q ty_Q ty_Q_ok n_Q hown hK hP hD hS 0 rfl rfl 0 (by decide) (hts _ wq_551) (fun _ h9 => h9) rfl (by decide +kernel) rfl rfl (Nat.le_of_ble_eq_true rfl) d_Q_call_321 (fun H locs hP hD hS => ?_)
      have hP : va_P z.1 vwCl (qw z B S_47 ++ Rr) H := by rw [e_47]; exact hP
      have hD : va_D A0 (qw z B S_47 ++ Rr) := by rw [e_47]; exact hD
      refine lv_aload_n hx hb d_Q_call_324 rfl (lv_at hl 0 rfl) ?_
      refine va_get (D := z.1) (ci := 5) (v := .int (qTh S_47)) (C := R_Q) (T := F_Q) (N := 28) hx hb hts i_Q hown hK hP 0 rfl rfl 0 (by decide) (hts _ wq_551) (fun _ h9 => h9) rfl d_Q_call_325 ?_
      refine lv_if_le (tgt := 335) hx hb d_Q_call_328 (by decide) (fun c_48 => ?_) (fun c_48 => ?_)
      · replace h := zz_t c_48 h
        refine lv_iload hx hb d_Q_call_335 (lv_at hl 1 rfl) ?_
        exact zz_iret (fun S => qw z B S ++ Rr) hx hb hr hlocks hP hD hS h d_Q_call_337
      · replace h := zz_f c_48 h
        refine lv_iconst (v := 0) hx hb d_Q_call_331 (by decide) ?_
        refine lv_goto (tgt := 337) hx hb d_Q_call_332 (by decide) ?_
        exact zz_iret (fun S => qw z B S ++ Rr) hx hb hr hlocks hP hD hS h d_Q_call_337
  have J156 : ∀ (k0 : Int64) (v1 : Int32) (v2 : Int32) (v3 : Int32) (S : ZQ), jx_Q_call_156 n k0 v1 v2 v3 S = some (r0, S') → ∀ (H : Heap) (locs : List Loc) (ls : Array Slot), va_P z.1 vwCl (qw z B S ++ Rr) H → va_D A0 (qw z B S ++ Rr) → va_S A0 s.heap H locs → lv_has ls 12 [(0, .ref (B 0)), (1, .int v1), (2, .int v2), (3, .int v3)] → W p l e rm_Q_call s m args below meth c H locs 0 0 (zQ z below args s A0 (some (.int r0)) (qw z B S' ++ Rr)) (F0 m 156 ls [.long k0]) := by
    intro k0 v1 v2 v3 S h H locs ls hP hD hS hl
    unfold jx_Q_call_156 at h
    refine lv_lstore (lv' := [(7, .long k0), (0, .ref (B 0)), (1, .int v1), (2, .int v2), (3, .int v3)]) hx hb d_Q_call_156 hl (by decide) rfl (fun ls hl => ?_)
    refine lv_iconst (v := 0) hx hb d_Q_call_158 (by decide) ?_
    refine lv_istore (lv' := [(9, .int (0 : Int32)), (7, .long k0), (0, .ref (B 0)), (1, .int v1), (2, .int v2), (3, .int v3)]) hx hb d_Q_call_159 hl (by decide) rfl (fun ls hl => ?_)
    refine lv_iconst (v := 0) hx hb d_Q_call_161 (by decide) ?_
    refine lv_istore (lv' := [(10, .int (0 : Int32)), (9, .int (0 : Int32)), (7, .long k0), (0, .ref (B 0)), (1, .int v1), (2, .int v2), (3, .int v3)]) hx hb d_Q_call_162 hl (by decide) rfl (fun ls hl => ?_)
    refine lv_iconst (v := 0) hx hb d_Q_call_164 (by decide) ?_
    refine lv_istore (lv' := [(11, .int (0 : Int32)), (10, .int (0 : Int32)), (9, .int (0 : Int32)), (7, .long k0), (0, .ref (B 0)), (1, .int v1), (2, .int v2), (3, .int v3)]) hx hb d_Q_call_165 hl (by decide) rfl (fun ls hl => ?_)
    replace h := zz_bL4 h
    obtain ⟨x_35, v9_35, v10_35, v11_35, S_35, e_35, h⟩ := h
    refine lp_Q_call_L167 hM hA n v1 v2 v3 k0 _ _ _ _ _ e_35 ?_ _ _ _ hP hD hS (lv_sub hl [4, 5, 6, 7, 3, 2, 1, 0] rfl)
    intro H locs ls hP hD hS hl
    have hl : lv_has ls 12 [(0, .ref (B 0)), (1, .int v1), (2, .int v2), (3, .int v3), (7, .long k0), (9, .int v9_35), (10, .int v10_35), (11, .int v11_35)] := hl
    have hP : va_P z.1 vwCl (qw z B S_35 ++ Rr) H := hP
    have hD : va_D A0 (qw z B S_35 ++ Rr) := hD
    replace h := zz_grd h
    obtain ⟨c_35, h⟩ := h
    subst c_35
    refine W.eq (g2 := F0 m 249 ls []) rfl ?_
    refine lv_iload hx hb d_Q_call_249 (lv_at hl 6 rfl) ?_
    refine lv_if_eq (tgt := 267) hx hb d_Q_call_251 (by decide) (fun c_36 => ?_) (fun c_36 => ?_)
    · replace h := zz_t c_36 h
      refine lv_aload_n hx hb d_Q_call_267 rfl (lv_at hl 0 rfl) ?_
      refine lv_iload_n hx hb d_Q_call_268 rfl (lv_at hl 1 rfl) ?_
      refine lv_iload_n hx hb d_Q_call_269 rfl (lv_at hl 2 rfl) ?_
      refine lv_iload_n hx hb d_Q_call_270 rfl (lv_at hl 3 rfl) ?_
      obtain ⟨r_37, S_37, e_37, h⟩ := zz_bind h
      refine zz_goI (zz_runV (As := [.int v1, .int v2, .int v3]) (rest := []) (k_Q_workOut l z B Rr n _ _ _ _ _ _ e_37) ⟨hx, hb, hml, hown, hts⟩ (cwV 3 hts (zz_gV wq_720 wq_722 wp_30 wq_6 wq_723) rfl rfl rfl (by decide +kernel) ⟨Nat.le_of_ble_eq_true rfl, Nat.le_of_ble_eq_true rfl⟩) hK hN hP hD (va_recv hK hP (ci := 5) (q0 := 0) rfl rfl) rfl hl.1 rfl (Nat.le_of_ble_eq_true rfl) d_Q_call_271 ⟨Nat.le_of_ble_eq_true rfl, Nat.le_of_ble_eq_true rfl⟩) hD hS hA (fun H locs hP hD hS => ?_)
      refine lv_istore (lv' := [(9, .int r_37), (0, .ref (B 0)), (1, .int v1), (2, .int v2), (3, .int v3), (7, .long k0), (10, .int v10_35), (11, .int v11_35)]) hx hb d_Q_call_274 hl (by decide) rfl (fun ls hl => ?_)
      refine lv_aload_n hx hb d_Q_call_276 rfl (lv_at hl 1 rfl) ?_
      refine lv_dup hx hb d_Q_call_277 rfl ?_
      refine va_get (D := z.1) (ci := 5) (v := .int (qWo S_37)) (C := R_Q) (T := F_Q) (N := 28) hx hb hts i_Q hown hK hP 0 rfl rfl 18 (by decide) (hts _ wq_569) (fun _ h9 => h9) rfl d_Q_call_278 ?_
      refine lv_iconst (v := 1) hx hb d_Q_call_281 (by decide) ?_
      refine lv_iadd hx hb d_Q_call_282 ?_
      obtain ⟨S_38, e_38, h⟩ := zz_let h
      refine va_put (D := z.1) (ci := 5) (v := .int ((qWo S_37) + (1 : Int32))) (ty := .int) (C := R_Q) (T := F_Q) (N := 28) hx hb hts i_Q ty_Q ty_Q_ok n_Q hown hK hP hD hS 0 rfl rfl 18 (by decide) (hts _ wq_569) (fun _ h9 => h9) rfl (by decide +kernel) rfl rfl (Nat.le_of_ble_eq_true rfl) d_Q_call_283 (fun H locs hP hD hS => ?_)
      have hP : va_P z.1 vwCl (qw z B S_38 ++ Rr) H := by rw [e_38]; exact hP
      have hD : va_D A0 (qw z B S_38 ++ Rr) := by rw [e_38]; exact hD
      refine lv_aload_n hx hb d_Q_call_286 rfl (lv_at hl 1 rfl) ?_
      refine lv_iload_n hx hb d_Q_call_287 rfl (lv_at hl 2 rfl) ?_
      refine lv_iload_n hx hb d_Q_call_288 rfl (lv_at hl 3 rfl) ?_
      refine lv_iload_n hx hb d_Q_call_289 rfl (lv_at hl 4 rfl) ?_
      refine lv_lload hx hb d_Q_call_290 (lv_at hl 5 rfl) ?_
      refine lv_iload hx hb d_Q_call_292 (lv_at hl 0 rfl) ?_
      obtain ⟨S_39, e_39, h⟩ := zz_bind1 h
      refine zz_goV (zz_runV (As := [.int v1, .int v2, .int v3, .long k0, .int r_37]) (rest := []) (k_Q_keep l z B Rr n _ _ _ _ _ _ _ e_39) ⟨hx, hb, hml, hown, hts⟩ (cwV 5 hts (zz_gV wq_740 wq_742 wp_35 wq_6 wq_743) rfl rfl rfl (by decide +kernel) ⟨Nat.le_of_ble_eq_true rfl, Nat.le_of_ble_eq_true rfl⟩) hK hN hP hD (va_recv hK hP (ci := 5) (q0 := 0) rfl rfl) rfl hl.1 rfl (Nat.le_of_ble_eq_true rfl) d_Q_call_294 ⟨Nat.le_of_ble_eq_true rfl, Nat.le_of_ble_eq_true rfl⟩) hD hS hA (fun H locs hP hD hS => ?_)
      exact J297 _ _ h _ _ _ hP hD hS (lv_sub hl [1, 0] rfl)
    · replace h := zz_f c_36 h
      refine lv_aload_n hx hb d_Q_call_254 rfl (lv_at hl 0 rfl) ?_
      refine lv_dup hx hb d_Q_call_255 rfl ?_
      refine va_get (D := z.1) (ci := 5) (v := .int (qHa S_35)) (C := R_Q) (T := F_Q) (N := 28) hx hb hts i_Q hown hK hP 0 rfl rfl 19 (by decide) (hts _ wq_570) (fun _ h9 => h9) rfl d_Q_call_256 ?_
      refine lv_iconst (v := 1) hx hb d_Q_call_259 (by decide) ?_
      refine lv_iadd hx hb d_Q_call_260 ?_
      obtain ⟨S_40, e_40, h⟩ := zz_let h
      refine va_put (D := z.1) (ci := 5) (v := .int ((qHa S_35) + (1 : Int32))) (ty := .int) (C := R_Q) (T := F_Q) (N := 28) hx hb hts i_Q ty_Q ty_Q_ok n_Q hown hK hP hD hS 0 rfl rfl 19 (by decide) (hts _ wq_570) (fun _ h9 => h9) rfl (by decide +kernel) rfl rfl (Nat.le_of_ble_eq_true rfl) d_Q_call_261 (fun H locs hP hD hS => ?_)
      have hP : va_P z.1 vwCl (qw z B S_40 ++ Rr) H := by rw [e_40]; exact hP
      have hD : va_D A0 (qw z B S_40 ++ Rr) := by rw [e_40]; exact hD
      refine lv_goto (tgt := 297) hx hb d_Q_call_264 (by decide) ?_
      exact J297 _ _ h _ _ _ hP hD hS (lv_sub hl [0, 5] rfl)
  have J125 : ∀ (k0 : Int32) (v1 : Int32) (v2 : Int32) (v3 : Int32) (v4 : Int64) (S : ZQ), jx_Q_call_125 n k0 v1 v2 v3 v4 S = some (r0, S') → ∀ (H : Heap) (locs : List Loc) (ls : Array Slot), va_P z.1 vwCl (qw z B S ++ Rr) H → va_D A0 (qw z B S ++ Rr) → va_S A0 s.heap H locs → lv_has ls 12 [(0, .ref (B 0)), (1, .int v1), (2, .int v2), (3, .int v3), (4, .long v4)] → W p l e rm_Q_call s m args below meth c H locs 0 0 (zQ z below args s A0 (some (.int r0)) (qw z B S' ++ Rr)) (F0 m 125 ls [.int k0, .ref (B 0)]) := by
    intro k0 v1 v2 v3 v4 S h H locs ls hP hD hS hl
    unfold jx_Q_call_125 at h
    obtain ⟨S_20, e_20, h⟩ := zz_let h
    refine va_put (D := z.1) (ci := 5) (v := .int k0) (ty := .int) (C := R_Q) (T := F_Q) (N := 28) hx hb hts i_Q ty_Q ty_Q_ok n_Q hown hK hP hD hS 0 rfl rfl 0 (by decide) (hts _ wq_551) (fun _ h9 => h9) rfl (by decide +kernel) rfl rfl (Nat.le_of_ble_eq_true rfl) d_Q_call_125 (fun H locs hP hD hS => ?_)
    have hP : va_P z.1 vwCl (qw z B S_20 ++ Rr) H := by rw [e_20]; exact hP
    have hD : va_D A0 (qw z B S_20 ++ Rr) := by rw [e_20]; exact hD
    refine lv_aload_n hx hb d_Q_call_128 rfl (lv_at hl 0 rfl) ?_
    refine va_get (D := z.1) (ci := 5) (v := .int (qTh S_20)) (C := R_Q) (T := F_Q) (N := 28) hx hb hts i_Q hown hK hP 0 rfl rfl 0 (by decide) (hts _ wq_551) (fun _ h9 => h9) rfl d_Q_call_129 ?_
    refine lv_if_le (tgt := 137) hx hb d_Q_call_132 (by decide) (fun c_21 => ?_) (fun c_21 => ?_)
    · replace h := zz_t c_21 h
      refine lv_iload_n hx hb d_Q_call_137 rfl (lv_at hl 3 rfl) ?_
      refine lv_if_ne (tgt := 145) hx hb d_Q_call_138 (by decide) (fun c_22 => ?_) (fun c_22 => ?_)
      · replace h := zz_f c_22 h
        refine lv_lload hx hb d_Q_call_145 (lv_at hl 4 rfl) ?_
        refine lv_lconst (v := 1) hx hb d_Q_call_147 (by decide) ?_
        refine lv_bipush (v := 8) hx hb d_Q_call_148 (by decide) ?_
        refine lv_iload_n hx hb d_Q_call_150 rfl (lv_at hl 3 rfl) ?_
        refine lv_imul hx hb d_Q_call_151 ?_
        refine lv_lshl (v := ((1 : Int64) <<< (((8 : Int32) * v3).toInt64 &&& 63))) hx hb d_Q_call_152 rfl ?_
        refine lv_lconst (v := 1) hx hb d_Q_call_153 (by decide) ?_
        refine lv_lsub hx hb d_Q_call_154 ?_
        refine lv_land hx hb d_Q_call_155 ?_
        exact J156 _ _ _ _ _ h _ _ _ hP hD hS (lv_sub hl [0, 1, 2, 3] rfl)
      · replace h := zz_t c_22 h
        refine lv_lconst (v := 0) hx hb d_Q_call_141 (by decide) ?_
        refine lv_goto (tgt := 156) hx hb d_Q_call_142 (by decide) ?_
        exact J156 _ _ _ _ _ h _ _ _ hP hD hS (lv_sub hl [0, 1, 2, 3] rfl)
    · replace h := zz_f c_21 h
      refine lv_iconst (v := 0) hx hb d_Q_call_135 (by decide) ?_
      exact zz_iret (fun S => qw z B S ++ Rr) hx hb hr hlocks hP hD hS h d_Q_call_136
  have J33 : ∀ (k0 : Int32) (v1 : Int32) (v2 : Int32) (v3 : Int32) (v4 : Int64) (S : ZQ), jx_Q_call_33 n k0 v1 v2 v3 v4 S = some (r0, S') → ∀ (H : Heap) (locs : List Loc) (ls : Array Slot), va_P z.1 vwCl (qw z B S ++ Rr) H → va_D A0 (qw z B S ++ Rr) → va_S A0 s.heap H locs → lv_has ls 12 [(0, .ref (B 0)), (1, .int v1), (2, .int v2), (3, .int v3), (4, .long v4)] → W p l e rm_Q_call s m args below meth c H locs 0 0 (zQ z below args s A0 (some (.int r0)) (qw z B S' ++ Rr)) (F0 m 33 ls [.int k0]) := by
    intro k0 v1 v2 v3 v4 S h H locs ls hP hD hS hl
    unfold jx_Q_call_33 at h
    refine lv_istore (lv' := [(6, .int k0), (0, .ref (B 0)), (1, .int v1), (2, .int v2), (3, .int v3), (4, .long v4)]) hx hb d_Q_call_33 hl (by decide) rfl (fun ls hl => ?_)
    refine lv_iconst (v := 0) hx hb d_Q_call_35 (by decide) ?_
    refine lv_istore (lv' := [(7, .int (0 : Int32)), (6, .int k0), (0, .ref (B 0)), (1, .int v1), (2, .int v2), (3, .int v3), (4, .long v4)]) hx hb d_Q_call_36 hl (by decide) rfl (fun ls hl => ?_)
    replace h := zz_bL3 h
    obtain ⟨x_18, v6_18, v7_18, S_18, e_18, h⟩ := h
    refine lp_Q_call_L38 hM hA n v1 v2 v3 v4 _ _ _ _ e_18 ?_ _ _ _ hP hD hS (lv_sub hl [2, 3, 4, 5, 6, 1, 0] rfl)
    intro H locs ls hP hD hS hl
    have hl : lv_has ls 12 [(0, .ref (B 0)), (1, .int v1), (2, .int v2), (3, .int v3), (4, .long v4), (6, .int v6_18), (7, .int v7_18)] := hl
    have hP : va_P z.1 vwCl (qw z B S_18 ++ Rr) H := hP
    have hD : va_D A0 (qw z B S_18 ++ Rr) := hD
    replace h := zz_grd h
    obtain ⟨c_18, h⟩ := h
    subst c_18
    refine W.eq (g2 := F0 m 114 ls []) rfl ?_
    refine lv_aload_n hx hb d_Q_call_114 rfl (lv_at hl 0 rfl) ?_
    refine lv_iload hx hb d_Q_call_115 (lv_at hl 5 rfl) ?_
    refine lv_if_eq (tgt := 124) hx hb d_Q_call_117 (by decide) (fun c_19 => ?_) (fun c_19 => ?_)
    · replace h := zz_t c_19 h
      refine lv_iconst (v := 1) hx hb d_Q_call_124 (by decide) ?_
      exact J125 _ _ _ _ _ _ h _ _ _ hP hD hS (lv_sub hl [0, 1, 2, 3, 4] rfl)
    · replace h := zz_f c_19 h
      refine lv_iconst (v := 0) hx hb d_Q_call_120 (by decide) ?_
      refine lv_goto (tgt := 125) hx hb d_Q_call_121 (by decide) ?_
      exact J125 _ _ _ _ _ _ h _ _ _ hP hD hS (lv_sub hl [0, 1, 2, 3, 4] rfl)
  have J32 : ∀ (v1 : Int32) (v2 : Int32) (v3 : Int32) (v4 : Int64) (S : ZQ), jx_Q_call_32 n v1 v2 v3 v4 S = some (r0, S') → ∀ (H : Heap) (locs : List Loc) (ls : Array Slot), va_P z.1 vwCl (qw z B S ++ Rr) H → va_D A0 (qw z B S ++ Rr) → va_S A0 s.heap H locs → lv_has ls 12 [(0, .ref (B 0)), (1, .int v1), (2, .int v2), (3, .int v3), (4, .long v4)] → W p l e rm_Q_call s m args below meth c H locs 0 0 (zQ z below args s A0 (some (.int r0)) (qw z B S' ++ Rr)) (F0 m 32 ls []) := by
    intro v1 v2 v3 v4 S h H locs ls hP hD hS hl
    unfold jx_Q_call_32 at h
    refine lv_iconst (v := 0) hx hb d_Q_call_32 (by decide) ?_
    exact J33 _ _ _ _ _ _ h _ _ _ hP hD hS hl
  unfold fx_Q_call at h
  refine lv_aload_n hx hb d_Q_call_0 rfl (lv_at hl 0 rfl) ?_
  refine lv_iload_n hx hb d_Q_call_1 rfl (lv_at hl 1 rfl) ?_
  obtain ⟨r_1, S_1, e_1, h⟩ := zz_bind h
  refine zz_goI (zz_runV (As := [.int a1]) (rest := []) (k_Q_isOwn l z B Rr n _ _ _ _ e_1) ⟨hx, hb, hml, hown, hts⟩ (cwV 1 hts (zz_gV wq_644 wq_646 wp_18 wq_6 wq_647) rfl rfl rfl (by decide +kernel) ⟨Nat.le_of_ble_eq_true rfl, Nat.le_of_ble_eq_true rfl⟩) hK hN hP hD (va_recv hK hP (ci := 5) (q0 := 0) rfl rfl) rfl hl.1 rfl (Nat.le_of_ble_eq_true rfl) d_Q_call_2 ⟨Nat.le_of_ble_eq_true rfl, Nat.le_of_ble_eq_true rfl⟩) hD hS hA (fun H locs hP hD hS => ?_)
  refine lv_if_eq (tgt := 32) hx hb d_Q_call_5 (by decide) (fun c_2 => ?_) (fun c_2 => ?_)
  · replace h := zz_t c_2 h
    exact J32 _ _ _ _ _ h _ _ _ hP hD hS hl
  · replace h := zz_f c_2 h
    refine lv_iload_n hx hb d_Q_call_8 rfl (lv_at hl 2 rfl) ?_
    refine lv_if_lt (tgt := 32) hx hb d_Q_call_9 (by decide) (fun c_3 => ?_) (fun c_3 => ?_)
    · replace h := zz_t c_3 h
      exact J32 _ _ _ _ _ h _ _ _ hP hD hS hl
    · replace h := zz_f c_3 h
      refine lv_iload_n hx hb d_Q_call_12 rfl (lv_at hl 2 rfl) ?_
      refine lv_bipush (v := 10) hx hb d_Q_call_13 (by decide) ?_
      refine lv_icmp_ge (tgt := 32) hx hb d_Q_call_15 (by decide) (fun c_4 => ?_) (fun c_4 => ?_)
      · replace h := zz_t c_4 h
        exact J32 _ _ _ _ _ h _ _ _ hP hD hS hl
      · replace h := zz_f c_4 h
        refine lv_iload_n hx hb d_Q_call_18 rfl (lv_at hl 3 rfl) ?_
        refine lv_if_lt (tgt := 32) hx hb d_Q_call_19 (by decide) (fun c_5 => ?_) (fun c_5 => ?_)
        · replace h := zz_t c_5 h
          exact J32 _ _ _ _ _ h _ _ _ hP hD hS hl
        · replace h := zz_f c_5 h
          refine lv_iload_n hx hb d_Q_call_22 rfl (lv_at hl 3 rfl) ?_
          refine lv_bipush (v := 7) hx hb d_Q_call_23 (by decide) ?_
          refine lv_icmp_ge (tgt := 32) hx hb d_Q_call_25 (by decide) (fun c_6 => ?_) (fun c_6 => ?_)
          · replace h := zz_t c_6 h
            exact J32 _ _ _ _ _ h _ _ _ hP hD hS hl
          · replace h := zz_f c_6 h
            refine lv_iconst (v := 1) hx hb d_Q_call_28 (by decide) ?_
            refine lv_goto (tgt := 33) hx hb d_Q_call_29 (by decide) ?_
            exact J33 _ _ _ _ _ _ h _ _ _ hP hD hS hl

abbrev b_Q_look : ByteArray := prog_7_method_29_code
abbrev y_Q_look : MethodName := ⟨"MemberChooserModel", "look", "(II)I"⟩
abbrev w_Q_look : List Cond := Cond.code y_Q_look b_Q_look 3 (some .int) :: zTb
theorem d_Q_look_0 : decode b_Q_look 0 = .ok (.aload_n 0, 1) := by decide +kernel
theorem d_Q_look_1 : decode b_Q_look 1 = .ok (.iconst 0, 1) := by decide +kernel
theorem d_Q_look_2 : decode b_Q_look 2 = .ok (.putfield 73, 3) := by decide +kernel
theorem d_Q_look_5 : decode b_Q_look 5 = .ok (.iload_n 1, 1) := by decide +kernel
theorem d_Q_look_6 : decode b_Q_look 6 = .ok (.ifCond .lt 15, 3) := by decide +kernel
theorem d_Q_look_9 : decode b_Q_look 9 = .ok (.iload_n 1, 1) := by decide +kernel
theorem d_Q_look_10 : decode b_Q_look 10 = .ok (.aload_n 0, 1) := by decide +kernel
theorem d_Q_look_11 : decode b_Q_look 11 = .ok (.getfield 104, 3) := by decide +kernel
theorem d_Q_look_14 : decode b_Q_look 14 = .ok (.if_icmp .ge 7, 3) := by decide +kernel
theorem d_Q_look_17 : decode b_Q_look 17 = .ok (.iload_n 2, 1) := by decide +kernel
theorem d_Q_look_18 : decode b_Q_look 18 = .ok (.ifCond .ge 5, 3) := by decide +kernel
theorem d_Q_look_21 : decode b_Q_look 21 = .ok (.iconst (-1), 1) := by decide +kernel
theorem d_Q_look_22 : decode b_Q_look 22 = .ok (.ireturn, 1) := by decide +kernel
theorem d_Q_look_23 : decode b_Q_look 23 = .ok (.iload_n 2, 1) := by decide +kernel
theorem d_Q_look_24 : decode b_Q_look 24 = .ok (.iconst 3, 1) := by decide +kernel
theorem d_Q_look_25 : decode b_Q_look 25 = .ok (.if_icmp .le 32, 3) := by decide +kernel
theorem d_Q_look_28 : decode b_Q_look 28 = .ok (.iload_n 2, 1) := by decide +kernel
theorem d_Q_look_29 : decode b_Q_look 29 = .ok (.iconst 4, 1) := by decide +kernel
theorem d_Q_look_30 : decode b_Q_look 30 = .ok (.isub, 1) := by decide +kernel
theorem d_Q_look_31 : decode b_Q_look 31 = .ok (.aload_n 0, 1) := by decide +kernel
theorem d_Q_look_32 : decode b_Q_look 32 = .ok (.getfield 33, 3) := by decide +kernel
theorem d_Q_look_35 : decode b_Q_look 35 = .ok (.iload_n 1, 1) := by decide +kernel
theorem d_Q_look_36 : decode b_Q_look 36 = .ok (.iaload, 1) := by decide +kernel
theorem d_Q_look_37 : decode b_Q_look 37 = .ok (.if_icmp .ge 18, 3) := by decide +kernel
theorem d_Q_look_40 : decode b_Q_look 40 = .ok (.aload_n 0, 1) := by decide +kernel
theorem d_Q_look_41 : decode b_Q_look 41 = .ok (.getfield 36, 3) := by decide +kernel
theorem d_Q_look_44 : decode b_Q_look 44 = .ok (.iconst 4, 1) := by decide +kernel
theorem d_Q_look_45 : decode b_Q_look 45 = .ok (.iload_n 1, 1) := by decide +kernel
theorem d_Q_look_46 : decode b_Q_look 46 = .ok (.imul, 1) := by decide +kernel
theorem d_Q_look_47 : decode b_Q_look 47 = .ok (.iload_n 2, 1) := by decide +kernel
theorem d_Q_look_48 : decode b_Q_look 48 = .ok (.iadd, 1) := by decide +kernel
theorem d_Q_look_49 : decode b_Q_look 49 = .ok (.iconst 4, 1) := by decide +kernel
theorem d_Q_look_50 : decode b_Q_look 50 = .ok (.isub, 1) := by decide +kernel
theorem d_Q_look_51 : decode b_Q_look 51 = .ok (.iaload, 1) := by decide +kernel
theorem d_Q_look_52 : decode b_Q_look 52 = .ok (.goto 4, 3) := by decide +kernel
theorem d_Q_look_55 : decode b_Q_look 55 = .ok (.iconst (-1), 1) := by decide +kernel
theorem d_Q_look_56 : decode b_Q_look 56 = .ok (.ireturn, 1) := by decide +kernel
theorem d_Q_look_57 : decode b_Q_look 57 = .ok (.iload_n 2, 1) := by decide +kernel
theorem d_Q_look_58 : decode b_Q_look 58 = .ok (.ifCond .ne 12, 3) := by decide +kernel
theorem d_Q_look_61 : decode b_Q_look 61 = .ok (.aload_n 0, 1) := by decide +kernel
theorem d_Q_look_62 : decode b_Q_look 62 = .ok (.getfield 27, 3) := by decide +kernel
theorem d_Q_look_65 : decode b_Q_look 65 = .ok (.iload_n 1, 1) := by decide +kernel
theorem d_Q_look_66 : decode b_Q_look 66 = .ok (.iaload, 1) := by decide +kernel
theorem d_Q_look_67 : decode b_Q_look 67 = .ok (.goto 45, 3) := by decide +kernel
theorem d_Q_look_70 : decode b_Q_look 70 = .ok (.iload_n 2, 1) := by decide +kernel
theorem d_Q_look_71 : decode b_Q_look 71 = .ok (.iconst 1, 1) := by decide +kernel
theorem d_Q_look_72 : decode b_Q_look 72 = .ok (.if_icmp .ne 12, 3) := by decide +kernel
theorem d_Q_look_75 : decode b_Q_look 75 = .ok (.aload_n 0, 1) := by decide +kernel
theorem d_Q_look_76 : decode b_Q_look 76 = .ok (.getfield 30, 3) := by decide +kernel
theorem d_Q_look_79 : decode b_Q_look 79 = .ok (.iload_n 1, 1) := by decide +kernel
theorem d_Q_look_80 : decode b_Q_look 80 = .ok (.iaload, 1) := by decide +kernel
theorem d_Q_look_81 : decode b_Q_look 81 = .ok (.goto 31, 3) := by decide +kernel
theorem d_Q_look_84 : decode b_Q_look 84 = .ok (.iload_n 2, 1) := by decide +kernel
theorem d_Q_look_85 : decode b_Q_look 85 = .ok (.iconst 2, 1) := by decide +kernel
theorem d_Q_look_86 : decode b_Q_look 86 = .ok (.if_icmp .ne 12, 3) := by decide +kernel
theorem d_Q_look_89 : decode b_Q_look 89 = .ok (.aload_n 0, 1) := by decide +kernel
theorem d_Q_look_90 : decode b_Q_look 90 = .ok (.getfield 33, 3) := by decide +kernel
theorem d_Q_look_93 : decode b_Q_look 93 = .ok (.iload_n 1, 1) := by decide +kernel
theorem d_Q_look_94 : decode b_Q_look 94 = .ok (.iaload, 1) := by decide +kernel
theorem d_Q_look_95 : decode b_Q_look 95 = .ok (.goto 17, 3) := by decide +kernel
theorem d_Q_look_98 : decode b_Q_look 98 = .ok (.aload_n 0, 1) := by decide +kernel
theorem d_Q_look_99 : decode b_Q_look 99 = .ok (.getfield 39, 3) := by decide +kernel
theorem d_Q_look_102 : decode b_Q_look 102 = .ok (.iload_n 1, 1) := by decide +kernel
theorem d_Q_look_103 : decode b_Q_look 103 = .ok (.baload, 1) := by decide +kernel
theorem d_Q_look_104 : decode b_Q_look 104 = .ok (.ifCond .eq 7, 3) := by decide +kernel
theorem d_Q_look_107 : decode b_Q_look 107 = .ok (.iconst 1, 1) := by decide +kernel
theorem d_Q_look_108 : decode b_Q_look 108 = .ok (.goto 4, 3) := by decide +kernel
theorem d_Q_look_111 : decode b_Q_look 111 = .ok (.iconst 0, 1) := by decide +kernel
theorem d_Q_look_112 : decode b_Q_look 112 = .ok (.ireturn, 1) := by decide +kernel
abbrev rm_Q_look : Room := { frames := 0, cells := 0, slots := 0, locals := 0 }
def fx_Q_look (n : Nat) (S : ZQ) (a1 : Int32) (a2 : Int32) : Option (Int32 × ZQ) :=
  zlet (qTh' S (0 : Int32)) (fun S_1 =>
  (if a1 < 0 then
  some ((-1 : Int32), S_1)
  else
  (if (qMe S_1) ≤ a1 then
    some ((-1 : Int32), S_1)
    else
    (if 0 ≤ a2 then
      (if a2 ≤ (3 : Int32) then
        (if a2 = 0 then
          (if zoob a1 80 then none else
            some (((qOw S_1) a1.toNatClampNeg), S_1))
          else
          (if a2 = (1 : Int32) then
            (if zoob a1 80 then none else
              some (((qNa S_1) a1.toNatClampNeg), S_1))
            else
            (if a2 = (2 : Int32) then
              (if zoob a1 80 then none else
                some (((qMa S_1) a1.toNatClampNeg), S_1))
              else
              (if zoob a1 80 then none else
                (if ((qVa S_1) a1.toNatClampNeg) = 0 then
                some ((0 : Int32), S_1)
                else
                some ((1 : Int32), S_1))))))
        else
        (if zoob a1 80 then none else
          (if ((qMa S_1) a1.toNatClampNeg) ≤ (a2 - (4 : Int32)) then
          some ((-1 : Int32), S_1)
          else
          (if zoob ((((4 : Int32) * a1) + a2) - (4 : Int32)) 320 then none else
            some (((qPa S_1) ((((4 : Int32) * a1) + a2) - (4 : Int32)).toNatClampNeg), S_1)))))
      else
      some ((-1 : Int32), S_1)))))

set_option maxRecDepth 100000 in
set_option maxHeartbeats 4000000 in
theorem k_Q_look (l : Launch) (z : zE) (B : Nat → Nat) (Rr : va_W) (n : Nat) (S : ZQ) (a1 : Int32) (a2 : Int32) (r0 : Int32) (S' : ZQ) (h : fx_Q_look n S a1 a2 = some (r0, S')) : zC z l y_Q_look w_Q_look rm_Q_look [.ref (B 0), .int a1, .int a2] (qw z B S ++ Rr) (some (.int r0)) (qw z B S' ++ Rr) := by
  refine zz_of (by decide) (Nat.le_of_ble_eq_true rfl) ?_
  intro p e s m args below meth c A0 ls hM hr hlocks hA hP hD hl
  have hM : zM z p s m args c b_Q_look 3 R_Q := hM
  obtain ⟨hx, hb, hml, hown, hts, hK, hN⟩ := id hM
  have hS : va_S A0 s.heap s.heap [] := va_S.rf
  have hl : lv_has ls 3 [(0, .ref (B 0)), (1, .int a1), (2, .int a2)] := hl
  unfold fx_Q_look at h
  refine lv_aload_n hx hb d_Q_look_0 rfl (lv_at hl 0 rfl) ?_
  refine lv_iconst (v := 0) hx hb d_Q_look_1 (by decide) ?_
  obtain ⟨S_1, e_1, h⟩ := zz_let h
  refine va_put (D := z.1) (ci := 5) (v := .int (0 : Int32)) (ty := .int) (C := R_Q) (T := F_Q) (N := 28) hx hb hts i_Q ty_Q ty_Q_ok n_Q hown hK hP hD hS 0 rfl rfl 0 (by decide) (hts _ wq_551) (fun _ h9 => h9) rfl (by decide +kernel) rfl rfl (Nat.le_of_ble_eq_true rfl) d_Q_look_2 (fun H locs hP hD hS => ?_)
  have hP : va_P z.1 vwCl (qw z B S_1 ++ Rr) H := by rw [e_1]; exact hP
  have hD : va_D A0 (qw z B S_1 ++ Rr) := by rw [e_1]; exact hD
  refine lv_iload_n hx hb d_Q_look_5 rfl (lv_at hl 1 rfl) ?_
  refine lv_if_lt (tgt := 21) hx hb d_Q_look_6 (by decide) (fun c_2 => ?_) (fun c_2 => ?_)
  · replace h := zz_t c_2 h
    refine lv_iconst (v := -1) hx hb d_Q_look_21 (by decide) ?_
    exact zz_iret (fun S => qw z B S ++ Rr) hx hb hr hlocks hP hD hS h d_Q_look_22
  · replace h := zz_f c_2 h
    refine lv_iload_n hx hb d_Q_look_9 rfl (lv_at hl 1 rfl) ?_
    refine lv_aload_n hx hb d_Q_look_10 rfl (lv_at hl 0 rfl) ?_
    refine va_get (D := z.1) (ci := 5) (v := .int (qMe S_1)) (C := R_Q) (T := F_Q) (N := 28) hx hb hts i_Q hown hK hP 0 rfl rfl 6 (by decide) (hts _ wq_557) (fun _ h9 => h9) rfl d_Q_look_11 ?_
    refine lv_icmp_ge (tgt := 21) hx hb d_Q_look_14 (by decide) (fun c_3 => ?_) (fun c_3 => ?_)
    · replace h := zz_t c_3 h
      refine lv_iconst (v := -1) hx hb d_Q_look_21 (by decide) ?_
      exact zz_iret (fun S => qw z B S ++ Rr) hx hb hr hlocks hP hD hS h d_Q_look_22
    · replace h := zz_f c_3 h
      refine lv_iload_n hx hb d_Q_look_17 rfl (lv_at hl 2 rfl) ?_
      refine lv_if_ge (tgt := 23) hx hb d_Q_look_18 (by decide) (fun c_4 => ?_) (fun c_4 => ?_)
      · replace h := zz_t c_4 h
        refine lv_iload_n hx hb d_Q_look_23 rfl (lv_at hl 2 rfl) ?_
        refine lv_iconst (v := 3) hx hb d_Q_look_24 (by decide) ?_
        refine lv_icmp_le (tgt := 57) hx hb d_Q_look_25 (by decide) (fun c_5 => ?_) (fun c_5 => ?_)
        · replace h := zz_t c_5 h
          refine lv_iload_n hx hb d_Q_look_57 rfl (lv_at hl 2 rfl) ?_
          refine lv_if_ne (tgt := 70) hx hb d_Q_look_58 (by decide) (fun c_6 => ?_) (fun c_6 => ?_)
          · replace h := zz_f c_6 h
            refine lv_iload_n hx hb d_Q_look_70 rfl (lv_at hl 2 rfl) ?_
            refine lv_iconst (v := 1) hx hb d_Q_look_71 (by decide) ?_
            refine lv_icmp_ne (tgt := 84) hx hb d_Q_look_72 (by decide) (fun c_7 => ?_) (fun c_7 => ?_)
            · replace h := zz_f c_7 h
              refine lv_iload_n hx hb d_Q_look_84 rfl (lv_at hl 2 rfl) ?_
              refine lv_iconst (v := 2) hx hb d_Q_look_85 (by decide) ?_
              refine lv_icmp_ne (tgt := 98) hx hb d_Q_look_86 (by decide) (fun c_8 => ?_) (fun c_8 => ?_)
              · replace h := zz_f c_8 h
                refine lv_aload_n hx hb d_Q_look_98 rfl (lv_at hl 0 rfl) ?_
                refine va_get (D := z.1) (ci := 5) (v := .ref (B 9)) (C := R_Q) (T := F_Q) (N := 28) hx hb hts i_Q hown hK hP 0 rfl rfl 11 (by decide) (hts _ wq_562) (fun _ h9 => h9) rfl d_Q_look_99 ?_
                refine lv_iload_n hx hb d_Q_look_102 rfl (lv_at hl 1 rfl) ?_
                obtain ⟨c_9, h⟩ := zz_oob h
                refine va_zald hx hb hK hP 9 1 rfl rfl c_9 d_Q_look_103 ?_
                refine lv_if_eq (tgt := 111) hx hb d_Q_look_104 (by decide) (fun c_10 => ?_) (fun c_10 => ?_)
                · replace h := zz_t c_10 h
                  refine lv_iconst (v := 0) hx hb d_Q_look_111 (by decide) ?_
                  exact zz_iret (fun S => qw z B S ++ Rr) hx hb hr hlocks hP hD hS h d_Q_look_112
                · replace h := zz_f c_10 h
                  refine lv_iconst (v := 1) hx hb d_Q_look_107 (by decide) ?_
                  refine lv_goto (tgt := 112) hx hb d_Q_look_108 (by decide) ?_
                  exact zz_iret (fun S => qw z B S ++ Rr) hx hb hr hlocks hP hD hS h d_Q_look_112
              · replace h := zz_t c_8 h
                refine lv_aload_n hx hb d_Q_look_89 rfl (lv_at hl 0 rfl) ?_
                refine va_get (D := z.1) (ci := 5) (v := .ref (B 7)) (C := R_Q) (T := F_Q) (N := 28) hx hb hts i_Q hown hK hP 0 rfl rfl 9 (by decide) (hts _ wq_560) (fun _ h9 => h9) rfl d_Q_look_90 ?_
                refine lv_iload_n hx hb d_Q_look_93 rfl (lv_at hl 1 rfl) ?_
                obtain ⟨c_11, h⟩ := zz_oob h
                refine va_iald hx hb hK hP 7 0 rfl rfl c_11 d_Q_look_94 ?_
                refine lv_goto (tgt := 112) hx hb d_Q_look_95 (by decide) ?_
                exact zz_iret (fun S => qw z B S ++ Rr) hx hb hr hlocks hP hD hS h d_Q_look_112
            · replace h := zz_t c_7 h
              refine lv_aload_n hx hb d_Q_look_75 rfl (lv_at hl 0 rfl) ?_
              refine va_get (D := z.1) (ci := 5) (v := .ref (B 6)) (C := R_Q) (T := F_Q) (N := 28) hx hb hts i_Q hown hK hP 0 rfl rfl 8 (by decide) (hts _ wq_559) (fun _ h9 => h9) rfl d_Q_look_76 ?_
              refine lv_iload_n hx hb d_Q_look_79 rfl (lv_at hl 1 rfl) ?_
              obtain ⟨c_12, h⟩ := zz_oob h
              refine va_iald hx hb hK hP 6 0 rfl rfl c_12 d_Q_look_80 ?_
              refine lv_goto (tgt := 112) hx hb d_Q_look_81 (by decide) ?_
              exact zz_iret (fun S => qw z B S ++ Rr) hx hb hr hlocks hP hD hS h d_Q_look_112
          · replace h := zz_t c_6 h
            refine lv_aload_n hx hb d_Q_look_61 rfl (lv_at hl 0 rfl) ?_
            refine va_get (D := z.1) (ci := 5) (v := .ref (B 5)) (C := R_Q) (T := F_Q) (N := 28) hx hb hts i_Q hown hK hP 0 rfl rfl 7 (by decide) (hts _ wq_558) (fun _ h9 => h9) rfl d_Q_look_62 ?_
            refine lv_iload_n hx hb d_Q_look_65 rfl (lv_at hl 1 rfl) ?_
            obtain ⟨c_13, h⟩ := zz_oob h
            refine va_iald hx hb hK hP 5 0 rfl rfl c_13 d_Q_look_66 ?_
            refine lv_goto (tgt := 112) hx hb d_Q_look_67 (by decide) ?_
            exact zz_iret (fun S => qw z B S ++ Rr) hx hb hr hlocks hP hD hS h d_Q_look_112
        · replace h := zz_f c_5 h
          refine lv_iload_n hx hb d_Q_look_28 rfl (lv_at hl 2 rfl) ?_
          refine lv_iconst (v := 4) hx hb d_Q_look_29 (by decide) ?_
          refine lv_isub hx hb d_Q_look_30 ?_
          refine lv_aload_n hx hb d_Q_look_31 rfl (lv_at hl 0 rfl) ?_
          refine va_get (D := z.1) (ci := 5) (v := .ref (B 7)) (C := R_Q) (T := F_Q) (N := 28) hx hb hts i_Q hown hK hP 0 rfl rfl 9 (by decide) (hts _ wq_560) (fun _ h9 => h9) rfl d_Q_look_32 ?_
          refine lv_iload_n hx hb d_Q_look_35 rfl (lv_at hl 1 rfl) ?_
          obtain ⟨c_14, h⟩ := zz_oob h
          refine va_iald hx hb hK hP 7 0 rfl rfl c_14 d_Q_look_36 ?_
          refine lv_icmp_ge (tgt := 55) hx hb d_Q_look_37 (by decide) (fun c_15 => ?_) (fun c_15 => ?_)
          · replace h := zz_t c_15 h
            refine lv_iconst (v := -1) hx hb d_Q_look_55 (by decide) ?_
            exact zz_iret (fun S => qw z B S ++ Rr) hx hb hr hlocks hP hD hS h d_Q_look_56
          · replace h := zz_f c_15 h
            refine lv_aload_n hx hb d_Q_look_40 rfl (lv_at hl 0 rfl) ?_
            refine va_get (D := z.1) (ci := 5) (v := .ref (B 8)) (C := R_Q) (T := F_Q) (N := 28) hx hb hts i_Q hown hK hP 0 rfl rfl 10 (by decide) (hts _ wq_561) (fun _ h9 => h9) rfl d_Q_look_41 ?_
            refine lv_iconst (v := 4) hx hb d_Q_look_44 (by decide) ?_
            refine lv_iload_n hx hb d_Q_look_45 rfl (lv_at hl 1 rfl) ?_
            refine lv_imul hx hb d_Q_look_46 ?_
            refine lv_iload_n hx hb d_Q_look_47 rfl (lv_at hl 2 rfl) ?_
            refine lv_iadd hx hb d_Q_look_48 ?_
            refine lv_iconst (v := 4) hx hb d_Q_look_49 (by decide) ?_
            refine lv_isub hx hb d_Q_look_50 ?_
            obtain ⟨c_16, h⟩ := zz_oob h
            refine va_iald hx hb hK hP 8 0 rfl rfl c_16 d_Q_look_51 ?_
            refine lv_goto (tgt := 56) hx hb d_Q_look_52 (by decide) ?_
            exact zz_iret (fun S => qw z B S ++ Rr) hx hb hr hlocks hP hD hS h d_Q_look_56
      · replace h := zz_f c_4 h
        refine lv_iconst (v := -1) hx hb d_Q_look_21 (by decide) ?_
        exact zz_iret (fun S => qw z B S ++ Rr) hx hb hr hlocks hP hD hS h d_Q_look_22

