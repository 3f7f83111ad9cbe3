abbrev b_Q_standFaces : ByteArray := prog_7_method_18_code
abbrev y_Q_standFaces : MethodName := ⟨"MemberChooserModel", "standFaces", "(I)V"⟩
abbrev w_Q_standFaces : List Cond := Cond.code y_Q_standFaces b_Q_standFaces 5 none :: zTb
theorem d_Q_standFaces_0 : decode b_Q_standFaces 0 = .ok (.iconst 0, 1) := by decide +kernel
theorem d_Q_standFaces_1 : decode b_Q_standFaces 1 = .ok (.istore_n 2, 1) := by decide +kernel
theorem d_Q_standFaces_2 : decode b_Q_standFaces 2 = .ok (.aload_n 0, 1) := by decide +kernel
theorem d_Q_standFaces_3 : decode b_Q_standFaces 3 = .ok (.getfield 21, 3) := by decide +kernel
theorem d_Q_standFaces_6 : decode b_Q_standFaces 6 = .ok (.iload_n 1, 1) := by decide +kernel
theorem d_Q_standFaces_7 : decode b_Q_standFaces 7 = .ok (.iaload, 1) := by decide +kernel
theorem d_Q_standFaces_8 : decode b_Q_standFaces 8 = .ok (.iconst 1, 1) := by decide +kernel
theorem d_Q_standFaces_9 : decode b_Q_standFaces 9 = .ok (.isub, 1) := by decide +kernel
theorem d_Q_standFaces_10 : decode b_Q_standFaces 10 = .ok (.istore_n 3, 1) := by decide +kernel
theorem d_Q_standFaces_11 : decode b_Q_standFaces 11 = .ok (.iload_n 3, 1) := by decide +kernel
theorem d_Q_standFaces_12 : decode b_Q_standFaces 12 = .ok (.ifCond .lt 29, 3) := by decide +kernel
theorem d_Q_standFaces_15 : decode b_Q_standFaces 15 = .ok (.aload_n 0, 1) := by decide +kernel
theorem d_Q_standFaces_16 : decode b_Q_standFaces 16 = .ok (.getfield 70, 3) := by decide +kernel
theorem d_Q_standFaces_19 : decode b_Q_standFaces 19 = .ok (.iload_n 2, 1) := by decide +kernel
theorem d_Q_standFaces_20 : decode b_Q_standFaces 20 = .ok (.aload_n 0, 1) := by decide +kernel
theorem d_Q_standFaces_21 : decode b_Q_standFaces 21 = .ok (.getfield 24, 3) := by decide +kernel
theorem d_Q_standFaces_24 : decode b_Q_standFaces 24 = .ok (.bipush 32, 2) := by decide +kernel
theorem d_Q_standFaces_26 : decode b_Q_standFaces 26 = .ok (.iload_n 1, 1) := by decide +kernel
theorem d_Q_standFaces_27 : decode b_Q_standFaces 27 = .ok (.imul, 1) := by decide +kernel
theorem d_Q_standFaces_28 : decode b_Q_standFaces 28 = .ok (.iload_n 3, 1) := by decide +kernel
theorem d_Q_standFaces_29 : decode b_Q_standFaces 29 = .ok (.iadd, 1) := by decide +kernel
theorem d_Q_standFaces_30 : decode b_Q_standFaces 30 = .ok (.iaload, 1) := by decide +kernel
theorem d_Q_standFaces_31 : decode b_Q_standFaces 31 = .ok (.iastore, 1) := by decide +kernel
theorem d_Q_standFaces_32 : decode b_Q_standFaces 32 = .ok (.iinc 2 1, 3) := by decide +kernel
theorem d_Q_standFaces_35 : decode b_Q_standFaces 35 = .ok (.iinc 3 (-1), 3) := by decide +kernel
theorem d_Q_standFaces_38 : decode b_Q_standFaces 38 = .ok (.goto (-27), 3) := by decide +kernel
theorem d_Q_standFaces_41 : decode b_Q_standFaces 41 = .ok (.iload_n 2, 1) := by decide +kernel
theorem d_Q_standFaces_42 : decode b_Q_standFaces 42 = .ok (.ifCond .le 69, 3) := by decide +kernel
theorem d_Q_standFaces_45 : decode b_Q_standFaces 45 = .ok (.iinc 2 (-1), 3) := by decide +kernel
theorem d_Q_standFaces_48 : decode b_Q_standFaces 48 = .ok (.aload_n 0, 1) := by decide +kernel
theorem d_Q_standFaces_49 : decode b_Q_standFaces 49 = .ok (.getfield 70, 3) := by decide +kernel
theorem d_Q_standFaces_52 : decode b_Q_standFaces 52 = .ok (.iload_n 2, 1) := by decide +kernel
theorem d_Q_standFaces_53 : decode b_Q_standFaces 53 = .ok (.iaload, 1) := by decide +kernel
theorem d_Q_standFaces_54 : decode b_Q_standFaces 54 = .ok (.istore_n 3, 1) := by decide +kernel
theorem d_Q_standFaces_55 : decode b_Q_standFaces 55 = .ok (.aload_n 0, 1) := by decide +kernel
theorem d_Q_standFaces_56 : decode b_Q_standFaces 56 = .ok (.iload_n 3, 1) := by decide +kernel
theorem d_Q_standFaces_57 : decode b_Q_standFaces 57 = .ok (.invokevirtual 117, 3) := by decide +kernel
theorem d_Q_standFaces_60 : decode b_Q_standFaces 60 = .ok (.ifCond .ne 6, 3) := by decide +kernel
theorem d_Q_standFaces_63 : decode b_Q_standFaces 63 = .ok (.goto (-22), 3) := by decide +kernel
theorem d_Q_standFaces_66 : decode b_Q_standFaces 66 = .ok (.aload_n 0, 1) := by decide +kernel
theorem d_Q_standFaces_67 : decode b_Q_standFaces 67 = .ok (.getfield 21, 3) := by decide +kernel
theorem d_Q_standFaces_70 : decode b_Q_standFaces 70 = .ok (.iload_n 3, 1) := by decide +kernel
theorem d_Q_standFaces_71 : decode b_Q_standFaces 71 = .ok (.iaload, 1) := by decide +kernel
theorem d_Q_standFaces_72 : decode b_Q_standFaces 72 = .ok (.iconst 1, 1) := by decide +kernel
theorem d_Q_standFaces_73 : decode b_Q_standFaces 73 = .ok (.isub, 1) := by decide +kernel
theorem d_Q_standFaces_74 : decode b_Q_standFaces 74 = .ok (.istore 4, 2) := by decide +kernel
theorem d_Q_standFaces_76 : decode b_Q_standFaces 76 = .ok (.iload 4, 2) := by decide +kernel
theorem d_Q_standFaces_78 : decode b_Q_standFaces 78 = .ok (.ifCond .lt 30, 3) := by decide +kernel
theorem d_Q_standFaces_81 : decode b_Q_standFaces 81 = .ok (.aload_n 0, 1) := by decide +kernel
theorem d_Q_standFaces_82 : decode b_Q_standFaces 82 = .ok (.getfield 70, 3) := by decide +kernel
theorem d_Q_standFaces_85 : decode b_Q_standFaces 85 = .ok (.iload_n 2, 1) := by decide +kernel
theorem d_Q_standFaces_86 : decode b_Q_standFaces 86 = .ok (.aload_n 0, 1) := by decide +kernel
theorem d_Q_standFaces_87 : decode b_Q_standFaces 87 = .ok (.getfield 24, 3) := by decide +kernel
theorem d_Q_standFaces_90 : decode b_Q_standFaces 90 = .ok (.bipush 32, 2) := by decide +kernel
theorem d_Q_standFaces_92 : decode b_Q_standFaces 92 = .ok (.iload_n 3, 1) := by decide +kernel
theorem d_Q_standFaces_93 : decode b_Q_standFaces 93 = .ok (.imul, 1) := by decide +kernel
theorem d_Q_standFaces_94 : decode b_Q_standFaces 94 = .ok (.iload 4, 2) := by decide +kernel
theorem d_Q_standFaces_96 : decode b_Q_standFaces 96 = .ok (.iadd, 1) := by decide +kernel
theorem d_Q_standFaces_97 : decode b_Q_standFaces 97 = .ok (.iaload, 1) := by decide +kernel
theorem d_Q_standFaces_98 : decode b_Q_standFaces 98 = .ok (.iastore, 1) := by decide +kernel
theorem d_Q_standFaces_99 : decode b_Q_standFaces 99 = .ok (.iinc 2 1, 3) := by decide +kernel
theorem d_Q_standFaces_102 : decode b_Q_standFaces 102 = .ok (.iinc 4 (-1), 3) := by decide +kernel
theorem d_Q_standFaces_105 : decode b_Q_standFaces 105 = .ok (.goto (-29), 3) := by decide +kernel
theorem d_Q_standFaces_108 : decode b_Q_standFaces 108 = .ok (.goto (-67), 3) := by decide +kernel
theorem d_Q_standFaces_111 : decode b_Q_standFaces 111 = .ok (.return_, 1) := by decide +kernel
abbrev rm_Q_standFaces : Room := { frames := 1, cells := 0, slots := 0, locals := 22 }
def st_Q_standFaces_L11 (n : Nat) (v1 : Int32) (v2 : Int32) (v3 : Int32) (S : ZQ) : Option ((Int32 × Int32 × ZQ) ⊕ (Nat × Int32 × Int32 × ZQ)) :=
  (if v3 < 0 then
  some (.inr (41, v2, v3, S))
  else
  (if zoob (((32 : Int32) * v1) + v3) 1024 then none else
    (if zoob v2 1024 then none else
    zlet (qPi' S (upd (qPi S) v2.toNatClampNeg ((qFa S) (((32 : Int32) * v1) + v3).toNatClampNeg))) (fun S_5 =>
    some (.inl ((v2 + (1 : Int32)), (v3 + (-1 : Int32)), S_5))))))

def fx_Q_standFaces_L11 (n : Nat) (v1 : Int32) (v2 : Int32) (v3 : Int32) (S : ZQ) : Option (Nat × Int32 × Int32 × ZQ) := zloop (fun (st : Int32 × Int32 × ZQ) => st_Q_standFaces_L11 n v1 st.1 st.2.1 st.2.2) n (v2, v3, S)

def st_Q_standFaces_L76 (n : Nat) (v3 : Int32) (v2 : Int32) (v4 : Int32) (S : ZQ) : Option ((Int32 × Int32 × ZQ) ⊕ (Nat × Int32 × Int32 × ZQ)) :=
  (if v4 < 0 then
  some (.inr (108, v2, v4, S))
  else
  (if zoob (((32 : Int32) * v3) + v4) 1024 then none else
    (if zoob v2 1024 then none else
    zlet (qPi' S (upd (qPi S) v2.toNatClampNeg ((qFa S) (((32 : Int32) * v3) + v4).toNatClampNeg))) (fun S_15 =>
    some (.inl ((v2 + (1 : Int32)), (v4 + (-1 : Int32)), S_15))))))

def fx_Q_standFaces_L76 (n : Nat) (v3 : Int32) (v2 : Int32) (v4 : Int32) (S : ZQ) : Option (Nat × Int32 × Int32 × ZQ) := zloop (fun (st : Int32 × Int32 × ZQ) => st_Q_standFaces_L76 n v3 st.1 st.2.1 st.2.2) n (v2, v4, S)

def st_Q_standFaces_L41 (n : Nat)  (v2 : Int32) (S : ZQ) : Option ((Int32 × ZQ) ⊕ (Nat × Int32 × ZQ)) :=
  (if v2 ≤ 0 then
  some (.inr (111, v2, S))
  else
  (if zoob (v2 + (-1 : Int32)) 1024 then none else
    zbind (fx_Q_stand n S ((qPi S) (v2 + (-1 : Int32)).toNatClampNeg)) (fun r_9 S_9 =>
    (if r_9 = 0 then
    some (.inl ((v2 + (-1 : Int32)), S_9))
    else
    (if zoob ((qPi S) (v2 + (-1 : Int32)).toNatClampNeg) 32 then none else
      zbL3 (fx_Q_standFaces_L76 n ((qPi S) (v2 + (-1 : Int32)).toNatClampNeg) (v2 + (-1 : Int32)) (((qFm S_9) ((qPi S) (v2 + (-1 : Int32)).toNatClampNeg).toNatClampNeg) - (1 : Int32)) S_9) (fun x_16 v2_16 v4_16 S_16 =>
      if x_16 = 108 then
      some (.inl (v2_16, S_16))
      else none))))))

def fx_Q_standFaces_L41 (n : Nat)  (v2 : Int32) (S : ZQ) : Option (Nat × Int32 × ZQ) := zloop (fun (st : Int32 × ZQ) => st_Q_standFaces_L41 n st.1 st.2) n (v2, S)

def fx_Q_standFaces (n : Nat) (S : ZQ) (a1 : Int32) : Option (ZQ) :=
  (if zoob a1 32 then none else
  zbL3 (fx_Q_standFaces_L11 n a1 (0 : Int32) (((qFm S) a1.toNatClampNeg) - (1 : Int32)) S) (fun x_6 v2_6 v3_6 S_6 =>
  if x_6 = 41 then
  zbL2 (fx_Q_standFaces_L41 n v2_6 S_6) (fun x_17 v2_17 S_17 =>
  if x_17 = 111 then
  some S_17
  else none)
  else none))

set_option maxRecDepth 100000 in
set_option maxHeartbeats 4000000 in
theorem lp_Q_standFaces_L11 {z : zE} {B : Nat → Nat} {Rr : va_W} {p : Program} {l : Launch} {e : Env} {s : State} {m : MethodId} {args : Array Value} {below : List Frame} {meth : Method} {c : Code} {Q : State → Prop} {H0 : Heap} {A0 : Nat → Prop} (hM : zM z p s m args c b_Q_standFaces 5 R_Q) (hA : ∀ q : Nat, H0.size ≤ q → A0 q) (n : Nat) (v1 : Int32) :
    ∀ (v2 : Int32) (v3 : Int32) (S : ZQ) (r : Nat × Int32 × Int32 × ZQ), fx_Q_standFaces_L11 n v1 v2 v3 S = some r → (∀ (H : Heap) (locs : List Loc) (ls : Array Slot), va_P z.1 vwCl (qw z B r.2.2.2 ++ Rr) H → va_D A0 (qw z B r.2.2.2 ++ Rr) → va_S A0 H0 H locs → lv_has ls 5 [(0, .ref (B 0)), (1, .int v1), (2, .int r.2.1), (3, .int r.2.2.1)] → W p l e rm_Q_standFaces s m args below meth c H locs 0 0 Q (F0 m r.1 ls [])) →
    ∀ (H : Heap) (locs : List Loc) (ls : Array Slot), va_P z.1 vwCl (qw z B S ++ Rr) H → va_D A0 (qw z B S ++ Rr) → va_S A0 H0 H locs → lv_has ls 5 [(0, .ref (B 0)), (1, .int v1), (2, .int v2), (3, .int v3)] → W p l e rm_Q_standFaces s m args below meth c H locs 0 0 Q (F0 m 11 ls []) := by
  obtain ⟨hx, hb, hml, hown, hts, hK, hN⟩ := id hM
  intro v2 v3 S r h hE
  refine zz_loop (G := fun (st : Int32 × Int32 × ZQ) => ∀ (H : Heap) (locs : List Loc) (ls : Array Slot), va_P z.1 vwCl (qw z B st.2.2 ++ Rr) H → va_D A0 (qw z B st.2.2 ++ Rr) → va_S A0 H0 H locs → lv_has ls 5 [(0, .ref (B 0)), (1, .int v1), (2, .int st.1), (3, .int st.2.1)] → W p l e rm_Q_standFaces s m args below meth c H locs 0 0 Q (F0 m 11 ls [])) (E := fun (r : Nat × Int32 × Int32 × ZQ) => ∀ (H : Heap) (locs : List Loc) (ls : Array Slot), va_P z.1 vwCl (qw z B r.2.2.2 ++ Rr) H → va_D A0 (qw z B r.2.2.2 ++ Rr) → va_S A0 H0 H locs → lv_has ls 5 [(0, .ref (B 0)), (1, .int v1), (2, .int r.2.1), (3, .int r.2.2.1)] → W p l e rm_Q_standFaces s m args below meth c H locs 0 0 Q (F0 m r.1 ls [])) ?_ n (v2, v3, S) r h hE
  clear h hE r v2 v3 S
  rintro ⟨v2, v3, S⟩ o h hG hE H locs ls hP hD hS hl
  have h : st_Q_standFaces_L11 n v1 v2 v3 S = some o := h
  have hl : lv_has ls 5 [(0, .ref (B 0)), (1, .int v1), (2, .int v2), (3, .int v3)] := hl
  have hP : va_P z.1 vwCl (qw z B S ++ Rr) H := hP
  have hD : va_D A0 (qw z B S ++ Rr) := hD
  unfold st_Q_standFaces_L11 at h
  refine lv_iload_n hx hb d_Q_standFaces_11 rfl (lv_at hl 3 rfl) ?_
  refine lv_if_lt (tgt := 41) hx hb d_Q_standFaces_12 (by decide) (fun c_2 => ?_) (fun c_2 => ?_)
  · replace h := zz_t c_2 h
    exact hE _ (Option.some.inj h).symm _ _ _ hP hD hS hl
  · replace h := zz_f c_2 h
    refine lv_aload_n hx hb d_Q_standFaces_15 rfl (lv_at hl 0 rfl) ?_
    refine va_get (D := z.1) (ci := 5) (v := .ref (B 19)) (C := R_Q) (T := F_Q) (N := 28) hx hb hts i_Q hown hK hP 0 rfl rfl 27 (by decide) (hts _ wq_578) (fun _ h9 => h9) rfl d_Q_standFaces_16 ?_
    refine lv_iload_n hx hb d_Q_standFaces_19 rfl (lv_at hl 2 rfl) ?_
    refine lv_aload_n hx hb d_Q_standFaces_20 rfl (lv_at hl 0 rfl) ?_
    refine va_get (D := z.1) (ci := 5) (v := .ref (B 4)) (C := R_Q) (T := F_Q) (N := 28) hx hb hts i_Q hown hK hP 0 rfl rfl 5 (by decide) (hts _ wq_556) (fun _ h9 => h9) rfl d_Q_standFaces_21 ?_
    refine lv_bipush (v := 32) hx hb d_Q_standFaces_24 (by decide) ?_
    refine lv_iload_n hx hb d_Q_standFaces_26 rfl (lv_at hl 1 rfl) ?_
    refine lv_imul hx hb d_Q_standFaces_27 ?_
    refine lv_iload_n hx hb d_Q_standFaces_28 rfl (lv_at hl 3 rfl) ?_
    refine lv_iadd hx hb d_Q_standFaces_29 ?_
    obtain ⟨c_3, h⟩ := zz_oob h
    refine va_iald hx hb hK hP 4 0 rfl rfl c_3 d_Q_standFaces_30 ?_
    obtain ⟨c_4, h⟩ := zz_oob h
    obtain ⟨S_5, e_5, h⟩ := zz_let h
    refine va_iast hx hb hK hP hD hS 19 0 rfl rfl c_4 d_Q_standFaces_31 (fun H locs hP hD hS => ?_)
    have hP : va_P z.1 vwCl (qw z B S_5 ++ Rr) H := by rw [e_5]; exact hP
    have hD : va_D A0 (qw z B S_5 ++ Rr) := by rw [e_5]; exact hD
    refine lv_iinc (v := (v2 + (1 : Int32))) (lv' := [(2, .int (v2 + (1 : Int32))), (0, .ref (B 0)), (1, .int v1), (3, .int v3)]) hx hb d_Q_standFaces_32 hl (k := 2) rfl rfl (by decide) rfl (fun ls hl => ?_)
    refine lv_iinc (v := (v3 + (-1 : Int32))) (lv' := [(3, .int (v3 + (-1 : Int32))), (2, .int (v2 + (1 : Int32))), (0, .ref (B 0)), (1, .int v1)]) hx hb d_Q_standFaces_35 hl (k := 3) rfl rfl (by decide) rfl (fun ls hl => ?_)
    refine lv_goto (tgt := 11) hx hb d_Q_standFaces_38 (by decide) ?_
    exact hG _ (Option.some.inj h).symm _ _ _ hP hD hS (lv_sub hl [2, 3, 1, 0] rfl)

set_option maxRecDepth 100000 in
set_option maxHeartbeats 4000000 in
theorem lp_Q_standFaces_L76 {z : zE} {B : Nat → Nat} {Rr : va_W} {p : Program} {l : Launch} {e : Env} {s : State} {m : MethodId} {args : Array Value} {below : List Frame} {meth : Method} {c : Code} {Q : State → Prop} {H0 : Heap} {A0 : Nat → Prop} (hM : zM z p s m args c b_Q_standFaces 5 R_Q) (hA : ∀ q : Nat, H0.size ≤ q → A0 q) (n : Nat) (v3 : Int32) :
    ∀ (v2 : Int32) (v4 : Int32) (S : ZQ) (r : Nat × Int32 × Int32 × ZQ), fx_Q_standFaces_L76 n v3 v2 v4 S = some r → (∀ (H : Heap) (locs : List Loc) (ls : Array Slot), va_P z.1 vwCl (qw z B r.2.2.2 ++ Rr) H → va_D A0 (qw z B r.2.2.2 ++ Rr) → va_S A0 H0 H locs → lv_has ls 5 [(0, .ref (B 0)), (2, .int r.2.1), (3, .int v3), (4, .int r.2.2.1)] → W p l e rm_Q_standFaces s m args below meth c H locs 0 0 Q (F0 m r.1 ls [])) →
    ∀ (H : Heap) (locs : List Loc) (ls : Array Slot), va_P z.1 vwCl (qw z B S ++ Rr) H → va_D A0 (qw z B S ++ Rr) → va_S A0 H0 H locs → lv_has ls 5 [(0, .ref (B 0)), (2, .int v2), (3, .int v3), (4, .int v4)] → W p l e rm_Q_standFaces s m args below meth c H locs 0 0 Q (F0 m 76 ls []) := by
  obtain ⟨hx, hb, hml, hown, hts, hK, hN⟩ := id hM
  intro v2 v4 S r h hE
  refine zz_loop (G := fun (st : Int32 × Int32 × ZQ) => ∀ (H : Heap) (locs : List Loc) (ls : Array Slot), va_P z.1 vwCl (qw z B st.2.2 ++ Rr) H → va_D A0 (qw z B st.2.2 ++ Rr) → va_S A0 H0 H locs → lv_has ls 5 [(0, .ref (B 0)), (2, .int st.1), (3, .int v3), (4, .int st.2.1)] → W p l e rm_Q_standFaces s m args below meth c H locs 0 0 Q (F0 m 76 ls [])) (E := fun (r : Nat × Int32 × Int32 × ZQ) => ∀ (H : Heap) (locs : List Loc) (ls : Array Slot), va_P z.1 vwCl (qw z B r.2.2.2 ++ Rr) H → va_D A0 (qw z B r.2.2.2 ++ Rr) → va_S A0 H0 H locs → lv_has ls 5 [(0, .ref (B 0)), (2, .int r.2.1), (3, .int v3), (4, .int r.2.2.1)] → W p l e rm_Q_standFaces s m args below meth c H locs 0 0 Q (F0 m r.1 ls [])) ?_ n (v2, v4, S) r h hE
  clear h hE r v2 v4 S
  rintro ⟨v2, v4, S⟩ o h hG hE H locs ls hP hD hS hl
  have h : st_Q_standFaces_L76 n v3 v2 v4 S = some o := h
  have hl : lv_has ls 5 [(0, .ref (B 0)), (2, .int v2), (3, .int v3), (4, .int v4)] := hl
  have hP : va_P z.1 vwCl (qw z B S ++ Rr) H := hP
  have hD : va_D A0 (qw z B S ++ Rr) := hD
  unfold st_Q_standFaces_L76 at h
  refine lv_iload hx hb d_Q_standFaces_76 (lv_at hl 3 rfl) ?_
  refine lv_if_lt (tgt := 108) hx hb d_Q_standFaces_78 (by decide) (fun c_12 => ?_) (fun c_12 => ?_)
  · replace h := zz_t c_12 h
    exact hE _ (Option.some.inj h).symm _ _ _ hP hD hS hl
  · replace h := zz_f c_12 h
    refine lv_aload_n hx hb d_Q_standFaces_81 rfl (lv_at hl 0 rfl) ?_
    refine va_get (D := z.1) (ci := 5) (v := .ref (B 19)) (C := R_Q) (T := F_Q) (N := 28) hx hb hts i_Q hown hK hP 0 rfl rfl 27 (by decide) (hts _ wq_578) (fun _ h9 => h9) rfl d_Q_standFaces_82 ?_
    refine lv_iload_n hx hb d_Q_standFaces_85 rfl (lv_at hl 1 rfl) ?_
    refine lv_aload_n hx hb d_Q_standFaces_86 rfl (lv_at hl 0 rfl) ?_
    refine va_get (D := z.1) (ci := 5) (v := .ref (B 4)) (C := R_Q) (T := F_Q) (N := 28) hx hb hts i_Q hown hK hP 0 rfl rfl 5 (by decide) (hts _ wq_556) (fun _ h9 => h9) rfl d_Q_standFaces_87 ?_
    refine lv_bipush (v := 32) hx hb d_Q_standFaces_90 (by decide) ?_
    refine lv_iload_n hx hb d_Q_standFaces_92 rfl (lv_at hl 2 rfl) ?_
    refine lv_imul hx hb d_Q_standFaces_93 ?_
    refine lv_iload hx hb d_Q_standFaces_94 (lv_at hl 3 rfl) ?_
    refine lv_iadd hx hb d_Q_standFaces_96 ?_
    obtain ⟨c_13, h⟩ := zz_oob h
    refine va_iald hx hb hK hP 4 0 rfl rfl c_13 d_Q_standFaces_97 ?_
    obtain ⟨c_14, h⟩ := zz_oob h
    obtain ⟨S_15, e_15, h⟩ := zz_let h
    refine va_iast hx hb hK hP hD hS 19 0 rfl rfl c_14 d_Q_standFaces_98 (fun H locs hP hD hS => ?_)
    have hP : va_P z.1 vwCl (qw z B S_15 ++ Rr) H := by rw [e_15]; exact hP
    have hD : va_D A0 (qw z B S_15 ++ Rr) := by rw [e_15]; exact hD
    refine lv_iinc (v := (v2 + (1 : Int32))) (lv' := [(2, .int (v2 + (1 : Int32))), (0, .ref (B 0)), (3, .int v3), (4, .int v4)]) hx hb d_Q_standFaces_99 hl (k := 1) rfl rfl (by decide) rfl (fun ls hl => ?_)
    refine lv_iinc (v := (v4 + (-1 : Int32))) (lv' := [(4, .int (v4 + (-1 : Int32))), (2, .int (v2 + (1 : Int32))), (0, .ref (B 0)), (3, .int v3)]) hx hb d_Q_standFaces_102 hl (k := 3) rfl rfl (by decide) rfl (fun ls hl => ?_)
    refine lv_goto (tgt := 76) hx hb d_Q_standFaces_105 (by decide) ?_
    exact hG _ (Option.some.inj h).symm _ _ _ hP hD hS (lv_sub hl [2, 1, 3, 0] rfl)

set_option maxRecDepth 100000 in
set_option maxHeartbeats 4000000 in
theorem lp_Q_standFaces_L41 {z : zE} {B : Nat → Nat} {Rr : va_W} {p : Program} {l : Launch} {e : Env} {s : State} {m : MethodId} {args : Array Value} {below : List Frame} {meth : Method} {c : Code} {Q : State → Prop} {H0 : Heap} {A0 : Nat → Prop} (hM : zM z p s m args c b_Q_standFaces 5 R_Q) (hA : ∀ q : Nat, H0.size ≤ q → A0 q) (n : Nat) :
    ∀ (v2 : Int32) (S : ZQ) (r : Nat × Int32 × ZQ), fx_Q_standFaces_L41 n v2 S = some r → (∀ (H : Heap) (locs : List Loc) (ls : Array Slot), va_P z.1 vwCl (qw z B r.2.2 ++ Rr) H → va_D A0 (qw z B r.2.2 ++ Rr) → va_S A0 H0 H locs → lv_has ls 5 [(0, .ref (B 0)), (2, .int r.2.1)] → W p l e rm_Q_standFaces s m args below meth c H locs 0 0 Q (F0 m r.1 ls [])) →
    ∀ (H : Heap) (locs : List Loc) (ls : Array Slot), va_P z.1 vwCl (qw z B S ++ Rr) H → va_D A0 (qw z B S ++ Rr) → va_S A0 H0 H locs → lv_has ls 5 [(0, .ref (B 0)), (2, .int v2)] → W p l e rm_Q_standFaces s m args below meth c H locs 0 0 Q (F0 m 41 ls []) := by
  obtain ⟨hx, hb, hml, hown, hts, hK, hN⟩ := id hM
  intro v2 S r h hE
  refine zz_loop (G := fun (st : Int32 × ZQ) => ∀ (H : Heap) (locs : List Loc) (ls : Array Slot), va_P z.1 vwCl (qw z B st.2 ++ Rr) H → va_D A0 (qw z B st.2 ++ Rr) → va_S A0 H0 H locs → lv_has ls 5 [(0, .ref (B 0)), (2, .int st.1)] → W p l e rm_Q_standFaces s m args below meth c H locs 0 0 Q (F0 m 41 ls [])) (E := fun (r : Nat × Int32 × ZQ) => ∀ (H : Heap) (locs : List Loc) (ls : Array Slot), va_P z.1 vwCl (qw z B r.2.2 ++ Rr) H → va_D A0 (qw z B r.2.2 ++ Rr) → va_S A0 H0 H locs → lv_has ls 5 [(0, .ref (B 0)), (2, .int r.2.1)] → W p l e rm_Q_standFaces s m args below meth c H locs 0 0 Q (F0 m r.1 ls [])) ?_ n (v2, S) r h hE
  clear h hE r v2 S
  rintro ⟨v2, S⟩ o h hG hE H locs ls hP hD hS hl
  have h : st_Q_standFaces_L41 n v2 S = some o := h
  have hl : lv_has ls 5 [(0, .ref (B 0)), (2, .int v2)] := hl
  have hP : va_P z.1 vwCl (qw z B S ++ Rr) H := hP
  have hD : va_D A0 (qw z B S ++ Rr) := hD
  unfold st_Q_standFaces_L41 at h
  refine lv_iload_n hx hb d_Q_standFaces_41 rfl (lv_at hl 1 rfl) ?_
  refine lv_if_le (tgt := 111) hx hb d_Q_standFaces_42 (by decide) (fun c_7 => ?_) (fun c_7 => ?_)
  · replace h := zz_t c_7 h
    exact hE _ (Option.some.inj h).symm _ _ _ hP hD hS hl
  · replace h := zz_f c_7 h
    refine lv_iinc (v := (v2 + (-1 : Int32))) (lv' := [(2, .int (v2 + (-1 : Int32))), (0, .ref (B 0))]) hx hb d_Q_standFaces_45 hl (k := 1) rfl rfl (by decide) rfl (fun ls hl => ?_)
    refine lv_aload_n hx hb d_Q_standFaces_48 rfl (lv_at hl 1 rfl) ?_
    refine va_get (D := z.1) (ci := 5) (v := .ref (B 19)) (C := R_Q) (T := F_Q) (N := 28) hx hb hts i_Q hown hK hP 0 rfl rfl 27 (by decide) (hts _ wq_578) (fun _ h9 => h9) rfl d_Q_standFaces_49 ?_
    refine lv_iload_n hx hb d_Q_standFaces_52 rfl (lv_at hl 0 rfl) ?_
    obtain ⟨c_8, h⟩ := zz_oob h
    refine va_iald hx hb hK hP 19 0 rfl rfl c_8 d_Q_standFaces_53 ?_
    refine lv_istore_n (lv' := [(3, .int ((qPi S) (v2 + (-1 : Int32)).toNatClampNeg)), (2, .int (v2 + (-1 : Int32))), (0, .ref (B 0))]) hx hb d_Q_standFaces_54 rfl hl (by decide) rfl (fun ls hl => ?_)
    refine lv_aload_n hx hb d_Q_standFaces_55 rfl (lv_at hl 2 rfl) ?_
    refine lv_iload_n hx hb d_Q_standFaces_56 rfl (lv_at hl 0 rfl) ?_
    obtain ⟨r_9, S_9, e_9, h⟩ := zz_bind h
    refine zz_goI (zz_runV (As := [.int ((qPi S) (v2 + (-1 : Int32)).toNatClampNeg)]) (rest := []) (k_Q_stand l z B Rr n _ _ _ _ e_9) ⟨hx, hb, hml, hown, hts⟩ (cwV 1 hts (zz_gV wq_708 wq_710 wp_28 wq_6 wq_711) rfl rfl rfl (by decide +kernel) ⟨Nat.le_of_ble_eq_true rfl, Nat.le_of_ble_eq_true rfl⟩) hK hN hP hD (va_recv hK hP (ci := 5) (q0 := 0) rfl rfl) rfl hl.1 rfl (Nat.le_of_ble_eq_true rfl) d_Q_standFaces_57 ⟨Nat.le_of_ble_eq_true rfl, Nat.le_of_ble_eq_true rfl⟩) hD hS hA (fun H locs hP hD hS => ?_)
    refine lv_if_ne (tgt := 66) hx hb d_Q_standFaces_60 (by decide) (fun c_10 => ?_) (fun c_10 => ?_)
    · replace h := zz_f c_10 h
      refine lv_aload_n hx hb d_Q_standFaces_66 rfl (lv_at hl 2 rfl) ?_
      refine va_get (D := z.1) (ci := 5) (v := .ref (B 3)) (C := R_Q) (T := F_Q) (N := 28) hx hb hts i_Q hown hK hP 0 rfl rfl 4 (by decide) (hts _ wq_555) (fun _ h9 => h9) rfl d_Q_standFaces_67 ?_
      refine lv_iload_n hx hb d_Q_standFaces_70 rfl (lv_at hl 0 rfl) ?_
      obtain ⟨c_11, h⟩ := zz_oob h
      refine va_iald hx hb hK hP 3 0 rfl rfl c_11 d_Q_standFaces_71 ?_
      refine lv_iconst (v := 1) hx hb d_Q_standFaces_72 (by decide) ?_
      refine lv_isub hx hb d_Q_standFaces_73 ?_
      refine lv_istore (lv' := [(4, .int (((qFm S_9) ((qPi S) (v2 + (-1 : Int32)).toNatClampNeg).toNatClampNeg) - (1 : Int32))), (3, .int ((qPi S) (v2 + (-1 : Int32)).toNatClampNeg)), (2, .int (v2 + (-1 : Int32))), (0, .ref (B 0))]) hx hb d_Q_standFaces_74 hl (by decide) rfl (fun ls hl => ?_)
      replace h := zz_bL3 h
      obtain ⟨x_16, v2_16, v4_16, S_16, e_16, h⟩ := h
      refine lp_Q_standFaces_L76 hM hA n ((qPi S) (v2 + (-1 : Int32)).toNatClampNeg) _ _ _ _ e_16 ?_ _ _ _ hP hD hS (lv_sub hl [3, 2, 1, 0] rfl)
      intro H locs ls hP hD hS hl
      have hl : lv_has ls 5 [(0, .ref (B 0)), (2, .int v2_16), (3, .int ((qPi S) (v2 + (-1 : Int32)).toNatClampNeg)), (4, .int v4_16)] := hl
      have hP : va_P z.1 vwCl (qw z B S_16 ++ Rr) H := hP
      have hD : va_D A0 (qw z B S_16 ++ Rr) := hD
      replace h := zz_grd h
      obtain ⟨c_16, h⟩ := h
      subst c_16
      refine W.eq (g2 := F0 m 108 ls []) rfl ?_
      refine lv_goto (tgt := 41) hx hb d_Q_standFaces_108 (by decide) ?_
      exact hG _ (Option.some.inj h).symm _ _ _ hP hD hS (lv_sub hl [0, 1] rfl)
    · replace h := zz_t c_10 h
      refine lv_goto (tgt := 41) hx hb d_Q_standFaces_63 (by decide) ?_
      exact hG _ (Option.some.inj h).symm _ _ _ hP hD hS (lv_sub hl [2, 1] rfl)

set_option maxRecDepth 100000 in
set_option maxHeartbeats 4000000 in
theorem k_Q_standFaces (l : Launch) (z : zE) (B : Nat → Nat) (Rr : va_W) (n : Nat) (S : ZQ) (a1 : Int32) (S' : ZQ) (h : fx_Q_standFaces n S a1 = some S') : zC z l y_Q_standFaces w_Q_standFaces rm_Q_standFaces [.ref (B 0), .int a1] (qw z B S ++ Rr) none (qw z B S' ++ Rr) := by
  refine zz_of (by decide) (Nat.le_of_ble_eq_true rfl) ?_
  intro p e s m args below meth c A0 ls hM hr hlocks hA hP hD hl
  have hM : zM z p s m args c b_Q_standFaces 5 R_Q := hM
  obtain ⟨hx, hb, hml, hown, hts, hK, hN⟩ := id hM
  have hS : va_S A0 s.heap s.heap [] := va_S.rf
  have hl : lv_has ls 5 [(0, .ref (B 0)), (1, .int a1)] := hl
  unfold fx_Q_standFaces at h
  refine lv_iconst (v := 0) hx hb d_Q_standFaces_0 (by decide) ?_
  refine lv_istore_n (lv' := [(2, .int (0 : Int32)), (0, .ref (B 0)), (1, .int a1)]) hx hb d_Q_standFaces_1 rfl hl (by decide) rfl (fun ls hl => ?_)
  refine lv_aload_n hx hb d_Q_standFaces_2 rfl (lv_at hl 1 rfl) ?_
  refine va_get (D := z.1) (ci := 5) (v := .ref (B 3)) (C := R_Q) (T := F_Q) (N := 28) hx hb hts i_Q hown hK hP 0 rfl rfl 4 (by decide) (hts _ wq_555) (fun _ h9 => h9) rfl d_Q_standFaces_3 ?_
  refine lv_iload_n hx hb d_Q_standFaces_6 rfl (lv_at hl 2 rfl) ?_
  obtain ⟨c_1, h⟩ := zz_oob h
  refine va_iald hx hb hK hP 3 0 rfl rfl c_1 d_Q_standFaces_7 ?_
  refine lv_iconst (v := 1) hx hb d_Q_standFaces_8 (by decide) ?_
  refine lv_isub hx hb d_Q_standFaces_9 ?_
  refine lv_istore_n (lv' := [(3, .int (((qFm S) a1.toNatClampNeg) - (1 : Int32))), (2, .int (0 : Int32)), (0, .ref (B 0)), (1, .int a1)]) hx hb d_Q_standFaces_10 rfl hl (by decide) rfl (fun ls hl => ?_)
  replace h := zz_bL3 h
  obtain ⟨x_6, v2_6, v3_6, S_6, e_6, h⟩ := h
  refine lp_Q_standFaces_L11 hM hA n a1 _ _ _ _ e_6 ?_ _ _ _ hP hD hS (lv_sub hl [2, 3, 1, 0] rfl)
  intro H locs ls hP hD hS hl
  have hl : lv_has ls 5 [(0, .ref (B 0)), (1, .int a1), (2, .int v2_6), (3, .int v3_6)] := hl
  have hP : va_P z.1 vwCl (qw z B S_6 ++ Rr) H := hP
  have hD : va_D A0 (qw z B S_6 ++ Rr) := hD
  replace h := zz_grd h
  obtain ⟨c_6, h⟩ := h
  subst c_6
  refine W.eq (g2 := F0 m 41 ls []) rfl ?_
  replace h := zz_bL2 h
  obtain ⟨x_17, v2_17, S_17, e_17, h⟩ := h
  refine lp_Q_standFaces_L41 hM hA n _ _ _ e_17 ?_ _ _ _ hP hD hS (lv_sub hl [0, 2] rfl)
  intro H locs ls hP hD hS hl
  have hl : lv_has ls 5 [(0, .ref (B 0)), (2, .int v2_17)] := hl
  have hP : va_P z.1 vwCl (qw z B S_17 ++ Rr) H := hP
  have hD : va_D A0 (qw z B S_17 ++ Rr) := hD
  replace h := zz_grd h
  obtain ⟨c_17, h⟩ := h
  subst c_17
  refine W.eq (g2 := F0 m 111 ls []) rfl ?_
  exact zz_vret (fun S => qw z B S ++ Rr) hx hb hr hlocks hP hD hS h d_Q_standFaces_111

abbrev b_Q_lineUp : ByteArray := prog_7_method_19_code
abbrev y_Q_lineUp : MethodName := ⟨"MemberChooserModel", "lineUp", "(I)V"⟩
abbrev w_Q_lineUp : List Cond := Cond.code y_Q_lineUp b_Q_lineUp 4 none :: zTb
theorem d_Q_lineUp_0 : decode b_Q_lineUp 0 = .ok (.aload_n 0, 1) := by decide +kernel
theorem d_Q_lineUp_1 : decode b_Q_lineUp 1 = .ok (.iconst 0, 1) := by decide +kernel
theorem d_Q_lineUp_2 : decode b_Q_lineUp 2 = .ok (.putfield 114, 3) := by decide +kernel
theorem d_Q_lineUp_5 : decode b_Q_lineUp 5 = .ok (.iload_n 1, 1) := by decide +kernel
theorem d_Q_lineUp_6 : decode b_Q_lineUp 6 = .ok (.istore_n 2, 1) := by decide +kernel
theorem d_Q_lineUp_7 : decode b_Q_lineUp 7 = .ok (.iload_n 2, 1) := by decide +kernel
theorem d_Q_lineUp_8 : decode b_Q_lineUp 8 = .ok (.ifCond .lt 33, 3) := by decide +kernel
theorem d_Q_lineUp_11 : decode b_Q_lineUp 11 = .ok (.aload_n 0, 1) := by decide +kernel
theorem d_Q_lineUp_12 : decode b_Q_lineUp 12 = .ok (.getfield 58, 3) := by decide +kernel
theorem d_Q_lineUp_15 : decode b_Q_lineUp 15 = .ok (.aload_n 0, 1) := by decide +kernel
theorem d_Q_lineUp_16 : decode b_Q_lineUp 16 = .ok (.getfield 114, 3) := by decide +kernel
theorem d_Q_lineUp_19 : decode b_Q_lineUp 19 = .ok (.iload_n 2, 1) := by decide +kernel
theorem d_Q_lineUp_20 : decode b_Q_lineUp 20 = .ok (.iastore, 1) := by decide +kernel
theorem d_Q_lineUp_21 : decode b_Q_lineUp 21 = .ok (.aload_n 0, 1) := by decide +kernel
theorem d_Q_lineUp_22 : decode b_Q_lineUp 22 = .ok (.dup, 1) := by decide +kernel
theorem d_Q_lineUp_23 : decode b_Q_lineUp 23 = .ok (.getfield 114, 3) := by decide +kernel
theorem d_Q_lineUp_26 : decode b_Q_lineUp 26 = .ok (.iconst 1, 1) := by decide +kernel
theorem d_Q_lineUp_27 : decode b_Q_lineUp 27 = .ok (.iadd, 1) := by decide +kernel
theorem d_Q_lineUp_28 : decode b_Q_lineUp 28 = .ok (.putfield 114, 3) := by decide +kernel
theorem d_Q_lineUp_31 : decode b_Q_lineUp 31 = .ok (.aload_n 0, 1) := by decide +kernel
theorem d_Q_lineUp_32 : decode b_Q_lineUp 32 = .ok (.getfield 17, 3) := by decide +kernel
theorem d_Q_lineUp_35 : decode b_Q_lineUp 35 = .ok (.iload_n 2, 1) := by decide +kernel
theorem d_Q_lineUp_36 : decode b_Q_lineUp 36 = .ok (.iaload, 1) := by decide +kernel
theorem d_Q_lineUp_37 : decode b_Q_lineUp 37 = .ok (.istore_n 2, 1) := by decide +kernel
theorem d_Q_lineUp_38 : decode b_Q_lineUp 38 = .ok (.goto (-31), 3) := by decide +kernel
theorem d_Q_lineUp_41 : decode b_Q_lineUp 41 = .ok (.aload_n 0, 1) := by decide +kernel
theorem d_Q_lineUp_42 : decode b_Q_lineUp 42 = .ok (.getfield 114, 3) := by decide +kernel
theorem d_Q_lineUp_45 : decode b_Q_lineUp 45 = .ok (.istore_n 2, 1) := by decide +kernel
theorem d_Q_lineUp_46 : decode b_Q_lineUp 46 = .ok (.iconst 0, 1) := by decide +kernel
theorem d_Q_lineUp_47 : decode b_Q_lineUp 47 = .ok (.istore_n 3, 1) := by decide +kernel
theorem d_Q_lineUp_48 : decode b_Q_lineUp 48 = .ok (.iload_n 3, 1) := by decide +kernel
theorem d_Q_lineUp_49 : decode b_Q_lineUp 49 = .ok (.iload_n 2, 1) := by decide +kernel
theorem d_Q_lineUp_50 : decode b_Q_lineUp 50 = .ok (.if_icmp .ge 19, 3) := by decide +kernel
theorem d_Q_lineUp_53 : decode b_Q_lineUp 53 = .ok (.aload_n 0, 1) := by decide +kernel
theorem d_Q_lineUp_54 : decode b_Q_lineUp 54 = .ok (.aload_n 0, 1) := by decide +kernel
theorem d_Q_lineUp_55 : decode b_Q_lineUp 55 = .ok (.getfield 58, 3) := by decide +kernel
theorem d_Q_lineUp_58 : decode b_Q_lineUp 58 = .ok (.iload_n 3, 1) := by decide +kernel
theorem d_Q_lineUp_59 : decode b_Q_lineUp 59 = .ok (.iaload, 1) := by decide +kernel
theorem d_Q_lineUp_60 : decode b_Q_lineUp 60 = .ok (.invokevirtual 120, 3) := by decide +kernel
theorem d_Q_lineUp_63 : decode b_Q_lineUp 63 = .ok (.iinc 3 1, 3) := by decide +kernel
theorem d_Q_lineUp_66 : decode b_Q_lineUp 66 = .ok (.goto (-18), 3) := by decide +kernel
theorem d_Q_lineUp_69 : decode b_Q_lineUp 69 = .ok (.return_, 1) := by decide +kernel
abbrev rm_Q_lineUp : Room := { frames := 2, cells := 0, slots := 0, locals := 46 }
def st_Q_lineUp_L7 (n : Nat)  (v2 : Int32) (S : ZQ) : Option ((Int32 × ZQ) ⊕ (Nat × Int32 × ZQ)) :=
  (if v2 < 0 then
  some (.inr (41, v2, S))
  else
  (if zoob (qLm S) 32 then none else
    zlet (qLi' S (upd (qLi S) (qLm S).toNatClampNeg v2)) (fun S_4 =>
    zlet (qLm' S_4 ((qLm S_4) + (1 : Int32))) (fun S_5 =>
    (if zoob v2 32 then none else
    some (.inl (((qAb S_5) v2.toNatClampNeg), S_5)))))))

def fx_Q_lineUp_L7 (n : Nat)  (v2 : Int32) (S : ZQ) : Option (Nat × Int32 × ZQ) := zloop (fun (st : Int32 × ZQ) => st_Q_lineUp_L7 n st.1 st.2) n (v2, S)

def st_Q_lineUp_L48 (n : Nat) (v2 : Int32) (v3 : Int32) (S : ZQ) : Option ((Int32 × ZQ) ⊕ (Nat × Int32 × ZQ)) :=
  (if v2 ≤ v3 then
  some (.inr (69, v3, S))
  else
  (if zoob v3 32 then none else
    zbind1 (fx_Q_standFaces n S ((qLi S) v3.toNatClampNeg)) (fun S_10 =>
    some (.inl ((v3 + (1 : Int32)), S_10)))))

def fx_Q_lineUp_L48 (n : Nat) (v2 : Int32) (v3 : Int32) (S : ZQ) : Option (Nat × Int32 × ZQ) := zloop (fun (st : Int32 × ZQ) => st_Q_lineUp_L48 n v2 st.1 st.2) n (v3, S)

def fx_Q_lineUp (n : Nat) (S : ZQ) (a1 : Int32) : Option (ZQ) :=
  zlet (qLm' S (0 : Int32)) (fun S_1 =>
  zbL2 (fx_Q_lineUp_L7 n a1 S_1) (fun x_7 v2_7 S_7 =>
  if x_7 = 41 then
  zbL2 (fx_Q_lineUp_L48 n (qLm S_7) (0 : Int32) S_7) (fun x_11 v3_11 S_11 =>
  if x_11 = 69 then
  some S_11
  else none)
  else none))

set_option maxRecDepth 100000 in
set_option maxHeartbeats 4000000 in
theorem lp_Q_lineUp_L7 {z : zE} {B : Nat → Nat} {Rr : va_W} {p : Program} {l : Launch} {e : Env} {s : State} {m : MethodId} {args : Array Value} {below : List Frame} {meth : Method} {c : Code} {Q : State → Prop} {H0 : Heap} {A0 : Nat → Prop} (hM : zM z p s m args c b_Q_lineUp 4 R_Q) (hA : ∀ q : Nat, H0.size ≤ q → A0 q) (n : Nat) :
    ∀ (v2 : Int32) (S : ZQ) (r : Nat × Int32 × ZQ), fx_Q_lineUp_L7 n v2 S = some r → (∀ (H : Heap) (locs : List Loc) (ls : Array Slot), va_P z.1 vwCl (qw z B r.2.2 ++ Rr) H → va_D A0 (qw z B r.2.2 ++ Rr) → va_S A0 H0 H locs → lv_has ls 4 [(0, .ref (B 0)), (2, .int r.2.1)] → W p l e rm_Q_lineUp s m args below meth c H locs 0 0 Q (F0 m r.1 ls [])) →
    ∀ (H : Heap) (locs : List Loc) (ls : Array Slot), va_P z.1 vwCl (qw z B S ++ Rr) H → va_D A0 (qw z B S ++ Rr) → va_S A0 H0 H locs → lv_has ls 4 [(0, .ref (B 0)), (2, .int v2)] → W p l e rm_Q_lineUp s m args below meth c H locs 0 0 Q (F0 m 7 ls []) := by
  obtain ⟨hx, hb, hml, hown, hts, hK, hN⟩ := id hM
  intro v2 S r h hE
  refine zz_loop (G := fun (st : Int32 × ZQ) => ∀ (H : Heap) (locs : List Loc) (ls : Array Slot), va_P z.1 vwCl (qw z B st.2 ++ Rr) H → va_D A0 (qw z B st.2 ++ Rr) → va_S A0 H0 H locs → lv_has ls 4 [(0, .ref (B 0)), (2, .int st.1)] → W p l e rm_Q_lineUp s m args below meth c H locs 0 0 Q (F0 m 7 ls [])) (E := fun (r : Nat × Int32 × ZQ) => ∀ (H : Heap) (locs : List Loc) (ls : Array Slot), va_P z.1 vwCl (qw z B r.2.2 ++ Rr) H → va_D A0 (qw z B r.2.2 ++ Rr) → va_S A0 H0 H locs → lv_has ls 4 [(0, .ref (B 0)), (2, .int r.2.1)] → W p l e rm_Q_lineUp s m args below meth c H locs 0 0 Q (F0 m r.1 ls [])) ?_ n (v2, S) r h hE
  clear h hE r v2 S
  rintro ⟨v2, S⟩ o h hG hE H locs ls hP hD hS hl
  have h : st_Q_lineUp_L7 n v2 S = some o := h
  have hl : lv_has ls 4 [(0, .ref (B 0)), (2, .int v2)] := hl
  have hP : va_P z.1 vwCl (qw z B S ++ Rr) H := hP
  have hD : va_D A0 (qw z B S ++ Rr) := hD
  unfold st_Q_lineUp_L7 at h
  refine lv_iload_n hx hb d_Q_lineUp_7 rfl (lv_at hl 1 rfl) ?_
  refine lv_if_lt (tgt := 41) hx hb d_Q_lineUp_8 (by decide) (fun c_2 => ?_) (fun c_2 => ?_)
  · replace h := zz_t c_2 h
    exact hE _ (Option.some.inj h).symm _ _ _ hP hD hS hl
  · replace h := zz_f c_2 h
    refine lv_aload_n hx hb d_Q_lineUp_11 rfl (lv_at hl 0 rfl) ?_
    refine va_get (D := z.1) (ci := 5) (v := .ref (B 15)) (C := R_Q) (T := F_Q) (N := 28) hx hb hts i_Q hown hK hP 0 rfl rfl 21 (by decide) (hts _ wq_572) (fun _ h9 => h9) rfl d_Q_lineUp_12 ?_
    refine lv_aload_n hx hb d_Q_lineUp_15 rfl (lv_at hl 0 rfl) ?_
    refine va_get (D := z.1) (ci := 5) (v := .int (qLm S)) (C := R_Q) (T := F_Q) (N := 28) hx hb hts i_Q hown hK hP 0 rfl rfl 22 (by decide) (hts _ wq_573) (fun _ h9 => h9) rfl d_Q_lineUp_16 ?_
    refine lv_iload_n hx hb d_Q_lineUp_19 rfl (lv_at hl 1 rfl) ?_
    obtain ⟨c_3, h⟩ := zz_oob h
    obtain ⟨S_4, e_4, h⟩ := zz_let h
    refine va_iast hx hb hK hP hD hS 15 0 rfl rfl c_3 d_Q_lineUp_20 (fun H locs hP hD hS => ?_)
    have hP : va_P z.1 vwCl (qw z B S_4 ++ Rr) H := by rw [e_4]; exact hP
    have hD : va_D A0 (qw z B S_4 ++ Rr) := by rw [e_4]; exact hD
    refine lv_aload_n hx hb d_Q_lineUp_21 rfl (lv_at hl 0 rfl) ?_
    refine lv_dup hx hb d_Q_lineUp_22 rfl ?_
    refine va_get (D := z.1) (ci := 5) (v := .int (qLm S_4)) (C := R_Q) (T := F_Q) (N := 28) hx hb hts i_Q hown hK hP 0 rfl rfl 22 (by decide) (hts _ wq_573) (fun _ h9 => h9) rfl d_Q_lineUp_23 ?_
    refine lv_iconst (v := 1) hx hb d_Q_lineUp_26 (by decide) ?_
    refine lv_iadd hx hb d_Q_lineUp_27 ?_
    obtain ⟨S_5, e_5, h⟩ := zz_let h
    refine va_put (D := z.1) (ci := 5) (v := .int ((qLm S_4) + (1 : Int32))) (ty := .int) (C := R_Q) (T := F_Q) (N := 28) hx hb hts i_Q ty_Q ty_Q_ok n_Q hown hK hP hD hS 0 rfl rfl 22 (by decide) (hts _ wq_573) (fun _ h9 => h9) rfl (by decide +kernel) rfl rfl (Nat.le_of_ble_eq_true rfl) d_Q_lineUp_28 (fun H locs hP hD hS => ?_)
    have hP : va_P z.1 vwCl (qw z B S_5 ++ Rr) H := by rw [e_5]; exact hP
    have hD : va_D A0 (qw z B S_5 ++ Rr) := by rw [e_5]; exact hD
    refine lv_aload_n hx hb d_Q_lineUp_31 rfl (lv_at hl 0 rfl) ?_
    refine va_get (D := z.1) (ci := 5) (v := .ref (B 2)) (C := R_Q) (T := F_Q) (N := 28) hx hb hts i_Q hown hK hP 0 rfl rfl 3 (by decide) (hts _ wq_554) (fun _ h9 => h9) rfl d_Q_lineUp_32 ?_
    refine lv_iload_n hx hb d_Q_lineUp_35 rfl (lv_at hl 1 rfl) ?_
    obtain ⟨c_6, h⟩ := zz_oob h
    refine va_iald hx hb hK hP 2 0 rfl rfl c_6 d_Q_lineUp_36 ?_
    refine lv_istore_n (lv' := [(2, .int ((qAb S_5) v2.toNatClampNeg)), (0, .ref (B 0))]) hx hb d_Q_lineUp_37 rfl hl (by decide) rfl (fun ls hl => ?_)
    refine lv_goto (tgt := 7) hx hb d_Q_lineUp_38 (by decide) ?_
    exact hG _ (Option.some.inj h).symm _ _ _ hP hD hS (lv_sub hl [1, 0] rfl)

set_option maxRecDepth 100000 in
set_option maxHeartbeats 4000000 in
theorem lp_Q_lineUp_L48 {z : zE} {B : Nat → Nat} {Rr : va_W} {p : Program} {l : Launch} {e : Env} {s : State} {m : MethodId} {args : Array Value} {below : List Frame} {meth : Method} {c : Code} {Q : State → Prop} {H0 : Heap} {A0 : Nat → Prop} (hM : zM z p s m args c b_Q_lineUp 4 R_Q) (hA : ∀ q : Nat, H0.size ≤ q → A0 q) (n : Nat) (v2 : Int32) :
    ∀ (v3 : Int32) (S : ZQ) (r : Nat × Int32 × ZQ), fx_Q_lineUp_L48 n v2 v3 S = some r → (∀ (H : Heap) (locs : List Loc) (ls : Array Slot), va_P z.1 vwCl (qw z B r.2.2 ++ Rr) H → va_D A0 (qw z B r.2.2 ++ Rr) → va_S A0 H0 H locs → lv_has ls 4 [(0, .ref (B 0)), (2, .int v2), (3, .int r.2.1)] → W p l e rm_Q_lineUp s m args below meth c H locs 0 0 Q (F0 m r.1 ls [])) →
    ∀ (H : Heap) (locs : List Loc) (ls : Array Slot), va_P z.1 vwCl (qw z B S ++ Rr) H → va_D A0 (qw z B S ++ Rr) → va_S A0 H0 H locs → lv_has ls 4 [(0, .ref (B 0)), (2, .int v2), (3, .int v3)] → W p l e rm_Q_lineUp s m args below meth c H locs 0 0 Q (F0 m 48 ls []) := by
  obtain ⟨hx, hb, hml, hown, hts, hK, hN⟩ := id hM
  intro v3 S r h hE
  refine zz_loop (G := fun (st : Int32 × ZQ) => ∀ (H : Heap) (locs : List Loc) (ls : Array Slot), va_P z.1 vwCl (qw z B st.2 ++ Rr) H → va_D A0 (qw z B st.2 ++ Rr) → va_S A0 H0 H locs → lv_has ls 4 [(0, .ref (B 0)), (2, .int v2), (3, .int st.1)] → W p l e rm_Q_lineUp s m args below meth c H locs 0 0 Q (F0 m 48 ls [])) (E := fun (r : Nat × Int32 × ZQ) => ∀ (H : Heap) (locs : List Loc) (ls : Array Slot), va_P z.1 vwCl (qw z B r.2.2 ++ Rr) H → va_D A0 (qw z B r.2.2 ++ Rr) → va_S A0 H0 H locs → lv_has ls 4 [(0, .ref (B 0)), (2, .int v2), (3, .int r.2.1)] → W p l e rm_Q_lineUp s m args below meth c H locs 0 0 Q (F0 m r.1 ls [])) ?_ n (v3, S) r h hE
  clear h hE r v3 S
  rintro ⟨v3, S⟩ o h hG hE H locs ls hP hD hS hl
  have h : st_Q_lineUp_L48 n v2 v3 S = some o := h
  have hl : lv_has ls 4 [(0, .ref (B 0)), (2, .int v2), (3, .int v3)] := hl
  have hP : va_P z.1 vwCl (qw z B S ++ Rr) H := hP
  have hD : va_D A0 (qw z B S ++ Rr) := hD
  unfold st_Q_lineUp_L48 at h
  refine lv_iload_n hx hb d_Q_lineUp_48 rfl (lv_at hl 2 rfl) ?_
  refine lv_iload_n hx hb d_Q_lineUp_49 rfl (lv_at hl 1 rfl) ?_
  refine lv_icmp_ge (tgt := 69) hx hb d_Q_lineUp_50 (by decide) (fun c_8 => ?_) (fun c_8 => ?_)
  · replace h := zz_t c_8 h
    exact hE _ (Option.some.inj h).symm _ _ _ hP hD hS hl
  · replace h := zz_f c_8 h
    refine lv_aload_n hx hb d_Q_lineUp_53 rfl (lv_at hl 0 rfl) ?_
    refine lv_aload_n hx hb d_Q_lineUp_54 rfl (lv_at hl 0 rfl) ?_
    refine va_get (D := z.1) (ci := 5) (v := .ref (B 15)) (C := R_Q) (T := F_Q) (N := 28) hx hb hts i_Q hown hK hP 0 rfl rfl 21 (by decide) (hts _ wq_572) (fun _ h9 => h9) rfl d_Q_lineUp_55 ?_
    refine lv_iload_n hx hb d_Q_lineUp_58 rfl (lv_at hl 2 rfl) ?_
    obtain ⟨c_9, h⟩ := zz_oob h
    refine va_iald hx hb hK hP 15 0 rfl rfl c_9 d_Q_lineUp_59 ?_
    obtain ⟨S_10, e_10, h⟩ := zz_bind1 h
    refine zz_goV (zz_runV (As := [.int ((qLi S) v3.toNatClampNeg)]) (rest := []) (k_Q_standFaces l z B Rr n _ _ _ e_10) ⟨hx, hb, hml, hown, hts⟩ (cwV 1 hts (zz_gV wq_704 wq_706 wp_27 wq_6 wq_707) rfl rfl rfl (by decide +kernel) ⟨Nat.le_of_ble_eq_true rfl, Nat.le_of_ble_eq_true rfl⟩) hK hN hP hD (va_recv hK hP (ci := 5) (q0 := 0) rfl rfl) rfl hl.1 rfl (Nat.le_of_ble_eq_true rfl) d_Q_lineUp_60 ⟨Nat.le_of_ble_eq_true rfl, Nat.le_of_ble_eq_true rfl⟩) hD hS hA (fun H locs hP hD hS => ?_)
    refine lv_iinc (v := (v3 + (1 : Int32))) (lv' := [(3, .int (v3 + (1 : Int32))), (0, .ref (B 0)), (2, .int v2)]) hx hb d_Q_lineUp_63 hl (k := 2) rfl rfl (by decide) rfl (fun ls hl => ?_)
    refine lv_goto (tgt := 48) hx hb d_Q_lineUp_66 (by decide) ?_
    exact hG _ (Option.some.inj h).symm _ _ _ hP hD hS (lv_sub hl [1, 2, 0] rfl)

set_option maxRecDepth 100000 in
set_option maxHeartbeats 4000000 in
theorem k_Q_lineUp (l : Launch) (z : zE) (B : Nat → Nat) (Rr : va_W) (n : Nat) (S : ZQ) (a1 : Int32) (S' : ZQ) (h : fx_Q_lineUp n S a1 = some S') : zC z l y_Q_lineUp w_Q_lineUp rm_Q_lineUp [.ref (B 0), .int a1] (qw z B S ++ Rr) none (qw z B S' ++ Rr) := by
  refine zz_of (by decide) (Nat.le_of_ble_eq_true rfl) ?_
  intro p e s m args below meth c A0 ls hM hr hlocks hA hP hD hl
  have hM : zM z p s m args c b_Q_lineUp 4 R_Q := hM
  obtain ⟨hx, hb, hml, hown, hts, hK, hN⟩ := id hM
  have hS : va_S A0 s.heap s.heap [] := va_S.rf
  have hl : lv_has ls 4 [(0, .ref (B 0)), (1, .int a1)] := hl
  unfold fx_Q_lineUp at h
  refine lv_aload_n hx hb d_Q_lineUp_0 rfl (lv_at hl 0 rfl) ?_
  refine lv_iconst (v := 0) hx hb d_Q_lineUp_1 (by decide) ?_
  obtain ⟨S_1, e_1, h⟩ := zz_let h
  refine va_put (D := z.1) (ci := 5) (v := .int (0 : Int32)) (ty := .int) (C := R_Q) (T := F_Q) (N := 28) hx hb hts i_Q ty_Q ty_Q_ok n_Q hown hK hP hD hS 0 rfl rfl 22 (by decide) (hts _ wq_573) (fun _ h9 => h9) rfl (by decide +kernel) rfl rfl (Nat.le_of_ble_eq_true rfl) d_Q_lineUp_2 (fun H locs hP hD hS => ?_)
  have hP : va_P z.1 vwCl (qw z B S_1 ++ Rr) H := by rw [e_1]; exact hP
  have hD : va_D A0 (qw z B S_1 ++ Rr) := by rw [e_1]; exact hD
  refine lv_iload_n hx hb d_Q_lineUp_5 rfl (lv_at hl 1 rfl) ?_
  refine lv_istore_n (lv' := [(2, .int a1), (0, .ref (B 0)), (1, .int a1)]) hx hb d_Q_lineUp_6 rfl hl (by decide) rfl (fun ls hl => ?_)
  replace h := zz_bL2 h
  obtain ⟨x_7, v2_7, S_7, e_7, h⟩ := h
  refine lp_Q_lineUp_L7 hM hA n _ _ _ e_7 ?_ _ _ _ hP hD hS (lv_sub hl [1, 0] rfl)
  intro H locs ls hP hD hS hl
  have hl : lv_has ls 4 [(0, .ref (B 0)), (2, .int v2_7)] := hl
  have hP : va_P z.1 vwCl (qw z B S_7 ++ Rr) H := hP
  have hD : va_D A0 (qw z B S_7 ++ Rr) := hD
  replace h := zz_grd h
  obtain ⟨c_7, h⟩ := h
  subst c_7
  refine W.eq (g2 := F0 m 41 ls []) rfl ?_
  refine lv_aload_n hx hb d_Q_lineUp_41 rfl (lv_at hl 0 rfl) ?_
  refine va_get (D := z.1) (ci := 5) (v := .int (qLm S_7)) (C := R_Q) (T := F_Q) (N := 28) hx hb hts i_Q hown hK hP 0 rfl rfl 22 (by decide) (hts _ wq_573) (fun _ h9 => h9) rfl d_Q_lineUp_42 ?_
  refine lv_istore_n (lv' := [(2, .int (qLm S_7)), (0, .ref (B 0))]) hx hb d_Q_lineUp_45 rfl hl (by decide) rfl (fun ls hl => ?_)
  refine lv_iconst (v := 0) hx hb d_Q_lineUp_46 (by decide) ?_
  refine lv_istore_n (lv' := [(3, .int (0 : Int32)), (2, .int (qLm S_7)), (0, .ref (B 0))]) hx hb d_Q_lineUp_47 rfl hl (by decide) rfl (fun ls hl => ?_)
  replace h := zz_bL2 h
  obtain ⟨x_11, v3_11, S_11, e_11, h⟩ := h
  refine lp_Q_lineUp_L48 hM hA n (qLm S_7) _ _ _ e_11 ?_ _ _ _ hP hD hS (lv_sub hl [2, 1, 0] rfl)
  intro H locs ls hP hD hS hl
  have hl : lv_has ls 4 [(0, .ref (B 0)), (2, .int (qLm S_7)), (3, .int v3_11)] := hl
  have hP : va_P z.1 vwCl (qw z B S_11 ++ Rr) H := hP
  have hD : va_D A0 (qw z B S_11 ++ Rr) := hD
  replace h := zz_grd h
  obtain ⟨c_11, h⟩ := h
  subst c_11
  refine W.eq (g2 := F0 m 69 ls []) rfl ?_
  exact zz_vret (fun S => qw z B S ++ Rr) hx hb hr hlocks hP hD hS h d_Q_lineUp_69

abbrev b_Q_means : ByteArray := prog_7_method_20_code
abbrev y_Q_means : MethodName := ⟨"MemberChooserModel", "means", "(II)V"⟩
abbrev w_Q_means : List Cond := Cond.code y_Q_means b_Q_means 7 none :: zTb
theorem d_Q_means_0 : decode b_Q_means 0 = .ok (.aload_n 0, 1) := by decide +kernel
theorem d_Q_means_1 : decode b_Q_means 1 = .ok (.iload_n 1, 1) := by decide +kernel
theorem d_Q_means_2 : decode b_Q_means 2 = .ok (.invokevirtual 123, 3) := by decide +kernel
theorem d_Q_means_5 : decode b_Q_means 5 = .ok (.aload_n 0, 1) := by decide +kernel
theorem d_Q_means_6 : decode b_Q_means 6 = .ok (.iconst 0, 1) := by decide +kernel
theorem d_Q_means_7 : decode b_Q_means 7 = .ok (.putfield 126, 3) := by decide +kernel
theorem d_Q_means_10 : decode b_Q_means 10 = .ok (.iconst 0, 1) := by decide +kernel
theorem d_Q_means_11 : decode b_Q_means 11 = .ok (.istore_n 3, 1) := by decide +kernel
theorem d_Q_means_12 : decode b_Q_means 12 = .ok (.iload_n 3, 1) := by decide +kernel
theorem d_Q_means_13 : decode b_Q_means 13 = .ok (.aload_n 0, 1) := by decide +kernel
theorem d_Q_means_14 : decode b_Q_means 14 = .ok (.getfield 114, 3) := by decide +kernel
theorem d_Q_means_17 : decode b_Q_means 17 = .ok (.if_icmp .ge 135, 3) := by decide +kernel
theorem d_Q_means_20 : decode b_Q_means 20 = .ok (.iconst 0, 1) := by decide +kernel
theorem d_Q_means_21 : decode b_Q_means 21 = .ok (.istore 4, 2) := by decide +kernel
theorem d_Q_means_23 : decode b_Q_means 23 = .ok (.iload 4, 2) := by decide +kernel
theorem d_Q_means_25 : decode b_Q_means 25 = .ok (.aload_n 0, 1) := by decide +kernel
theorem d_Q_means_26 : decode b_Q_means 26 = .ok (.getfield 104, 3) := by decide +kernel
theorem d_Q_means_29 : decode b_Q_means 29 = .ok (.if_icmp .ge 117, 3) := by decide +kernel
theorem d_Q_means_32 : decode b_Q_means 32 = .ok (.aload_n 0, 1) := by decide +kernel
theorem d_Q_means_33 : decode b_Q_means 33 = .ok (.getfield 27, 3) := by decide +kernel
theorem d_Q_means_36 : decode b_Q_means 36 = .ok (.iload 4, 2) := by decide +kernel
theorem d_Q_means_38 : decode b_Q_means 38 = .ok (.iaload, 1) := by decide +kernel
theorem d_Q_means_39 : decode b_Q_means 39 = .ok (.aload_n 0, 1) := by decide +kernel
theorem d_Q_means_40 : decode b_Q_means 40 = .ok (.getfield 58, 3) := by decide +kernel
theorem d_Q_means_43 : decode b_Q_means 43 = .ok (.iload_n 3, 1) := by decide +kernel
theorem d_Q_means_44 : decode b_Q_means 44 = .ok (.iaload, 1) := by decide +kernel
theorem d_Q_means_45 : decode b_Q_means 45 = .ok (.if_icmp .ne 95, 3) := by decide +kernel
theorem d_Q_means_48 : decode b_Q_means 48 = .ok (.aload_n 0, 1) := by decide +kernel
theorem d_Q_means_49 : decode b_Q_means 49 = .ok (.getfield 30, 3) := by decide +kernel
theorem d_Q_means_52 : decode b_Q_means 52 = .ok (.iload 4, 2) := by decide +kernel
theorem d_Q_means_54 : decode b_Q_means 54 = .ok (.iaload, 1) := by decide +kernel
theorem d_Q_means_55 : decode b_Q_means 55 = .ok (.iload_n 2, 1) := by decide +kernel
theorem d_Q_means_56 : decode b_Q_means 56 = .ok (.if_icmp .eq 6, 3) := by decide +kernel
theorem d_Q_means_59 : decode b_Q_means 59 = .ok (.goto 81, 3) := by decide +kernel
theorem d_Q_means_62 : decode b_Q_means 62 = .ok (.iconst 0, 1) := by decide +kernel
theorem d_Q_means_63 : decode b_Q_means 63 = .ok (.istore 5, 2) := by decide +kernel
theorem d_Q_means_65 : decode b_Q_means 65 = .ok (.iconst 0, 1) := by decide +kernel
theorem d_Q_means_66 : decode b_Q_means 66 = .ok (.istore 6, 2) := by decide +kernel
theorem d_Q_means_68 : decode b_Q_means 68 = .ok (.iload 6, 2) := by decide +kernel
theorem d_Q_means_70 : decode b_Q_means 70 = .ok (.aload_n 0, 1) := by decide +kernel
theorem d_Q_means_71 : decode b_Q_means 71 = .ok (.getfield 126, 3) := by decide +kernel
theorem d_Q_means_74 : decode b_Q_means 74 = .ok (.if_icmp .ge 37, 3) := by decide +kernel
theorem d_Q_means_77 : decode b_Q_means 77 = .ok (.iload 5, 2) := by decide +kernel
theorem d_Q_means_79 : decode b_Q_means 79 = .ok (.ifCond .ne 19, 3) := by decide +kernel
theorem d_Q_means_82 : decode b_Q_means 82 = .ok (.aload_n 0, 1) := by decide +kernel
theorem d_Q_means_83 : decode b_Q_means 83 = .ok (.aload_n 0, 1) := by decide +kernel
theorem d_Q_means_84 : decode b_Q_means 84 = .ok (.getfield 61, 3) := by decide +kernel
theorem d_Q_means_87 : decode b_Q_means 87 = .ok (.iload 6, 2) := by decide +kernel
theorem d_Q_means_89 : decode b_Q_means 89 = .ok (.iaload, 1) := by decide +kernel
theorem d_Q_means_90 : decode b_Q_means 90 = .ok (.iload 4, 2) := by decide +kernel
theorem d_Q_means_92 : decode b_Q_means 92 = .ok (.invokevirtual 129, 3) := by decide +kernel
theorem d_Q_means_95 : decode b_Q_means 95 = .ok (.ifCond .eq 7, 3) := by decide +kernel
theorem d_Q_means_98 : decode b_Q_means 98 = .ok (.iconst 1, 1) := by decide +kernel
theorem d_Q_means_99 : decode b_Q_means 99 = .ok (.goto 4, 3) := by decide +kernel
theorem d_Q_means_102 : decode b_Q_means 102 = .ok (.iconst 0, 1) := by decide +kernel
theorem d_Q_means_103 : decode b_Q_means 103 = .ok (.istore 5, 2) := by decide +kernel
theorem d_Q_means_105 : decode b_Q_means 105 = .ok (.iinc 6 1, 3) := by decide +kernel
theorem d_Q_means_108 : decode b_Q_means 108 = .ok (.goto (-40), 3) := by decide +kernel
theorem d_Q_means_111 : decode b_Q_means 111 = .ok (.iload 5, 2) := by decide +kernel
theorem d_Q_means_113 : decode b_Q_means 113 = .ok (.ifCond .eq 6, 3) := by decide +kernel
theorem d_Q_means_116 : decode b_Q_means 116 = .ok (.goto 24, 3) := by decide +kernel
theorem d_Q_means_119 : decode b_Q_means 119 = .ok (.aload_n 0, 1) := by decide +kernel
theorem d_Q_means_120 : decode b_Q_means 120 = .ok (.getfield 61, 3) := by decide +kernel
theorem d_Q_means_123 : decode b_Q_means 123 = .ok (.aload_n 0, 1) := by decide +kernel
theorem d_Q_means_124 : decode b_Q_means 124 = .ok (.getfield 126, 3) := by decide +kernel
theorem d_Q_means_127 : decode b_Q_means 127 = .ok (.iload 4, 2) := by decide +kernel
theorem d_Q_means_129 : decode b_Q_means 129 = .ok (.iastore, 1) := by decide +kernel
theorem d_Q_means_130 : decode b_Q_means 130 = .ok (.aload_n 0, 1) := by decide +kernel
theorem d_Q_means_131 : decode b_Q_means 131 = .ok (.dup, 1) := by decide +kernel
theorem d_Q_means_132 : decode b_Q_means 132 = .ok (.getfield 126, 3) := by decide +kernel
theorem d_Q_means_135 : decode b_Q_means 135 = .ok (.iconst 1, 1) := by decide +kernel
theorem d_Q_means_136 : decode b_Q_means 136 = .ok (.iadd, 1) := by decide +kernel
theorem d_Q_means_137 : decode b_Q_means 137 = .ok (.putfield 126, 3) := by decide +kernel
theorem d_Q_means_140 : decode b_Q_means 140 = .ok (.iinc 4 1, 3) := by decide +kernel
theorem d_Q_means_143 : decode b_Q_means 143 = .ok (.goto (-120), 3) := by decide +kernel
theorem d_Q_means_146 : decode b_Q_means 146 = .ok (.iinc 3 1, 3) := by decide +kernel
theorem d_Q_means_149 : decode b_Q_means 149 = .ok (.goto (-137), 3) := by decide +kernel
theorem d_Q_means_152 : decode b_Q_means 152 = .ok (.return_, 1) := by decide +kernel
abbrev rm_Q_means : Room := { frames := 3, cells := 0, slots := 0, locals := 69 }
def st_Q_means_L68 (n : Nat) (v2 : Int32) (v3 : Int32) (v4 : Int32) (v5 : Int32) (v6 : Int32) (S : ZQ) : Option ((Int32 × Int32 × ZQ) ⊕ (Nat × Int32 × Int32 × ZQ)) :=
  (if (qMm S) ≤ v6 then
  some (.inr (111, v5, v6, S))
  else
  (if v5 = 0 then
    (if zoob v6 80 then none else
      zbind (fx_Q_areSame n S ((qMt S) v6.toNatClampNeg) v4) (fun r_13 S_13 =>
      (if r_13 = 0 then
      some (.inl ((0 : Int32), (v6 + (1 : Int32)), S_13))
      else
      some (.inl ((1 : Int32), (v6 + (1 : Int32)), S_13)))))
    else
    some (.inl ((1 : Int32), (v6 + (1 : Int32)), S))))

def fx_Q_means_L68 (n : Nat) (v2 : Int32) (v3 : Int32) (v4 : Int32) (v5 : Int32) (v6 : Int32) (S : ZQ) : Option (Nat × Int32 × Int32 × ZQ) := zloop (fun (st : Int32 × Int32 × ZQ) => st_Q_means_L68 n v2 v3 v4 st.1 st.2.1 st.2.2) n (v5, v6, S)

def st_Q_means_L23 (n : Nat) (v2 : Int32) (v3 : Int32) (v4 : Int32) (S : ZQ) : Option ((Int32 × ZQ) ⊕ (Nat × Int32 × ZQ)) :=
  (if (qMe S) ≤ v4 then
  some (.inr (146, v4, S))
  else
  (if zoob v4 80 then none else
    (if zoob v3 32 then none else
    (if ((qOw S) v4.toNatClampNeg) = ((qLi S) v3.toNatClampNeg) then
    (if zoob v4 80 then none else
      (if ((qNa S) v4.toNatClampNeg) = v2 then
      zbL3 (fx_Q_means_L68 n v2 v3 v4 (0 : Int32) (0 : Int32) S) (fun x_15 v5_15 v6_15 S_15 =>
        if x_15 = 111 then
        (if v5_15 = 0 then
        (if zoob (qMm S_15) 80 then none else
          zlet (qMt' S_15 (upd (qMt S_15) (qMm S_15).toNatClampNeg v4)) (fun S_18 =>
          zlet (qMm' S_18 ((qMm S_18) + (1 : Int32))) (fun S_19 =>
          some (.inl ((v4 + (1 : Int32)), S_19)))))
        else
        some (.inl ((v4 + (1 : Int32)), S_15)))
        else none)
      else
      some (.inl ((v4 + (1 : Int32)), S))))
    else
    some (.inl ((v4 + (1 : Int32)), S))))))

def fx_Q_means_L23 (n : Nat) (v2 : Int32) (v3 : Int32) (v4 : Int32) (S : ZQ) : Option (Nat × Int32 × ZQ) := zloop (fun (st : Int32 × ZQ) => st_Q_means_L23 n v2 v3 st.1 st.2) n (v4, S)

def st_Q_means_L12 (n : Nat) (v2 : Int32) (v3 : Int32) (S : ZQ) : Option ((Int32 × ZQ) ⊕ (Nat × Int32 × ZQ)) :=
  (if (qLm S) ≤ v3 then
  some (.inr (152, v3, S))
  else
  zbL2 (fx_Q_means_L23 n v2 v3 (0 : Int32) S) (fun x_20 v4_20 S_20 =>
    if x_20 = 146 then
    some (.inl ((v3 + (1 : Int32)), S_20))
    else none))

def fx_Q_means_L12 (n : Nat) (v2 : Int32) (v3 : Int32) (S : ZQ) : Option (Nat × Int32 × ZQ) := zloop (fun (st : Int32 × ZQ) => st_Q_means_L12 n v2 st.1 st.2) n (v3, S)

def fx_Q_means (n : Nat) (S : ZQ) (a1 : Int32) (a2 : Int32) : Option (ZQ) :=
  zbind1 (fx_Q_lineUp n S a1) (fun S_1 =>
  zlet (qMm' S_1 (0 : Int32)) (fun S_2 =>
  zbL2 (fx_Q_means_L12 n a2 (0 : Int32) S_2) (fun x_21 v3_21 S_21 =>
  if x_21 = 152 then
  some S_21
  else none)))

set_option maxRecDepth 100000 in
set_option maxHeartbeats 4000000 in
theorem lp_Q_means_L68 {z : zE} {B : Nat → Nat} {Rr : va_W} {p : Program} {l : Launch} {e : Env} {s : State} {m : MethodId} {args : Array Value} {below : List Frame} {meth : Method} {c : Code} {Q : State → Prop} {H0 : Heap} {A0 : Nat → Prop} (hM : zM z p s m args c b_Q_means 7 R_Q) (hA : ∀ q : Nat, H0.size ≤ q → A0 q) (n : Nat) (v2 : Int32) (v3 : Int32) (v4 : Int32) :
    ∀ (v5 : Int32) (v6 : Int32) (S : ZQ) (r : Nat × Int32 × Int32 × ZQ), fx_Q_means_L68 n v2 v3 v4 v5 v6 S = some r → (∀ (H : Heap) (locs : List Loc) (ls : Array Slot), va_P z.1 vwCl (qw z B r.2.2.2 ++ Rr) H → va_D A0 (qw z B r.2.2.2 ++ Rr) → va_S A0 H0 H locs → lv_has ls 7 [(0, .ref (B 0)), (2, .int v2), (3, .int v3), (4, .int v4), (5, .int r.2.1), (6, .int r.2.2.1)] → W p l e rm_Q_means s m args below meth c H locs 0 0 Q (F0 m r.1 ls [])) →
    ∀ (H : Heap) (locs : List Loc) (ls : Array Slot), va_P z.1 vwCl (qw z B S ++ Rr) H → va_D A0 (qw z B S ++ Rr) → va_S A0 H0 H locs → lv_has ls 7 [(0, .ref (B 0)), (2, .int v2), (3, .int v3), (4, .int v4), (5, .int v5), (6, .int v6)] → W p l e rm_Q_means s m args below meth c H locs 0 0 Q (F0 m 68 ls []) := by
  obtain ⟨hx, hb, hml, hown, hts, hK, hN⟩ := id hM
  intro v5 v6 S r h hE
  refine zz_loop (G := fun (st : Int32 × Int32 × ZQ) => ∀ (H : Heap) (locs : List Loc) (ls : Array Slot), va_P z.1 vwCl (qw z B st.2.2 ++ Rr) H → va_D A0 (qw z B st.2.2 ++ Rr) → va_S A0 H0 H locs → lv_has ls 7 [(0, .ref (B 0)), (2, .int v2), (3, .int v3), (4, .int v4), (5, .int st.1), (6, .int st.2.1)] → W p l e rm_Q_means s m args below meth c H locs 0 0 Q (F0 m 68 ls [])) (E := fun (r : Nat × Int32 × Int32 × ZQ) => ∀ (H : Heap) (locs : List Loc) (ls : Array Slot), va_P z.1 vwCl (qw z B r.2.2.2 ++ Rr) H → va_D A0 (qw z B r.2.2.2 ++ Rr) → va_S A0 H0 H locs → lv_has ls 7 [(0, .ref (B 0)), (2, .int v2), (3, .int v3), (4, .int v4), (5, .int r.2.1), (6, .int r.2.2.1)] → W p l e rm_Q_means s m args below meth c H locs 0 0 Q (F0 m r.1 ls [])) ?_ n (v5, v6, S) r h hE
  clear h hE r v5 v6 S
  rintro ⟨v5, v6, S⟩ o h hG hE H locs ls hP hD hS hl
  have h : st_Q_means_L68 n v2 v3 v4 v5 v6 S = some o := h
  have hl : lv_has ls 7 [(0, .ref (B 0)), (2, .int v2), (3, .int v3), (4, .int v4), (5, .int v5), (6, .int v6)] := hl
  have hP : va_P z.1 vwCl (qw z B S ++ Rr) H := hP
  have hD : va_D A0 (qw z B S ++ Rr) := hD
  unfold st_Q_means_L68 at h
  refine lv_iload hx hb d_Q_means_68 (lv_at hl 5 rfl) ?_
  refine lv_aload_n hx hb d_Q_means_70 rfl (lv_at hl 0 rfl) ?_
  refine va_get (D := z.1) (ci := 5) (v := .int (qMm S)) (C := R_Q) (T := F_Q) (N := 28) hx hb hts i_Q hown hK hP 0 rfl rfl 24 (by decide) (hts _ wq_575) (fun _ h9 => h9) rfl d_Q_means_71 ?_
  refine lv_icmp_ge (tgt := 111) hx hb d_Q_means_74 (by decide) (fun c_10 => ?_) (fun c_10 => ?_)
  · replace h := zz_t c_10 h
    exact hE _ (Option.some.inj h).symm _ _ _ hP hD hS hl
  · replace h := zz_f c_10 h
    refine lv_iload hx hb d_Q_means_77 (lv_at hl 4 rfl) ?_
    refine lv_if_ne (tgt := 98) hx hb d_Q_means_79 (by decide) (fun c_11 => ?_) (fun c_11 => ?_)
    · replace h := zz_f c_11 h
      refine lv_iconst (v := 1) hx hb d_Q_means_98 (by decide) ?_
      refine lv_goto (tgt := 103) hx hb d_Q_means_99 (by decide) ?_
      refine lv_istore (lv' := [(5, .int (1 : Int32)), (0, .ref (B 0)), (2, .int v2), (3, .int v3), (4, .int v4), (6, .int v6)]) hx hb d_Q_means_103 hl (by decide) rfl (fun ls hl => ?_)
      refine lv_iinc (v := (v6 + (1 : Int32))) (lv' := [(6, .int (v6 + (1 : Int32))), (5, .int (1 : Int32)), (0, .ref (B 0)), (2, .int v2), (3, .int v3), (4, .int v4)]) hx hb d_Q_means_105 hl (k := 5) rfl rfl (by decide) rfl (fun ls hl => ?_)
      refine lv_goto (tgt := 68) hx hb d_Q_means_108 (by decide) ?_
      exact hG _ (Option.some.inj h).symm _ _ _ hP hD hS (lv_sub hl [2, 3, 4, 5, 1, 0] rfl)
    · replace h := zz_t c_11 h
      refine lv_aload_n hx hb d_Q_means_82 rfl (lv_at hl 0 rfl) ?_
      refine lv_aload_n hx hb d_Q_means_83 rfl (lv_at hl 0 rfl) ?_
      refine va_get (D := z.1) (ci := 5) (v := .ref (B 16)) (C := R_Q) (T := F_Q) (N := 28) hx hb hts i_Q hown hK hP 0 rfl rfl 23 (by decide) (hts _ wq_574) (fun _ h9 => h9) rfl d_Q_means_84 ?_
      refine lv_iload hx hb d_Q_means_87 (lv_at hl 5 rfl) ?_
      obtain ⟨c_12, h⟩ := zz_oob h
      refine va_iald hx hb hK hP 16 0 rfl rfl c_12 d_Q_means_89 ?_
      refine lv_iload hx hb d_Q_means_90 (lv_at hl 3 rfl) ?_
      obtain ⟨r_13, S_13, e_13, h⟩ := zz_bind h
      refine zz_goI (zz_runV (As := [.int ((qMt S) v6.toNatClampNeg), .int v4]) (rest := []) (k_Q_areSame l z B Rr n _ _ _ _ _ e_13) ⟨hx, hb, hml, hown, hts⟩ (cwV 2 hts (zz_gV wq_712 wq_714 wp_29 wq_6 wq_715) rfl rfl rfl (by decide +kernel) ⟨Nat.le_of_ble_eq_true rfl, Nat.le_of_ble_eq_true rfl⟩) hK hN hP hD (va_recv hK hP (ci := 5) (q0 := 0) rfl rfl) rfl hl.1 rfl (Nat.le_of_ble_eq_true rfl) d_Q_means_92 ⟨Nat.le_of_ble_eq_true rfl, Nat.le_of_ble_eq_true rfl⟩) hD hS hA (fun H locs hP hD hS => ?_)
      refine lv_if_eq (tgt := 102) hx hb d_Q_means_95 (by decide) (fun c_14 => ?_) (fun c_14 => ?_)
      · replace h := zz_t c_14 h
        refine lv_iconst (v := 0) hx hb d_Q_means_102 (by decide) ?_
        refine lv_istore (lv' := [(5, .int (0 : Int32)), (0, .ref (B 0)), (2, .int v2), (3, .int v3), (4, .int v4), (6, .int v6)]) hx hb d_Q_means_103 hl (by decide) rfl (fun ls hl => ?_)
        refine lv_iinc (v := (v6 + (1 : Int32))) (lv' := [(6, .int (v6 + (1 : Int32))), (5, .int (0 : Int32)), (0, .ref (B 0)), (2, .int v2), (3, .int v3), (4, .int v4)]) hx hb d_Q_means_105 hl (k := 5) rfl rfl (by decide) rfl (fun ls hl => ?_)
        refine lv_goto (tgt := 68) hx hb d_Q_means_108 (by decide) ?_
        exact hG _ (Option.some.inj h).symm _ _ _ hP hD hS (lv_sub hl [2, 3, 4, 5, 1, 0] rfl)
      · replace h := zz_f c_14 h
        refine lv_iconst (v := 1) hx hb d_Q_means_98 (by decide) ?_
        refine lv_goto (tgt := 103) hx hb d_Q_means_99 (by decide) ?_
        refine lv_istore (lv' := [(5, .int (1 : Int32)), (0, .ref (B 0)), (2, .int v2), (3, .int v3), (4, .int v4), (6, .int v6)]) hx hb d_Q_means_103 hl (by decide) rfl (fun ls hl => ?_)
        refine lv_iinc (v := (v6 + (1 : Int32))) (lv' := [(6, .int (v6 + (1 : Int32))), (5, .int (1 : Int32)), (0, .ref (B 0)), (2, .int v2), (3, .int v3), (4, .int v4)]) hx hb d_Q_means_105 hl (k := 5) rfl rfl (by decide) rfl (fun ls hl => ?_)
        refine lv_goto (tgt := 68) hx hb d_Q_means_108 (by decide) ?_
        exact hG _ (Option.some.inj h).symm _ _ _ hP hD hS (lv_sub hl [2, 3, 4, 5, 1, 0] rfl)

set_option maxRecDepth 100000 in
set_option maxHeartbeats 4000000 in
theorem lp_Q_means_L23 {z : zE} {B : Nat → Nat} {Rr : va_W} {p : Program} {l : Launch} {e : Env} {s : State} {m : MethodId} {args : Array Value} {below : List Frame} {meth : Method} {c : Code} {Q : State → Prop} {H0 : Heap} {A0 : Nat → Prop} (hM : zM z p s m args c b_Q_means 7 R_Q) (hA : ∀ q : Nat, H0.size ≤ q → A0 q) (n : Nat) (v2 : Int32) (v3 : Int32) :
    ∀ (v4 : Int32) (S : ZQ) (r : Nat × Int32 × ZQ), fx_Q_means_L23 n v2 v3 v4 S = some r → (∀ (H : Heap) (locs : List Loc) (ls : Array Slot), va_P z.1 vwCl (qw z B r.2.2 ++ Rr) H → va_D A0 (qw z B r.2.2 ++ Rr) → va_S A0 H0 H locs → lv_has ls 7 [(0, .ref (B 0)), (2, .int v2), (3, .int v3), (4, .int r.2.1)] → W p l e rm_Q_means s m args below meth c H locs 0 0 Q (F0 m r.1 ls [])) →
    ∀ (H : Heap) (locs : List Loc) (ls : Array Slot), va_P z.1 vwCl (qw z B S ++ Rr) H → va_D A0 (qw z B S ++ Rr) → va_S A0 H0 H locs → lv_has ls 7 [(0, .ref (B 0)), (2, .int v2), (3, .int v3), (4, .int v4)] → W p l e rm_Q_means s m args below meth c H locs 0 0 Q (F0 m 23 ls []) := by
  obtain ⟨hx, hb, hml, hown, hts, hK, hN⟩ := id hM
  intro v4 S r h hE
  refine zz_loop (G := fun (st : Int32 × ZQ) => ∀ (H : Heap) (locs : List Loc) (ls : Array Slot), va_P z.1 vwCl (qw z B st.2 ++ Rr) H → va_D A0 (qw z B st.2 ++ Rr) → va_S A0 H0 H locs → lv_has ls 7 [(0, .ref (B 0)), (2, .int v2), (3, .int v3), (4, .int st.1)] → W p l e rm_Q_means s m args below meth c H locs 0 0 Q (F0 m 23 ls [])) (E := fun (r : Nat × Int32 × ZQ) => ∀ (H : Heap) (locs : List Loc) (ls : Array Slot), va_P z.1 vwCl (qw z B r.2.2 ++ Rr) H → va_D A0 (qw z B r.2.2 ++ Rr) → va_S A0 H0 H locs → lv_has ls 7 [(0, .ref (B 0)), (2, .int v2), (3, .int v3), (4, .int r.2.1)] → W p l e rm_Q_means s m args below meth c H locs 0 0 Q (F0 m r.1 ls [])) ?_ n (v4, S) r h hE
  clear h hE r v4 S
  rintro ⟨v4, S⟩ o h hG hE H locs ls hP hD hS hl
  have h : st_Q_means_L23 n v2 v3 v4 S = some o := h
  have hl : lv_has ls 7 [(0, .ref (B 0)), (2, .int v2), (3, .int v3), (4, .int v4)] := hl
  have hP : va_P z.1 vwCl (qw z B S ++ Rr) H := hP
  have hD : va_D A0 (qw z B S ++ Rr) := hD
  unfold st_Q_means_L23 at h
  refine lv_iload hx hb d_Q_means_23 (lv_at hl 3 rfl) ?_
  refine lv_aload_n hx hb d_Q_means_25 rfl (lv_at hl 0 rfl) ?_
  refine va_get (D := z.1) (ci := 5) (v := .int (qMe S)) (C := R_Q) (T := F_Q) (N := 28) hx hb hts i_Q hown hK hP 0 rfl rfl 6 (by decide) (hts _ wq_557) (fun _ h9 => h9) rfl d_Q_means_26 ?_
  refine lv_icmp_ge (tgt := 146) hx hb d_Q_means_29 (by decide) (fun c_4 => ?_) (fun c_4 => ?_)
  · replace h := zz_t c_4 h
    exact hE _ (Option.some.inj h).symm _ _ _ hP hD hS hl
  · replace h := zz_f c_4 h
    refine lv_aload_n hx hb d_Q_means_32 rfl (lv_at hl 0 rfl) ?_
    refine va_get (D := z.1) (ci := 5) (v := .ref (B 5)) (C := R_Q) (T := F_Q) (N := 28) hx hb hts i_Q hown hK hP 0 rfl rfl 7 (by decide) (hts _ wq_558) (fun _ h9 => h9) rfl d_Q_means_33 ?_
    refine lv_iload hx hb d_Q_means_36 (lv_at hl 3 rfl) ?_
    obtain ⟨c_5, h⟩ := zz_oob h
    refine va_iald hx hb hK hP 5 0 rfl rfl c_5 d_Q_means_38 ?_
    refine lv_aload_n hx hb d_Q_means_39 rfl (lv_at hl 0 rfl) ?_
    refine va_get (D := z.1) (ci := 5) (v := .ref (B 15)) (C := R_Q) (T := F_Q) (N := 28) hx hb hts i_Q hown hK hP 0 rfl rfl 21 (by decide) (hts _ wq_572) (fun _ h9 => h9) rfl d_Q_means_40 ?_
    refine lv_iload_n hx hb d_Q_means_43 rfl (lv_at hl 2 rfl) ?_
    obtain ⟨c_6, h⟩ := zz_oob h
    refine va_iald hx hb hK hP 15 0 rfl rfl c_6 d_Q_means_44 ?_
    refine lv_icmp_ne (tgt := 140) hx hb d_Q_means_45 (by decide) (fun c_7 => ?_) (fun c_7 => ?_)
    · replace h := zz_f c_7 h
      refine lv_iinc (v := (v4 + (1 : Int32))) (lv' := [(4, .int (v4 + (1 : Int32))), (0, .ref (B 0)), (2, .int v2), (3, .int v3)]) hx hb d_Q_means_140 hl (k := 3) rfl rfl (by decide) rfl (fun ls hl => ?_)
      refine lv_goto (tgt := 23) hx hb d_Q_means_143 (by decide) ?_
      exact hG _ (Option.some.inj h).symm _ _ _ hP hD hS (lv_sub hl [1, 2, 3, 0] rfl)
    · replace h := zz_t c_7 h
      refine lv_aload_n hx hb d_Q_means_48 rfl (lv_at hl 0 rfl) ?_
      refine va_get (D := z.1) (ci := 5) (v := .ref (B 6)) (C := R_Q) (T := F_Q) (N := 28) hx hb hts i_Q hown hK hP 0 rfl rfl 8 (by decide) (hts _ wq_559) (fun _ h9 => h9) rfl d_Q_means_49 ?_
      refine lv_iload hx hb d_Q_means_52 (lv_at hl 3 rfl) ?_
      obtain ⟨c_8, h⟩ := zz_oob h
      refine va_iald hx hb hK hP 6 0 rfl rfl c_8 d_Q_means_54 ?_
      refine lv_iload_n hx hb d_Q_means_55 rfl (lv_at hl 1 rfl) ?_
      refine lv_icmp_eq (tgt := 62) hx hb d_Q_means_56 (by decide) (fun c_9 => ?_) (fun c_9 => ?_)
      · replace h := zz_t c_9 h
        refine lv_iconst (v := 0) hx hb d_Q_means_62 (by decide) ?_
        refine lv_istore (lv' := [(5, .int (0 : Int32)), (0, .ref (B 0)), (2, .int v2), (3, .int v3), (4, .int v4)]) hx hb d_Q_means_63 hl (by decide) rfl (fun ls hl => ?_)
        refine lv_iconst (v := 0) hx hb d_Q_means_65 (by decide) ?_
        refine lv_istore (lv' := [(6, .int (0 : Int32)), (5, .int (0 : Int32)), (0, .ref (B 0)), (2, .int v2), (3, .int v3), (4, .int v4)]) hx hb d_Q_means_66 hl (by decide) rfl (fun ls hl => ?_)
        replace h := zz_bL3 h
        obtain ⟨x_15, v5_15, v6_15, S_15, e_15, h⟩ := h
        refine lp_Q_means_L68 hM hA n v2 v3 v4 _ _ _ _ e_15 ?_ _ _ _ hP hD hS (lv_sub hl [2, 3, 4, 5, 1, 0] rfl)
        intro H locs ls hP hD hS hl
        have hl : lv_has ls 7 [(0, .ref (B 0)), (2, .int v2), (3, .int v3), (4, .int v4), (5, .int v5_15), (6, .int v6_15)] := hl
        have hP : va_P z.1 vwCl (qw z B S_15 ++ Rr) H := hP
        have hD : va_D A0 (qw z B S_15 ++ Rr) := hD
        replace h := zz_grd h
        obtain ⟨c_15, h⟩ := h
        subst c_15
        refine W.eq (g2 := F0 m 111 ls []) rfl ?_
        refine lv_iload hx hb d_Q_means_111 (lv_at hl 4 rfl) ?_
        refine lv_if_eq (tgt := 119) hx hb d_Q_means_113 (by decide) (fun c_16 => ?_) (fun c_16 => ?_)
        · replace h := zz_t c_16 h
          refine lv_aload_n hx hb d_Q_means_119 rfl (lv_at hl 0 rfl) ?_
          refine va_get (D := z.1) (ci := 5) (v := .ref (B 16)) (C := R_Q) (T := F_Q) (N := 28) hx hb hts i_Q hown hK hP 0 rfl rfl 23 (by decide) (hts _ wq_574) (fun _ h9 => h9) rfl d_Q_means_120 ?_
          refine lv_aload_n hx hb d_Q_means_123 rfl (lv_at hl 0 rfl) ?_
          refine va_get (D := z.1) (ci := 5) (v := .int (qMm S_15)) (C := R_Q) (T := F_Q) (N := 28) hx hb hts i_Q hown hK hP 0 rfl rfl 24 (by decide) (hts _ wq_575) (fun _ h9 => h9) rfl d_Q_means_124 ?_
          refine lv_iload hx hb d_Q_means_127 (lv_at hl 3 rfl) ?_
          obtain ⟨c_17, h⟩ := zz_oob h
          obtain ⟨S_18, e_18, h⟩ := zz_let h
          refine va_iast hx hb hK hP hD hS 16 0 rfl rfl c_17 d_Q_means_129 (fun H locs hP hD hS => ?_)
          have hP : va_P z.1 vwCl (qw z B S_18 ++ Rr) H := by rw [e_18]; exact hP
          have hD : va_D A0 (qw z B S_18 ++ Rr) := by rw [e_18]; exact hD
          refine lv_aload_n hx hb d_Q_means_130 rfl (lv_at hl 0 rfl) ?_
          refine lv_dup hx hb d_Q_means_131 rfl ?_
          refine va_get (D := z.1) (ci := 5) (v := .int (qMm S_18)) (C := R_Q) (T := F_Q) (N := 28) hx hb hts i_Q hown hK hP 0 rfl rfl 24 (by decide) (hts _ wq_575) (fun _ h9 => h9) rfl d_Q_means_132 ?_
          refine lv_iconst (v := 1) hx hb d_Q_means_135 (by decide) ?_
          refine lv_iadd hx hb d_Q_means_136 ?_
          obtain ⟨S_19, e_19, h⟩ := zz_let h
          refine va_put (D := z.1) (ci := 5) (v := .int ((qMm S_18) + (1 : Int32))) (ty := .int) (C := R_Q) (T := F_Q) (N := 28) hx hb hts i_Q ty_Q ty_Q_ok n_Q hown hK hP hD hS 0 rfl rfl 24 (by decide) (hts _ wq_575) (fun _ h9 => h9) rfl (by decide +kernel) rfl rfl (Nat.le_of_ble_eq_true rfl) d_Q_means_137 (fun H locs hP hD hS => ?_)
          have hP : va_P z.1 vwCl (qw z B S_19 ++ Rr) H := by rw [e_19]; exact hP
          have hD : va_D A0 (qw z B S_19 ++ Rr) := by rw [e_19]; exact hD
          refine lv_iinc (v := (v4 + (1 : Int32))) (lv' := [(4, .int (v4 + (1 : Int32))), (0, .ref (B 0)), (2, .int v2), (3, .int v3), (5, .int v5_15), (6, .int v6_15)]) hx hb d_Q_means_140 hl (k := 3) rfl rfl (by decide) rfl (fun ls hl => ?_)
          refine lv_goto (tgt := 23) hx hb d_Q_means_143 (by decide) ?_
          exact hG _ (Option.some.inj h).symm _ _ _ hP hD hS (lv_sub hl [1, 2, 3, 0] rfl)
        · replace h := zz_f c_16 h
          refine lv_goto (tgt := 140) hx hb d_Q_means_116 (by decide) ?_
          refine lv_iinc (v := (v4 + (1 : Int32))) (lv' := [(4, .int (v4 + (1 : Int32))), (0, .ref (B 0)), (2, .int v2), (3, .int v3), (5, .int v5_15), (6, .int v6_15)]) hx hb d_Q_means_140 hl (k := 3) rfl rfl (by decide) rfl (fun ls hl => ?_)
          refine lv_goto (tgt := 23) hx hb d_Q_means_143 (by decide) ?_
          exact hG _ (Option.some.inj h).symm _ _ _ hP hD hS (lv_sub hl [1, 2, 3, 0] rfl)
      · replace h := zz_f c_9 h
        refine lv_goto (tgt := 140) hx hb d_Q_means_59 (by decide) ?_
        refine lv_iinc (v := (v4 + (1 : Int32))) (lv' := [(4, .int (v4 + (1 : Int32))), (0, .ref (B 0)), (2, .int v2), (3, .int v3)]) hx hb d_Q_means_140 hl (k := 3) rfl rfl (by decide) rfl (fun ls hl => ?_)
        refine lv_goto (tgt := 23) hx hb d_Q_means_143 (by decide) ?_
        exact hG _ (Option.some.inj h).symm _ _ _ hP hD hS (lv_sub hl [1, 2, 3, 0] rfl)

set_option maxRecDepth 100000 in
set_option maxHeartbeats 4000000 in
theorem lp_Q_means_L12 {z : zE} {B : Nat → Nat} {Rr : va_W} {p : Program} {l : Launch} {e : Env} {s : State} {m : MethodId} {args : Array Value} {below : List Frame} {meth : Method} {c : Code} {Q : State → Prop} {H0 : Heap} {A0 : Nat → Prop} (hM : zM z p s m args c b_Q_means 7 R_Q) (hA : ∀ q : Nat, H0.size ≤ q → A0 q) (n : Nat) (v2 : Int32) :
    ∀ (v3 : Int32) (S : ZQ) (r : Nat × Int32 × ZQ), fx_Q_means_L12 n v2 v3 S = some r → (∀ (H : Heap) (locs : List Loc) (ls : Array Slot), va_P z.1 vwCl (qw z B r.2.2 ++ Rr) H → va_D A0 (qw z B r.2.2 ++ Rr) → va_S A0 H0 H locs → lv_has ls 7 [(0, .ref (B 0)), (2, .int v2), (3, .int r.2.1)] → W p l e rm_Q_means s m args below meth c H locs 0 0 Q (F0 m r.1 ls [])) →
    ∀ (H : Heap) (locs : List Loc) (ls : Array Slot), va_P z.1 vwCl (qw z B S ++ Rr) H → va_D A0 (qw z B S ++ Rr) → va_S A0 H0 H locs → lv_has ls 7 [(0, .ref (B 0)), (2, .int v2), (3, .int v3)] → W p l e rm_Q_means s m args below meth c H locs 0 0 Q (F0 m 12 ls []) := by
  obtain ⟨hx, hb, hml, hown, hts, hK, hN⟩ := id hM
  intro v3 S r h hE
  refine zz_loop (G := fun (st : Int32 × ZQ) => ∀ (H : Heap) (locs : List Loc) (ls : Array Slot), va_P z.1 vwCl (qw z B st.2 ++ Rr) H → va_D A0 (qw z B st.2 ++ Rr) → va_S A0 H0 H locs → lv_has ls 7 [(0, .ref (B 0)), (2, .int v2), (3, .int st.1)] → W p l e rm_Q_means s m args below meth c H locs 0 0 Q (F0 m 12 ls [])) (E := fun (r : Nat × Int32 × ZQ) => ∀ (H : Heap) (locs : List Loc) (ls : Array Slot), va_P z.1 vwCl (qw z B r.2.2 ++ Rr) H → va_D A0 (qw z B r.2.2 ++ Rr) → va_S A0 H0 H locs → lv_has ls 7 [(0, .ref (B 0)), (2, .int v2), (3, .int r.2.1)] → W p l e rm_Q_means s m args below meth c H locs 0 0 Q (F0 m r.1 ls [])) ?_ n (v3, S) r h hE
  clear h hE r v3 S
  rintro ⟨v3, S⟩ o h hG hE H locs ls hP hD hS hl
  have h : st_Q_means_L12 n v2 v3 S = some o := h
  have hl : lv_has ls 7 [(0, .ref (B 0)), (2, .int v2), (3, .int v3)] := hl
  have hP : va_P z.1 vwCl (qw z B S ++ Rr) H := hP
  have hD : va_D A0 (qw z B S ++ Rr) := hD
  unfold st_Q_means_L12 at h
  refine lv_iload_n hx hb d_Q_means_12 rfl (lv_at hl 2 rfl) ?_
  refine lv_aload_n hx hb d_Q_means_13 rfl (lv_at hl 0 rfl) ?_
  refine va_get (D := z.1) (ci := 5) (v := .int (qLm S)) (C := R_Q) (T := F_Q) (N := 28) hx hb hts i_Q hown hK hP 0 rfl rfl 22 (by decide) (hts _ wq_573) (fun _ h9 => h9) rfl d_Q_means_14 ?_
  refine lv_icmp_ge (tgt := 152) hx hb d_Q_means_17 (by decide) (fun c_3 => ?_) (fun c_3 => ?_)
  · replace h := zz_t c_3 h
    exact hE _ (Option.some.inj h).symm _ _ _ hP hD hS hl
  · replace h := zz_f c_3 h
    refine lv_iconst (v := 0) hx hb d_Q_means_20 (by decide) ?_
    refine lv_istore (lv' := [(4, .int (0 : Int32)), (0, .ref (B 0)), (2, .int v2), (3, .int v3)]) hx hb d_Q_means_21 hl (by decide) rfl (fun ls hl => ?_)
    replace h := zz_bL2 h
    obtain ⟨x_20, v4_20, S_20, e_20, h⟩ := h
    refine lp_Q_means_L23 hM hA n v2 v3 _ _ _ e_20 ?_ _ _ _ hP hD hS (lv_sub hl [1, 2, 3, 0] rfl)
    intro H locs ls hP hD hS hl
    have hl : lv_has ls 7 [(0, .ref (B 0)), (2, .int v2), (3, .int v3), (4, .int v4_20)] := hl
    have hP : va_P z.1 vwCl (qw z B S_20 ++ Rr) H := hP
    have hD : va_D A0 (qw z B S_20 ++ Rr) := hD
    replace h := zz_grd h
    obtain ⟨c_20, h⟩ := h
    subst c_20
    refine W.eq (g2 := F0 m 146 ls []) rfl ?_
    refine lv_iinc (v := (v3 + (1 : Int32))) (lv' := [(3, .int (v3 + (1 : Int32))), (0, .ref (B 0)), (2, .int v2), (4, .int v4_20)]) hx hb d_Q_means_146 hl (k := 2) rfl rfl (by decide) rfl (fun ls hl => ?_)
    refine lv_goto (tgt := 12) hx hb d_Q_means_149 (by decide) ?_
    exact hG _ (Option.some.inj h).symm _ _ _ hP hD hS (lv_sub hl [1, 2, 0] rfl)

set_option maxRecDepth 100000 in
set_option maxHeartbeats 4000000 in
theorem k_Q_means (l : Launch) (z : zE) (B : Nat → Nat) (Rr : va_W) (n : Nat) (S : ZQ) (a1 : Int32) (a2 : Int32) (S' : ZQ) (h : fx_Q_means n S a1 a2 = some S') : zC z l y_Q_means w_Q_means rm_Q_means [.ref (B 0), .int a1, .int a2] (qw z B S ++ Rr) none (qw z B S' ++ Rr) := by
  refine zz_of (by decide) (Nat.le_of_ble_eq_true rfl) ?_
  intro p e s m args below meth c A0 ls hM hr hlocks hA hP hD hl
  have hM : zM z p s m args c b_Q_means 7 R_Q := hM
  obtain ⟨hx, hb, hml, hown, hts, hK, hN⟩ := id hM
  have hS : va_S A0 s.heap s.heap [] := va_S.rf
  have hl : lv_has ls 7 [(0, .ref (B 0)), (1, .int a1), (2, .int a2)] := hl
  unfold fx_Q_means at h
  refine lv_aload_n hx hb d_Q_means_0 rfl (lv_at hl 0 rfl) ?_
  refine lv_iload_n hx hb d_Q_means_1 rfl (lv_at hl 1 rfl) ?_
  obtain ⟨S_1, e_1, h⟩ := zz_bind1 h
  refine zz_goV (zz_runV (As := [.int a1]) (rest := []) (k_Q_lineUp l z B Rr n _ _ _ e_1) ⟨hx, hb, hml, hown, hts⟩ (cwV 1 hts (zz_gV wq_700 wq_702 wp_26 wq_6 wq_703) rfl rfl rfl (by decide +kernel) ⟨Nat.le_of_ble_eq_true rfl, Nat.le_of_ble_eq_true rfl⟩) hK hN hP hD (va_recv hK hP (ci := 5) (q0 := 0) rfl rfl) rfl hl.1 rfl (Nat.le_of_ble_eq_true rfl) d_Q_means_2 ⟨Nat.le_of_ble_eq_true rfl, Nat.le_of_ble_eq_true rfl⟩) hD hS hA (fun H locs hP hD hS => ?_)
  refine lv_aload_n hx hb d_Q_means_5 rfl (lv_at hl 0 rfl) ?_
  refine lv_iconst (v := 0) hx hb d_Q_means_6 (by decide) ?_
  obtain ⟨S_2, e_2, h⟩ := zz_let h
  refine va_put (D := z.1) (ci := 5) (v := .int (0 : Int32)) (ty := .int) (C := R_Q) (T := F_Q) (N := 28) hx hb hts i_Q ty_Q ty_Q_ok n_Q hown hK hP hD hS 0 rfl rfl 24 (by decide) (hts _ wq_575) (fun _ h9 => h9) rfl (by decide +kernel) rfl rfl (Nat.le_of_ble_eq_true rfl) d_Q_means_7 (fun H locs hP hD hS => ?_)
  have hP : va_P z.1 vwCl (qw z B S_2 ++ Rr) H := by rw [e_2]; exact hP
  have hD : va_D A0 (qw z B S_2 ++ Rr) := by rw [e_2]; exact hD
  refine lv_iconst (v := 0) hx hb d_Q_means_10 (by decide) ?_
  refine lv_istore_n (lv' := [(3, .int (0 : Int32)), (0, .ref (B 0)), (1, .int a1), (2, .int a2)]) hx hb d_Q_means_11 rfl hl (by decide) rfl (fun ls hl => ?_)
  replace h := zz_bL2 h
  obtain ⟨x_21, v3_21, S_21, e_21, h⟩ := h
  refine lp_Q_means_L12 hM hA n a2 _ _ _ e_21 ?_ _ _ _ hP hD hS (lv_sub hl [1, 3, 0] rfl)
  intro H locs ls hP hD hS hl
  have hl : lv_has ls 7 [(0, .ref (B 0)), (2, .int a2), (3, .int v3_21)] := hl
  have hP : va_P z.1 vwCl (qw z B S_21 ++ Rr) H := hP
  have hD : va_D A0 (qw z B S_21 ++ Rr) := hD
  replace h := zz_grd h
  obtain ⟨c_21, h⟩ := h
  subst c_21
  refine W.eq (g2 := F0 m 152 ls []) rfl ?_
  exact zz_vret (fun S => qw z B S ++ Rr) hx hb hr hlocks hP hD hS h d_Q_means_152

abbrev b_Q_meant : ByteArray := prog_7_method_21_code
abbrev y_Q_meant : MethodName := ⟨"MemberChooserModel", "meant", "(III)I"⟩
abbrev w_Q_meant : List Cond := Cond.code y_Q_meant b_Q_meant 4 (some .int) :: zTb
theorem d_Q_meant_0 : decode b_Q_meant 0 = .ok (.aload_n 0, 1) := by decide +kernel
theorem d_Q_meant_1 : decode b_Q_meant 1 = .ok (.iconst 0, 1) := by decide +kernel
theorem d_Q_meant_2 : decode b_Q_meant 2 = .ok (.putfield 73, 3) := by decide +kernel
theorem d_Q_meant_5 : decode b_Q_meant 5 = .ok (.aload_n 0, 1) := by decide +kernel
theorem d_Q_meant_6 : decode b_Q_meant 6 = .ok (.iload_n 1, 1) := by decide +kernel
theorem d_Q_meant_7 : decode b_Q_meant 7 = .ok (.invokevirtual 76, 3) := by decide +kernel
theorem d_Q_meant_10 : decode b_Q_meant 10 = .ok (.ifCond .ne 5, 3) := by decide +kernel
theorem d_Q_meant_13 : decode b_Q_meant 13 = .ok (.iconst (-1), 1) := by decide +kernel
theorem d_Q_meant_14 : decode b_Q_meant 14 = .ok (.ireturn, 1) := by decide +kernel
theorem d_Q_meant_15 : decode b_Q_meant 15 = .ok (.aload_n 0, 1) := by decide +kernel
theorem d_Q_meant_16 : decode b_Q_meant 16 = .ok (.iload_n 1, 1) := by decide +kernel
theorem d_Q_meant_17 : decode b_Q_meant 17 = .ok (.iload_n 2, 1) := by decide +kernel
theorem d_Q_meant_18 : decode b_Q_meant 18 = .ok (.invokevirtual 132, 3) := by decide +kernel
theorem d_Q_meant_21 : decode b_Q_meant 21 = .ok (.iload_n 3, 1) := by decide +kernel
theorem d_Q_meant_22 : decode b_Q_meant 22 = .ok (.ifCond .lt 20, 3) := by decide +kernel
theorem d_Q_meant_25 : decode b_Q_meant 25 = .ok (.iload_n 3, 1) := by decide +kernel
theorem d_Q_meant_26 : decode b_Q_meant 26 = .ok (.aload_n 0, 1) := by decide +kernel
theorem d_Q_meant_27 : decode b_Q_meant 27 = .ok (.getfield 126, 3) := by decide +kernel
theorem d_Q_meant_30 : decode b_Q_meant 30 = .ok (.if_icmp .ge 12, 3) := by decide +kernel
theorem d_Q_meant_33 : decode b_Q_meant 33 = .ok (.aload_n 0, 1) := by decide +kernel
theorem d_Q_meant_34 : decode b_Q_meant 34 = .ok (.getfield 61, 3) := by decide +kernel
theorem d_Q_meant_37 : decode b_Q_meant 37 = .ok (.iload_n 3, 1) := by decide +kernel
theorem d_Q_meant_38 : decode b_Q_meant 38 = .ok (.iaload, 1) := by decide +kernel
theorem d_Q_meant_39 : decode b_Q_meant 39 = .ok (.goto 4, 3) := by decide +kernel
theorem d_Q_meant_42 : decode b_Q_meant 42 = .ok (.iconst (-1), 1) := by decide +kernel
theorem d_Q_meant_43 : decode b_Q_meant 43 = .ok (.ireturn, 1) := by decide +kernel
abbrev rm_Q_meant : Room := { frames := 4, cells := 0, slots := 0, locals := 95 }
def fx_Q_meant (n : Nat) (S : ZQ) (a1 : Int32) (a2 : Int32) (a3 : Int32) : Option (Int32 × ZQ) :=
  zlet (qTh' S (0 : Int32)) (fun S_1 =>
  zbind (fx_Q_isOwn n S_1 a1) (fun r_2 S_2 =>
  (if r_2 = 0 then
  some ((-1 : Int32), S_2)
  else
  zbind1 (fx_Q_means n S_2 a1 a2) (fun S_4 =>
    (if a3 < 0 then
    some ((-1 : Int32), S_4)
    else
    (if (qMm S_4) ≤ a3 then
      some ((-1 : Int32), S_4)
      else
      (if zoob a3 80 then none else
        some (((qMt S_4) a3.toNatClampNeg), S_4))))))))

set_option maxRecDepth 100000 in
set_option maxHeartbeats 4000000 in
theorem k_Q_meant (l : Launch) (z : zE) (B : Nat → Nat) (Rr : va_W) (n : Nat) (S : ZQ) (a1 : Int32) (a2 : Int32) (a3 : Int32) (r0 : Int32) (S' : ZQ) (h : fx_Q_meant n S a1 a2 a3 = some (r0, S')) : zC z l y_Q_meant w_Q_meant rm_Q_meant [.ref (B 0), .int a1, .int a2, .int a3] (qw z B S ++ Rr) (some (.int r0)) (qw z B S' ++ Rr) := by
  refine zz_of (by decide) (Nat.le_of_ble_eq_true rfl) ?_
  intro p e s m args below meth c A0 ls hM hr hlocks hA hP hD hl
  have hM : zM z p s m args c b_Q_meant 4 R_Q := hM
  obtain ⟨hx, hb, hml, hown, hts, hK, hN⟩ := id hM
  have hS : va_S A0 s.heap s.heap [] := va_S.rf
  have hl : lv_has ls 4 [(0, .ref (B 0)), (1, .int a1), (2, .int a2), (3, .int a3)] := hl
  unfold fx_Q_meant at h
  refine lv_aload_n hx hb d_Q_meant_0 rfl (lv_at hl 0 rfl) ?_
  refine lv_iconst (v := 0) hx hb d_Q_meant_1 (by decide) ?_
  obtain ⟨S_1, e_1, h⟩ := zz_let h
  refine va_put (D := z.1) (ci := 5) (v := .int (0 : Int32)) (ty := .int) (C := R_Q) (T := F_Q) (N := 28) hx hb hts i_Q ty_Q ty_Q_ok n_Q hown hK hP hD hS 0 rfl rfl 0 (by decide) (hts _ wq_551) (fun _ h9 => h9) rfl (by decide +kernel) rfl rfl (Nat.le_of_ble_eq_true rfl) d_Q_meant_2 (fun H locs hP hD hS => ?_)
  have hP : va_P z.1 vwCl (qw z B S_1 ++ Rr) H := by rw [e_1]; exact hP
  have hD : va_D A0 (qw z B S_1 ++ Rr) := by rw [e_1]; exact hD
  refine lv_aload_n hx hb d_Q_meant_5 rfl (lv_at hl 0 rfl) ?_
  refine lv_iload_n hx hb d_Q_meant_6 rfl (lv_at hl 1 rfl) ?_
  obtain ⟨r_2, S_2, e_2, h⟩ := zz_bind h
  refine zz_goI (zz_runV (As := [.int a1]) (rest := []) (k_Q_isOwn l z B Rr n _ _ _ _ e_2) ⟨hx, hb, hml, hown, hts⟩ (cwV 1 hts (zz_gV wq_644 wq_646 wp_18 wq_6 wq_647) rfl rfl rfl (by decide +kernel) ⟨Nat.le_of_ble_eq_true rfl, Nat.le_of_ble_eq_true rfl⟩) hK hN hP hD (va_recv hK hP (ci := 5) (q0 := 0) rfl rfl) rfl hl.1 rfl (Nat.le_of_ble_eq_true rfl) d_Q_meant_7 ⟨Nat.le_of_ble_eq_true rfl, Nat.le_of_ble_eq_true rfl⟩) hD hS hA (fun H locs hP hD hS => ?_)
  refine lv_if_ne (tgt := 15) hx hb d_Q_meant_10 (by decide) (fun c_3 => ?_) (fun c_3 => ?_)
  · replace h := zz_f c_3 h
    refine lv_aload_n hx hb d_Q_meant_15 rfl (lv_at hl 0 rfl) ?_
    refine lv_iload_n hx hb d_Q_meant_16 rfl (lv_at hl 1 rfl) ?_
    refine lv_iload_n hx hb d_Q_meant_17 rfl (lv_at hl 2 rfl) ?_
    obtain ⟨S_4, e_4, h⟩ := zz_bind1 h
    refine zz_goV (zz_runV (As := [.int a1, .int a2]) (rest := []) (k_Q_means l z B Rr n _ _ _ _ e_4) ⟨hx, hb, hml, hown, hts⟩ (cwV 2 hts (zz_gV wq_696 wq_698 wp_25 wq_6 wq_699) rfl rfl rfl (by decide +kernel) ⟨Nat.le_of_ble_eq_true rfl, Nat.le_of_ble_eq_true rfl⟩) hK hN hP hD (va_recv hK hP (ci := 5) (q0 := 0) rfl rfl) rfl hl.1 rfl (Nat.le_of_ble_eq_true rfl) d_Q_meant_18 ⟨Nat.le_of_ble_eq_true rfl, Nat.le_of_ble_eq_true rfl⟩) hD hS hA (fun H locs hP hD hS => ?_)
    refine lv_iload_n hx hb d_Q_meant_21 rfl (lv_at hl 3 rfl) ?_
    refine lv_if_lt (tgt := 42) hx hb d_Q_meant_22 (by decide) (fun c_5 => ?_) (fun c_5 => ?_)
    · replace h := zz_t c_5 h
      refine lv_iconst (v := -1) hx hb d_Q_meant_42 (by decide) ?_
      exact zz_iret (fun S => qw z B S ++ Rr) hx hb hr hlocks hP hD hS h d_Q_meant_43
    · replace h := zz_f c_5 h
      refine lv_iload_n hx hb d_Q_meant_25 rfl (lv_at hl 3 rfl) ?_
      refine lv_aload_n hx hb d_Q_meant_26 rfl (lv_at hl 0 rfl) ?_
      refine va_get (D := z.1) (ci := 5) (v := .int (qMm S_4)) (C := R_Q) (T := F_Q) (N := 28) hx hb hts i_Q hown hK hP 0 rfl rfl 24 (by decide) (hts _ wq_575) (fun _ h9 => h9) rfl d_Q_meant_27 ?_
      refine lv_icmp_ge (tgt := 42) hx hb d_Q_meant_30 (by decide) (fun c_6 => ?_) (fun c_6 => ?_)
      · replace h := zz_t c_6 h
        refine lv_iconst (v := -1) hx hb d_Q_meant_42 (by decide) ?_
        exact zz_iret (fun S => qw z B S ++ Rr) hx hb hr hlocks hP hD hS h d_Q_meant_43
      · replace h := zz_f c_6 h
        refine lv_aload_n hx hb d_Q_meant_33 rfl (lv_at hl 0 rfl) ?_
        refine va_get (D := z.1) (ci := 5) (v := .ref (B 16)) (C := R_Q) (T := F_Q) (N := 28) hx hb hts i_Q hown hK hP 0 rfl rfl 23 (by decide) (hts _ wq_574) (fun _ h9 => h9) rfl d_Q_meant_34 ?_
        refine lv_iload_n hx hb d_Q_meant_37 rfl (lv_at hl 3 rfl) ?_
        obtain ⟨c_7, h⟩ := zz_oob h
        refine va_iald hx hb hK hP 16 0 rfl rfl c_7 d_Q_meant_38 ?_
        refine lv_goto (tgt := 43) hx hb d_Q_meant_39 (by decide) ?_
        exact zz_iret (fun S => qw z B S ++ Rr) hx hb hr hlocks hP hD hS h d_Q_meant_43
  · replace h := zz_t c_3 h
    refine lv_iconst (v := -1) hx hb d_Q_meant_13 (by decide) ?_
    exact zz_iret (fun S => qw z B S ++ Rr) hx hb hr hlocks hP hD hS h d_Q_meant_14

abbrev b_Q_goes : ByteArray := prog_7_method_22_code
abbrev y_Q_goes : MethodName := ⟨"MemberChooserModel", "goes", "(IIZ)Z"⟩
abbrev w_Q_goes : List Cond := Cond.code y_Q_goes b_Q_goes 4 (some .boolean) :: zTb
theorem d_Q_goes_0 : decode b_Q_goes 0 = .ok (.iload_n 2, 1) := by decide +kernel
theorem d_Q_goes_1 : decode b_Q_goes 1 = .ok (.iconst 2, 1) := by decide +kernel
theorem d_Q_goes_2 : decode b_Q_goes 2 = .ok (.if_icmp .le 25, 3) := by decide +kernel
theorem d_Q_goes_5 : decode b_Q_goes 5 = .ok (.iload_n 1, 1) := by decide +kernel
theorem d_Q_goes_6 : decode b_Q_goes 6 = .ok (.sipush 255, 3) := by decide +kernel
theorem d_Q_goes_9 : decode b_Q_goes 9 = .ok (.if_icmp .eq 12, 3) := by decide +kernel
theorem d_Q_goes_12 : decode b_Q_goes 12 = .ok (.aload_n 0, 1) := by decide +kernel
theorem d_Q_goes_13 : decode b_Q_goes 13 = .ok (.iload_n 1, 1) := by decide +kernel
theorem d_Q_goes_14 : decode b_Q_goes 14 = .ok (.iload_n 2, 1) := by decide +kernel
theorem d_Q_goes_15 : decode b_Q_goes 15 = .ok (.invokevirtual 91, 3) := by decide +kernel
theorem d_Q_goes_18 : decode b_Q_goes 18 = .ok (.ifCond .eq 7, 3) := by decide +kernel
theorem d_Q_goes_21 : decode b_Q_goes 21 = .ok (.iconst 1, 1) := by decide +kernel
theorem d_Q_goes_22 : decode b_Q_goes 22 = .ok (.goto 4, 3) := by decide +kernel
theorem d_Q_goes_25 : decode b_Q_goes 25 = .ok (.iconst 0, 1) := by decide +kernel
theorem d_Q_goes_26 : decode b_Q_goes 26 = .ok (.ireturn, 1) := by decide +kernel
theorem d_Q_goes_27 : decode b_Q_goes 27 = .ok (.iload_n 3, 1) := by decide +kernel
theorem d_Q_goes_28 : decode b_Q_goes 28 = .ok (.ifCond .eq 37, 3) := by decide +kernel
theorem d_Q_goes_31 : decode b_Q_goes 31 = .ok (.iload_n 1, 1) := by decide +kernel
theorem d_Q_goes_32 : decode b_Q_goes 32 = .ok (.iconst 3, 1) := by decide +kernel
theorem d_Q_goes_33 : decode b_Q_goes 33 = .ok (.if_icmp .ne 8, 3) := by decide +kernel
theorem d_Q_goes_36 : decode b_Q_goes 36 = .ok (.iload_n 2, 1) := by decide +kernel
theorem d_Q_goes_37 : decode b_Q_goes 37 = .ok (.iconst 2, 1) := by decide +kernel
theorem d_Q_goes_38 : decode b_Q_goes 38 = .ok (.if_icmp .lt 23, 3) := by decide +kernel
theorem d_Q_goes_41 : decode b_Q_goes 41 = .ok (.iload_n 1, 1) := by decide +kernel
theorem d_Q_goes_42 : decode b_Q_goes 42 = .ok (.iconst 4, 1) := by decide +kernel
theorem d_Q_goes_43 : decode b_Q_goes 43 = .ok (.if_icmp .ne 8, 3) := by decide +kernel
theorem d_Q_goes_46 : decode b_Q_goes 46 = .ok (.iload_n 2, 1) := by decide +kernel
theorem d_Q_goes_47 : decode b_Q_goes 47 = .ok (.iconst 1, 1) := by decide +kernel
theorem d_Q_goes_48 : decode b_Q_goes 48 = .ok (.if_icmp .eq 13, 3) := by decide +kernel
theorem d_Q_goes_51 : decode b_Q_goes 51 = .ok (.iload_n 1, 1) := by decide +kernel
theorem d_Q_goes_52 : decode b_Q_goes 52 = .ok (.iconst 5, 1) := by decide +kernel
theorem d_Q_goes_53 : decode b_Q_goes 53 = .ok (.if_icmp .ne 12, 3) := by decide +kernel
theorem d_Q_goes_56 : decode b_Q_goes 56 = .ok (.iload_n 2, 1) := by decide +kernel
theorem d_Q_goes_57 : decode b_Q_goes 57 = .ok (.iconst 2, 1) := by decide +kernel
theorem d_Q_goes_58 : decode b_Q_goes 58 = .ok (.if_icmp .ne 7, 3) := by decide +kernel
theorem d_Q_goes_61 : decode b_Q_goes 61 = .ok (.iconst 1, 1) := by decide +kernel
theorem d_Q_goes_62 : decode b_Q_goes 62 = .ok (.goto 4, 3) := by decide +kernel
theorem d_Q_goes_65 : decode b_Q_goes 65 = .ok (.iconst 0, 1) := by decide +kernel
theorem d_Q_goes_66 : decode b_Q_goes 66 = .ok (.ireturn, 1) := by decide +kernel
abbrev rm_Q_goes : Room := { frames := 2, cells := 0, slots := 0, locals := 46 }
def jx_Q_goes_51 (n : Nat) (v1 : Int32) (v2 : Int32) (S : ZQ) : Option (Int32 × ZQ) :=
  (if v1 = (5 : Int32) then
    (if v2 = (2 : Int32) then
      some ((1 : Int32), S)
      else
      some ((0 : Int32), S))
    else
    some ((0 : Int32), S))

def jx_Q_goes_41 (n : Nat) (v1 : Int32) (v2 : Int32) (S : ZQ) : Option (Int32 × ZQ) :=
  (if v1 = (4 : Int32) then
    (if v2 = (1 : Int32) then
      some ((1 : Int32), S)
      else
      jx_Q_goes_51 n v1 v2 S)
    else
    jx_Q_goes_51 n v1 v2 S)

def fx_Q_goes (n : Nat) (S : ZQ) (a1 : Int32) (a2 : Int32) (a3 : Int32) : Option (Int32 × ZQ) :=
  (if a2 ≤ (2 : Int32) then
  (if a3 = 0 then
    some ((0 : Int32), S)
    else
    (if a1 = (3 : Int32) then
      (if a2 < (2 : Int32) then
        some ((1 : Int32), S)
        else
        jx_Q_goes_41 n a1 a2 S)
      else
      jx_Q_goes_41 n a1 a2 S))
  else
  (if a1 = (255 : Int32) then
    some ((1 : Int32), S)
    else
    zbind (fx_Q_isUnder n S a1 a2) (fun r_6 S_6 =>
      (if r_6 = 0 then
      some ((0 : Int32), S_6)
      else
      some ((1 : Int32), S_6)))))

set_option maxRecDepth 100000 in
set_option maxHeartbeats 4000000 in
theorem k_Q_goes (l : Launch) (z : zE) (B : Nat → Nat) (Rr : va_W) (n : Nat) (S : ZQ) (a1 : Int32) (a2 : Int32) (a3 : Int32) (r0 : Int32) (S' : ZQ) (h : fx_Q_goes n S a1 a2 a3 = some (r0, S')) : zC z l y_Q_goes w_Q_goes rm_Q_goes [.ref (B 0), .int a1, .int a2, .int a3] (qw z B S ++ Rr) (some (.int r0)) (qw z B S' ++ Rr) := by
  refine zz_of (by decide) (Nat.le_of_ble_eq_true rfl) ?_
  intro p e s m args below meth c A0 ls hM hr hlocks hA hP hD hl
  have hM : zM z p s m args c b_Q_goes 4 R_Q := hM
  obtain ⟨hx, hb, hml, hown, hts, hK, hN⟩ := id hM
  have hS : va_S A0 s.heap s.heap [] := va_S.rf
  have hl : lv_has ls 4 [(0, .ref (B 0)), (1, .int a1), (2, .int a2), (3, .int a3)] := hl
  have J51 : ∀ (v1 : Int32) (v2 : Int32) (S : ZQ), jx_Q_goes_51 n v1 v2 S = some (r0, S') → ∀ (H : Heap) (locs : List Loc) (ls : Array Slot), va_P z.1 vwCl (qw z B S ++ Rr) H → va_D A0 (qw z B S ++ Rr) → va_S A0 s.heap H locs → lv_has ls 4 [(1, .int v1), (2, .int v2)] → W p l e rm_Q_goes s m args below meth c H locs 0 0 (zQ z below args s A0 (some (.int r0)) (qw z B S' ++ Rr)) (F0 m 51 ls []) := by
    intro v1 v2 S h H locs ls hP hD hS hl
    unfold jx_Q_goes_51 at h
    refine lv_iload_n hx hb d_Q_goes_51 rfl (lv_at hl 0 rfl) ?_
    refine lv_iconst (v := 5) hx hb d_Q_goes_52 (by decide) ?_
    refine lv_icmp_ne (tgt := 65) hx hb d_Q_goes_53 (by decide) (fun c_10 => ?_) (fun c_10 => ?_)
    · replace h := zz_f c_10 h
      refine lv_iconst (v := 0) hx hb d_Q_goes_65 (by decide) ?_
      exact zz_zret (fun S => qw z B S ++ Rr) hx hb hr hlocks hP hD hS rfl h d_Q_goes_66
    · replace h := zz_t c_10 h
      refine lv_iload_n hx hb d_Q_goes_56 rfl (lv_at hl 1 rfl) ?_
      refine lv_iconst (v := 2) hx hb d_Q_goes_57 (by decide) ?_
      refine lv_icmp_ne (tgt := 65) hx hb d_Q_goes_58 (by decide) (fun c_11 => ?_) (fun c_11 => ?_)
      · replace h := zz_f c_11 h
        refine lv_iconst (v := 0) hx hb d_Q_goes_65 (by decide) ?_
        exact zz_zret (fun S => qw z B S ++ Rr) hx hb hr hlocks hP hD hS rfl h d_Q_goes_66
      · replace h := zz_t c_11 h
        refine lv_iconst (v := 1) hx hb d_Q_goes_61 (by decide) ?_
        refine lv_goto (tgt := 66) hx hb d_Q_goes_62 (by decide) ?_
        exact zz_zret (fun S => qw z B S ++ Rr) hx hb hr hlocks hP hD hS rfl h d_Q_goes_66
  have J41 : ∀ (v1 : Int32) (v2 : Int32) (S : ZQ), jx_Q_goes_41 n v1 v2 S = some (r0, S') → ∀ (H : Heap) (locs : List Loc) (ls : Array Slot), va_P z.1 vwCl (qw z B S ++ Rr) H → va_D A0 (qw z B S ++ Rr) → va_S A0 s.heap H locs → lv_has ls 4 [(1, .int v1), (2, .int v2)] → W p l e rm_Q_goes s m args below meth c H locs 0 0 (zQ z below args s A0 (some (.int r0)) (qw z B S' ++ Rr)) (F0 m 41 ls []) := by
    intro v1 v2 S h H locs ls hP hD hS hl
    unfold jx_Q_goes_41 at h
    refine lv_iload_n hx hb d_Q_goes_41 rfl (lv_at hl 0 rfl) ?_
    refine lv_iconst (v := 4) hx hb d_Q_goes_42 (by decide) ?_
    refine lv_icmp_ne (tgt := 51) hx hb d_Q_goes_43 (by decide) (fun c_8 => ?_) (fun c_8 => ?_)
    · replace h := zz_f c_8 h
      exact J51 _ _ _ h _ _ _ hP hD hS hl
    · replace h := zz_t c_8 h
      refine lv_iload_n hx hb d_Q_goes_46 rfl (lv_at hl 1 rfl) ?_
      refine lv_iconst (v := 1) hx hb d_Q_goes_47 (by decide) ?_
      refine lv_icmp_eq (tgt := 61) hx hb d_Q_goes_48 (by decide) (fun c_9 => ?_) (fun c_9 => ?_)
      · replace h := zz_t c_9 h
        refine lv_iconst (v := 1) hx hb d_Q_goes_61 (by decide) ?_
        refine lv_goto (tgt := 66) hx hb d_Q_goes_62 (by decide) ?_
        exact zz_zret (fun S => qw z B S ++ Rr) hx hb hr hlocks hP hD hS rfl h d_Q_goes_66
      · replace h := zz_f c_9 h
        exact J51 _ _ _ h _ _ _ hP hD hS hl
  unfold fx_Q_goes at h
  refine lv_iload_n hx hb d_Q_goes_0 rfl (lv_at hl 2 rfl) ?_
  refine lv_iconst (v := 2) hx hb d_Q_goes_1 (by decide) ?_
  refine lv_icmp_le (tgt := 27) hx hb d_Q_goes_2 (by decide) (fun c_1 => ?_) (fun c_1 => ?_)
  · replace h := zz_t c_1 h
    refine lv_iload_n hx hb d_Q_goes_27 rfl (lv_at hl 3 rfl) ?_
    refine lv_if_eq (tgt := 65) hx hb d_Q_goes_28 (by decide) (fun c_2 => ?_) (fun c_2 => ?_)
    · replace h := zz_t c_2 h
      refine lv_iconst (v := 0) hx hb d_Q_goes_65 (by decide) ?_
      exact zz_zret (fun S => qw z B S ++ Rr) hx hb hr hlocks hP hD hS rfl h d_Q_goes_66
    · replace h := zz_f c_2 h
      refine lv_iload_n hx hb d_Q_goes_31 rfl (lv_at hl 1 rfl) ?_
      refine lv_iconst (v := 3) hx hb d_Q_goes_32 (by decide) ?_
      refine lv_icmp_ne (tgt := 41) hx hb d_Q_goes_33 (by decide) (fun c_3 => ?_) (fun c_3 => ?_)
      · replace h := zz_f c_3 h
        exact J41 _ _ _ h _ _ _ hP hD hS (lv_sub hl [1, 2] rfl)
      · replace h := zz_t c_3 h
        refine lv_iload_n hx hb d_Q_goes_36 rfl (lv_at hl 2 rfl) ?_
        refine lv_iconst (v := 2) hx hb d_Q_goes_37 (by decide) ?_
        refine lv_icmp_lt (tgt := 61) hx hb d_Q_goes_38 (by decide) (fun c_4 => ?_) (fun c_4 => ?_)
        · replace h := zz_t c_4 h
          refine lv_iconst (v := 1) hx hb d_Q_goes_61 (by decide) ?_
          refine lv_goto (tgt := 66) hx hb d_Q_goes_62 (by decide) ?_
          exact zz_zret (fun S => qw z B S ++ Rr) hx hb hr hlocks hP hD hS rfl h d_Q_goes_66
        · replace h := zz_f c_4 h
          exact J41 _ _ _ h _ _ _ hP hD hS (lv_sub hl [1, 2] rfl)
  · replace h := zz_f c_1 h
    refine lv_iload_n hx hb d_Q_goes_5 rfl (lv_at hl 1 rfl) ?_
    refine lv_sipush (v := 255) hx hb d_Q_goes_6 (by decide) ?_
    refine lv_icmp_eq (tgt := 21) hx hb d_Q_goes_9 (by decide) (fun c_5 => ?_) (fun c_5 => ?_)
    · replace h := zz_t c_5 h
      refine lv_iconst (v := 1) hx hb d_Q_goes_21 (by decide) ?_
      refine lv_goto (tgt := 26) hx hb d_Q_goes_22 (by decide) ?_
      exact zz_zret (fun S => qw z B S ++ Rr) hx hb hr hlocks hP hD hS rfl h d_Q_goes_26
    · replace h := zz_f c_5 h
      refine lv_aload_n hx hb d_Q_goes_12 rfl (lv_at hl 0 rfl) ?_
      refine lv_iload_n hx hb d_Q_goes_13 rfl (lv_at hl 1 rfl) ?_
      refine lv_iload_n hx hb d_Q_goes_14 rfl (lv_at hl 2 rfl) ?_
      obtain ⟨r_6, S_6, e_6, h⟩ := zz_bind h
      refine zz_goI (zz_runV (As := [.int a1, .int a2]) (rest := []) (k_Q_isUnder l z B Rr n _ _ _ _ _ e_6) ⟨hx, hb, hml, hown, hts⟩ (cwV 2 hts (zz_gV wq_664 wq_666 wp_21 wq_6 wq_667) rfl rfl rfl (by decide +kernel) ⟨Nat.le_of_ble_eq_true rfl, Nat.le_of_ble_eq_true rfl⟩) hK hN hP hD (va_recv hK hP (ci := 5) (q0 := 0) rfl rfl) rfl hl.1 rfl (Nat.le_of_ble_eq_true rfl) d_Q_goes_15 ⟨Nat.le_of_ble_eq_true rfl, Nat.le_of_ble_eq_true rfl⟩) hD hS hA (fun H locs hP hD hS => ?_)
      refine lv_if_eq (tgt := 25) hx hb d_Q_goes_18 (by decide) (fun c_7 => ?_) (fun c_7 => ?_)
      · replace h := zz_t c_7 h
        refine lv_iconst (v := 0) hx hb d_Q_goes_25 (by decide) ?_
        exact zz_zret (fun S => qw z B S ++ Rr) hx hb hr hlocks hP hD hS rfl h d_Q_goes_26
      · replace h := zz_f c_7 h
        refine lv_iconst (v := 1) hx hb d_Q_goes_21 (by decide) ?_
        refine lv_goto (tgt := 26) hx hb d_Q_goes_22 (by decide) ?_
        exact zz_zret (fun S => qw z B S ++ Rr) hx hb hr hlocks hP hD hS rfl h d_Q_goes_26

