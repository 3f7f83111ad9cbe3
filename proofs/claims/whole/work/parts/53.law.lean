def st_law (n : Nat) (xs : Nat → Int32) (L : Nat) (v4 : Int32) (SC : ZC) (SQ : ZQ) (SO : Nat → Int64) : Option ((Int32 × ZC × ZQ × (Nat → Int64)) ⊕ Unit) :=
  if v4.toNatClampNeg ≤ 3584 ∧ 0 ≤ v4 then
  (if ((Int32.ofNat L) - (7 : Int32)) < v4 then
  some (.inr ())
  else
  (if zoob v4 L then none else
    (if ((xs v4.toNatClampNeg) &&& (15 : Int32)) = (0 : Int32) then
    (if zoob (v4 + (1 : Int32)) L then none else
      zbL3x (fx_L_type n SC SO (xs (v4 + (1 : Int32)).toNatClampNeg)) (fun r_5 SC_5 SO_5 =>
      (if zoob (v4 + (1 : Int32)) L then none else
      zbind (fx_Q_type n SQ (xs (v4 + (1 : Int32)).toNatClampNeg)) (fun r_7 SQ_7 =>
      zbind (fx_Q_thrown n SQ_7 ) (fun r_8 SQ_8 =>
      (if r_8 = r_5 then
      (if r_5 = 0 then
        (if (lg_cmp (SO_5 (0 : Int32).toNatClampNeg) r_7.toInt64) = 0 then
          some (.inl ((v4 + (7 : Int32)), SC_5, SQ_8, SO_5))
          else
          none)
        else
        some (.inl ((v4 + (7 : Int32)), SC_5, SQ_8, SO_5)))
      else
      none))))))
    else (if ((xs v4.toNatClampNeg) &&& (15 : Int32)) = (1 : Int32) then
    zbL3x (fx_L_face n SC SO ) (fun r_14 SC_14 SO_14 =>
      zbind (fx_Q_face n SQ ) (fun r_15 SQ_15 =>
      zbind (fx_Q_thrown n SQ_15 ) (fun r_16 SQ_16 =>
      (if r_16 = r_14 then
      (if r_14 = 0 then
        (if (lg_cmp (SO_14 (0 : Int32).toNatClampNeg) r_15.toInt64) = 0 then
          some (.inl ((v4 + (7 : Int32)), SC_14, SQ_16, SO_14))
          else
          none)
        else
        some (.inl ((v4 + (7 : Int32)), SC_14, SQ_16, SO_14)))
      else
      none))))
    else (if ((xs v4.toNatClampNeg) &&& (15 : Int32)) = (2 : Int32) then
    (if zoob (v4 + (1 : Int32)) L then none else
      (if zoob (v4 + (2 : Int32)) L then none else
      zbind (fx_X_join n SC (xs (v4 + (1 : Int32)).toNatClampNeg) (xs (v4 + (2 : Int32)).toNatClampNeg)) (fun r_24 SC_24 =>
      (if zoob (v4 + (1 : Int32)) L then none else
      (if zoob (v4 + (2 : Int32)) L then none else
      zbind (fx_Q_join n SQ (xs (v4 + (1 : Int32)).toNatClampNeg) (xs (v4 + (2 : Int32)).toNatClampNeg)) (fun r_27 SQ_27 =>
      (if r_24 = r_27 then
      some (.inl ((v4 + (7 : Int32)), SC_24, SQ_27, SO))
      else
      none)))))))
    else (if ((xs v4.toNatClampNeg) &&& (15 : Int32)) = (3 : Int32) then
    (if zoob (v4 + (1 : Int32)) L then none else
      (if zoob (v4 + (2 : Int32)) L then none else
      (if zoob (v4 + (3 : Int32)) L then none else
      (if zoob (v4 + (4 : Int32)) L then none else
      (if zoob (v4 + (5 : Int32)) L then none else
      (if zoob (v4 + (6 : Int32)) L then none else
      (if (xs (v4 + (6 : Int32)).toNatClampNeg) = 0 then
      zbL3x (fx_L_member n SC SO (xs (v4 + (1 : Int32)).toNatClampNeg) (xs (v4 + (2 : Int32)).toNatClampNeg) (xs (v4 + (3 : Int32)).toNatClampNeg) (((xs (v4 + (4 : Int32)).toNatClampNeg).toInt64 <<< ((32 : Int32).toInt64 &&& 63)) ||| ((xs (v4 + (5 : Int32)).toNatClampNeg).toInt64 &&& (4294967295 : Int64))) (0 : Int32)) (fun r_37 SC_37 SO_37 =>
        (if zoob (v4 + (1 : Int32)) L then none else
        (if zoob (v4 + (2 : Int32)) L then none else
        (if zoob (v4 + (3 : Int32)) L then none else
        (if zoob (v4 + (4 : Int32)) L then none else
        (if zoob (v4 + (5 : Int32)) L then none else
        (if zoob (v4 + (6 : Int32)) L then none else
        (if (xs (v4 + (6 : Int32)).toNatClampNeg) = 0 then
        zbind (fx_Q_member n SQ (xs (v4 + (1 : Int32)).toNatClampNeg) (xs (v4 + (2 : Int32)).toNatClampNeg) (xs (v4 + (3 : Int32)).toNatClampNeg) (((xs (v4 + (4 : Int32)).toNatClampNeg).toInt64 <<< ((32 : Int32).toInt64 &&& 63)) ||| ((xs (v4 + (5 : Int32)).toNatClampNeg).toInt64 &&& (4294967295 : Int64))) (0 : Int32)) (fun r_45 SQ_45 =>
          zbind (fx_Q_thrown n SQ_45 ) (fun r_46 SQ_46 =>
          (if r_46 = r_37 then
          (if r_37 = 0 then
            (if (lg_cmp (SO_37 (0 : Int32).toNatClampNeg) r_45.toInt64) = 0 then
              some (.inl ((v4 + (7 : Int32)), SC_37, SQ_46, SO_37))
              else
              none)
            else
            some (.inl ((v4 + (7 : Int32)), SC_37, SQ_46, SO_37)))
          else
          none)))
        else
        zbind (fx_Q_member n SQ (xs (v4 + (1 : Int32)).toNatClampNeg) (xs (v4 + (2 : Int32)).toNatClampNeg) (xs (v4 + (3 : Int32)).toNatClampNeg) (((xs (v4 + (4 : Int32)).toNatClampNeg).toInt64 <<< ((32 : Int32).toInt64 &&& 63)) ||| ((xs (v4 + (5 : Int32)).toNatClampNeg).toInt64 &&& (4294967295 : Int64))) (1 : Int32)) (fun r_51 SQ_51 =>
          zbind (fx_Q_thrown n SQ_51 ) (fun r_52 SQ_52 =>
          (if r_52 = r_37 then
          (if r_37 = 0 then
            (if (lg_cmp (SO_37 (0 : Int32).toNatClampNeg) r_51.toInt64) = 0 then
              some (.inl ((v4 + (7 : Int32)), SC_37, SQ_52, SO_37))
              else
              none)
            else
            some (.inl ((v4 + (7 : Int32)), SC_37, SQ_52, SO_37)))
          else
          none)))))))))))
      else
      zbL3x (fx_L_member n SC SO (xs (v4 + (1 : Int32)).toNatClampNeg) (xs (v4 + (2 : Int32)).toNatClampNeg) (xs (v4 + (3 : Int32)).toNatClampNeg) (((xs (v4 + (4 : Int32)).toNatClampNeg).toInt64 <<< ((32 : Int32).toInt64 &&& 63)) ||| ((xs (v4 + (5 : Int32)).toNatClampNeg).toInt64 &&& (4294967295 : Int64))) (1 : Int32)) (fun r_57 SC_57 SO_57 =>
        (if zoob (v4 + (1 : Int32)) L then none else
        (if zoob (v4 + (2 : Int32)) L then none else
        (if zoob (v4 + (3 : Int32)) L then none else
        (if zoob (v4 + (4 : Int32)) L then none else
        (if zoob (v4 + (5 : Int32)) L then none else
        (if zoob (v4 + (6 : Int32)) L then none else
        (if (xs (v4 + (6 : Int32)).toNatClampNeg) = 0 then
        zbind (fx_Q_member n SQ (xs (v4 + (1 : Int32)).toNatClampNeg) (xs (v4 + (2 : Int32)).toNatClampNeg) (xs (v4 + (3 : Int32)).toNatClampNeg) (((xs (v4 + (4 : Int32)).toNatClampNeg).toInt64 <<< ((32 : Int32).toInt64 &&& 63)) ||| ((xs (v4 + (5 : Int32)).toNatClampNeg).toInt64 &&& (4294967295 : Int64))) (0 : Int32)) (fun r_65 SQ_65 =>
          zbind (fx_Q_thrown n SQ_65 ) (fun r_66 SQ_66 =>
          (if r_66 = r_57 then
          (if r_57 = 0 then
            (if (lg_cmp (SO_57 (0 : Int32).toNatClampNeg) r_65.toInt64) = 0 then
              some (.inl ((v4 + (7 : Int32)), SC_57, SQ_66, SO_57))
              else
              none)
            else
            some (.inl ((v4 + (7 : Int32)), SC_57, SQ_66, SO_57)))
          else
          none)))
        else
        zbind (fx_Q_member n SQ (xs (v4 + (1 : Int32)).toNatClampNeg) (xs (v4 + (2 : Int32)).toNatClampNeg) (xs (v4 + (3 : Int32)).toNatClampNeg) (((xs (v4 + (4 : Int32)).toNatClampNeg).toInt64 <<< ((32 : Int32).toInt64 &&& 63)) ||| ((xs (v4 + (5 : Int32)).toNatClampNeg).toInt64 &&& (4294967295 : Int64))) (1 : Int32)) (fun r_71 SQ_71 =>
          zbind (fx_Q_thrown n SQ_71 ) (fun r_72 SQ_72 =>
          (if r_72 = r_57 then
          (if r_57 = 0 then
            (if (lg_cmp (SO_57 (0 : Int32).toNatClampNeg) r_71.toInt64) = 0 then
              some (.inl ((v4 + (7 : Int32)), SC_57, SQ_72, SO_57))
              else
              none)
            else
            some (.inl ((v4 + (7 : Int32)), SC_57, SQ_72, SO_57)))
          else
          none))))))))))))))))))
    else (if ((xs v4.toNatClampNeg) &&& (15 : Int32)) = (4 : Int32) then
    (if zoob (v4 + (1 : Int32)) L then none else
      (if zoob (v4 + (2 : Int32)) L then none else
      zbind (fx_X_subtype n SC (xs (v4 + (1 : Int32)).toNatClampNeg) (xs (v4 + (2 : Int32)).toNatClampNeg)) (fun r_80 SC_80 =>
      (if zoob (v4 + (1 : Int32)) L then none else
      (if zoob (v4 + (2 : Int32)) L then none else
      zbind (fx_Q_subtype n SQ (xs (v4 + (1 : Int32)).toNatClampNeg) (xs (v4 + (2 : Int32)).toNatClampNeg)) (fun r_83 SQ_83 =>
      (if r_80 = r_83 then
      some (.inl ((v4 + (7 : Int32)), SC_80, SQ_83, SO))
      else
      none)))))))
    else (if ((xs v4.toNatClampNeg) &&& (15 : Int32)) = (5 : Int32) then
    (if zoob (v4 + (1 : Int32)) L then none else
      (if zoob (v4 + (2 : Int32)) L then none else
      (if zoob (v4 + (3 : Int32)) L then none else
      zbind (fx_X_meant n SC (xs (v4 + (1 : Int32)).toNatClampNeg) (xs (v4 + (2 : Int32)).toNatClampNeg) (xs (v4 + (3 : Int32)).toNatClampNeg)) (fun r_89 SC_89 =>
      (if zoob (v4 + (1 : Int32)) L then none else
      (if zoob (v4 + (2 : Int32)) L then none else
      (if zoob (v4 + (3 : Int32)) L then none else
      zbind (fx_Q_meant n SQ (xs (v4 + (1 : Int32)).toNatClampNeg) (xs (v4 + (2 : Int32)).toNatClampNeg) (xs (v4 + (3 : Int32)).toNatClampNeg)) (fun r_93 SQ_93 =>
      (if r_89 = r_93 then
      some (.inl ((v4 + (7 : Int32)), SC_89, SQ_93, SO))
      else
      none)))))))))
    else (if ((xs v4.toNatClampNeg) &&& (15 : Int32)) = (6 : Int32) then
    (if zoob (v4 + (1 : Int32)) L then none else
      (if zoob (v4 + (2 : Int32)) L then none else
      (if zoob (v4 + (3 : Int32)) L then none else
      (if zoob (v4 + (4 : Int32)) L then none else
      (if zoob (v4 + (5 : Int32)) L then none else
      zbL3x (fx_L_call n SC SO (xs (v4 + (1 : Int32)).toNatClampNeg) (xs (v4 + (2 : Int32)).toNatClampNeg) (xs (v4 + (3 : Int32)).toNatClampNeg) (((xs (v4 + (4 : Int32)).toNatClampNeg).toInt64 <<< ((32 : Int32).toInt64 &&& 63)) ||| ((xs (v4 + (5 : Int32)).toNatClampNeg).toInt64 &&& (4294967295 : Int64)))) (fun r_101 SC_101 SO_101 =>
      (if zoob (v4 + (1 : Int32)) L then none else
      (if zoob (v4 + (2 : Int32)) L then none else
      (if zoob (v4 + (3 : Int32)) L then none else
      (if zoob (v4 + (4 : Int32)) L then none else
      (if zoob (v4 + (5 : Int32)) L then none else
      zbind (fx_Q_call n SQ (xs (v4 + (1 : Int32)).toNatClampNeg) (xs (v4 + (2 : Int32)).toNatClampNeg) (xs (v4 + (3 : Int32)).toNatClampNeg) (((xs (v4 + (4 : Int32)).toNatClampNeg).toInt64 <<< ((32 : Int32).toInt64 &&& 63)) ||| ((xs (v4 + (5 : Int32)).toNatClampNeg).toInt64 &&& (4294967295 : Int64)))) (fun r_107 SQ_107 =>
      zbind (fx_Q_thrown n SQ_107 ) (fun r_108 SQ_108 =>
      (if r_108 = r_101 then
      (if r_101 = 0 then
        (if (lg_cmp (SO_101 (0 : Int32).toNatClampNeg) r_107.toInt64) = 0 then
          some (.inl ((v4 + (7 : Int32)), SC_101, SQ_108, SO_101))
          else
          none)
        else
        some (.inl ((v4 + (7 : Int32)), SC_101, SQ_108, SO_101)))
      else
      none))))))))))))))
    else (if ((xs v4.toNatClampNeg) &&& (15 : Int32)) = (7 : Int32) then
    (if zoob (v4 + (1 : Int32)) L then none else
      (if zoob (v4 + (2 : Int32)) L then none else
      zbind (fx_X_look n SC (xs (v4 + (1 : Int32)).toNatClampNeg) (xs (v4 + (2 : Int32)).toNatClampNeg)) (fun r_116 SC_116 =>
      (if zoob (v4 + (1 : Int32)) L then none else
      (if zoob (v4 + (2 : Int32)) L then none else
      zbind (fx_Q_look n SQ (xs (v4 + (1 : Int32)).toNatClampNeg) (xs (v4 + (2 : Int32)).toNatClampNeg)) (fun r_119 SQ_119 =>
      (if r_116 = r_119 then
      some (.inl ((v4 + (7 : Int32)), SC_116, SQ_119, SO))
      else
      none)))))))
    else (if ((xs v4.toNatClampNeg) &&& (15 : Int32)) = (8 : Int32) then
    (if zoob (v4 + (1 : Int32)) L then none else
      (if zoob (v4 + (2 : Int32)) L then none else
      zbind (fx_X_above n SC (xs (v4 + (1 : Int32)).toNatClampNeg) (xs (v4 + (2 : Int32)).toNatClampNeg)) (fun r_124 SC_124 =>
      (if zoob (v4 + (1 : Int32)) L then none else
      (if zoob (v4 + (2 : Int32)) L then none else
      zbind (fx_Q_above n SQ (xs (v4 + (1 : Int32)).toNatClampNeg) (xs (v4 + (2 : Int32)).toNatClampNeg)) (fun r_127 SQ_127 =>
      (if r_124 = r_127 then
      some (.inl ((v4 + (7 : Int32)), SC_124, SQ_127, SO))
      else
      none)))))))
    else (if ((xs v4.toNatClampNeg) &&& (15 : Int32)) = (9 : Int32) then
    (if zoob (v4 + (1 : Int32)) L then none else
      zbind (fx_X_count n SC (xs (v4 + (1 : Int32)).toNatClampNeg)) (fun r_131 SC_131 =>
      (if zoob (v4 + (1 : Int32)) L then none else
      zbind (fx_Q_count n SQ (xs (v4 + (1 : Int32)).toNatClampNeg)) (fun r_133 SQ_133 =>
      (if r_131 = r_133 then
      some (.inl ((v4 + (7 : Int32)), SC_131, SQ_133, SO))
      else
      none)))))
    else some (.inl ((v4 + (7 : Int32)), SC, SQ, SO))))))))))))))
  else none

set_option maxRecDepth 100000 in
set_option maxHeartbeats 16000000 in
theorem lp_law {z : zE} {A B : Nat → Nat} {o : Nat} {p : Program} {l : Launch} {e : Env} {s : State} {m : MethodId} {args : Array Value} {below : List Frame} {meth : Method} {c : Code} {Q : State → Prop} {A0 : Nat → Prop} (hl0 : l.stackTraces = false) (hM : zM z p s m args c code 7 "MemberChooserLaw") (hSt : zSt s) (hTh : zTh A0 s.vm s.heap) (hA : ∀ q : Nat, s.heap.size ≤ q → A0 q) {b L : Nat} {xs : Nat → Int32} (hX : va_X b L xs s s.heap) (hbl : b < s.heap.size) (hbA : ¬ A0 b) (n : Nat) :
    ∀ (st : Int32 × ZC × ZQ × (Nat → Int64)), zloop (fun (st : Int32 × ZC × ZQ × (Nat → Int64)) => st_law n xs L st.1 st.2.1 st.2.2.1 st.2.2.2) n st = some () → (∀ (H : Heap) (locs : List Loc) (ls : Array Slot), va_S A0 s.heap H locs → W p l e room_1 s m args below meth c H locs 4000 30000 Q (F0 m 702 ls [])) → ∀ (H : Heap) (locs : List Loc) (ls : Array Slot), va_P z.1 vwCl (lww z A B o st.2.1 st.2.2.1 st.2.2.2) H → va_D A0 (lww z A B o st.2.1 st.2.2.1 st.2.2.2) → va_S A0 s.heap H locs → lv_has ls 7 [(0, .ref b), (1, .ref (A 0)), (2, .ref (B 0)), (3, .ref o), (4, .int st.1)] → W p l e room_1 s m args below meth c H locs (76 + st.1.toNatClampNeg) (5507 + 6 * st.1.toNatClampNeg) Q (F0 m 23 ls []) := by
  obtain ⟨hx, hb, hml, hown, hts, hK, hN⟩ := id hM
  intro st h hE
  refine zz_loop (G := fun (st : Int32 × ZC × ZQ × (Nat → Int64)) => ∀ (H : Heap) (locs : List Loc) (ls : Array Slot), va_P z.1 vwCl (lww z A B o st.2.1 st.2.2.1 st.2.2.2) H → va_D A0 (lww z A B o st.2.1 st.2.2.1 st.2.2.2) → va_S A0 s.heap H locs → lv_has ls 7 [(0, .ref b), (1, .ref (A 0)), (2, .ref (B 0)), (3, .ref o), (4, .int st.1)] → W p l e room_1 s m args below meth c H locs (76 + st.1.toNatClampNeg) (5507 + 6 * st.1.toNatClampNeg) Q (F0 m 23 ls [])) (E := fun (_ : Unit) => ∀ (H : Heap) (locs : List Loc) (ls : Array Slot), va_S A0 s.heap H locs → W p l e room_1 s m args below meth c H locs 4000 30000 Q (F0 m 702 ls [])) ?_ n st () h hE
  clear h hE st
  rintro ⟨v4, SC, SQ, SO⟩ o9 h hG hE H locs ls hP hD hS hl
  have h : st_law n xs L v4 SC SQ SO = some o9 := h
  have hl : lv_has ls 7 [(0, .ref b), (1, .ref (A 0)), (2, .ref (B 0)), (3, .ref o), (4, .int v4)] := hl
  have hP : va_P z.1 vwCl (lww z A B o SC SQ SO) H := hP
  have hD : va_D A0 (lww z A B o SC SQ SO) := hD
  show W p l e room_1 s m args below meth c H locs (76 + v4.toNatClampNeg) (5507 + 6 * v4.toNatClampNeg) Q (F0 m 23 ls [])
  unfold st_law at h
  obtain ⟨⟨hv, hv0⟩, h⟩ := zz_grd h
  have hv7 : (v4 + (7 : Int32)).toNatClampNeg = v4.toNatClampNeg + 7 := lw_v7 hv0 hv
  refine lv_iload hx hb d_L_law_23 (lv_at hl 4 rfl) ?_
  refine lv_aload_n hx hb d_L_law_25 rfl (lv_at hl 0 rfl) ?_
  refine va_slen hx hb hX hbl hbA hS d_L_law_26 ?_
  refine lv_bipush (v := 7) hx hb d_L_law_27 (by decide) ?_
  refine lv_isub hx hb d_L_law_29 ?_
  refine lv_icmp_gt (tgt := 702) hx hb d_L_law_30 (by decide) (fun c_1 => ?_) (fun c_1 => ?_)
  · replace h := zz_t c_1 h
    exact W.widen (by omega) (by omega) (hE () (Option.some.inj h).symm _ _ _ hS)
  · replace h := zz_f c_1 h
    refine lv_aload_n hx hb d_L_law_33 rfl (lv_at hl 0 rfl) ?_
    refine lv_iload hx hb d_L_law_34 (lv_at hl 4 rfl) ?_
    obtain ⟨c_2, h⟩ := zz_oob h
    refine va_sld hx hb hX hbl hbA hS c_2 d_L_law_36 ?_
    refine lv_bipush (v := 15) hx hb d_L_law_37 (by decide) ?_
    refine lv_iand hx hb d_L_law_39 ?_
    by_cases c_3 : ((xs v4.toNatClampNeg) &&& (15 : Int32)) = (0 : Int32)
    · replace h := zz_t c_3 h
      refine lv_tableIn (tgt := 96) hx hb d_L_law_40 (by rw [c_3]; decide) (by rw [c_3]; decide) (by rw [c_3]; rfl) (by decide) ?_
      refine lv_aload_n hx hb d_L_law_96 rfl (lv_at hl 1 rfl) ?_
      refine lv_aload_n hx hb d_L_law_97 rfl (lv_at hl 0 rfl) ?_
      refine lv_iload hx hb d_L_law_98 (lv_at hl 4 rfl) ?_
      refine lv_iconst (v := 1) hx hb d_L_law_100 (by decide) ?_
      refine lv_iadd hx hb d_L_law_101 ?_
      obtain ⟨c_4, h⟩ := zz_oob h
      refine va_sld hx hb hX hbl hbA hS c_4 d_L_law_102 ?_
      refine lv_aload_n hx hb d_L_law_103 rfl (lv_at hl 3 rfl) ?_
      obtain ⟨r_5, SC_5, SO_5, e_5, h⟩ := zz_bL3x h
      refine zz_goN (v := some (.int r_5)) (zz_runSW (n := 3) (As := [.ref (A 0), .int (xs (v4 + (1 : Int32)).toNatClampNeg), .ref o]) (rest := []) (k_L_type l hl0 z A o (qw z B SQ) n _ _ _ _ _ _ e_5) ⟨hx, hb, hml, hown, hts⟩ wq_279 wq_277 wq_278 wq_0 (by decide +kernel) rfl rfl ⟨Nat.le_of_ble_eq_true rfl, Nat.le_of_ble_eq_true rfl⟩ (zz_preX hK hN hSt hTh hP hD hS hA rfl) rfl hl.1 rfl (Nat.le_of_ble_eq_true rfl) d_L_law_104 ⟨(by show _ ≤ 601024; omega), (by show _ ≤ 7293033; omega)⟩) hD hS hA (fun H locs hP hD hS => ?_)
      have hP : va_P z.1 vwCl (lww z A B o SC_5 SQ SO_5) H := hP
      have hD : va_D A0 (lww z A B o SC_5 SQ SO_5) := hD
      refine lv_istore (lv' := [(5, .int r_5), (0, .ref b), (1, .ref (A 0)), (2, .ref (B 0)), (3, .ref o), (4, .int v4)]) hx hb d_L_law_107 hl (by decide) rfl (fun ls hl => ?_)
      refine lv_aload_n hx hb d_L_law_109 rfl (lv_at hl 3 rfl) ?_
      refine lv_aload_n hx hb d_L_law_110 rfl (lv_at hl 1 rfl) ?_
      refine lv_iload hx hb d_L_law_111 (lv_at hl 5 rfl) ?_
      refine lv_iconst (v := 1) hx hb d_L_law_113 (by decide) ?_
      refine lv_iadd hx hb d_L_law_114 ?_
      obtain ⟨c_6, h⟩ := zz_oob h
      refine va_sld hx hb hX hbl hbA hS c_6 d_L_law_115 ?_
      obtain ⟨r_7, SQ_7, e_7, h⟩ := zz_bind h
      replace hP := lw_toQ hP
      replace hD := lw_toQd hD
      refine zz_goI (zz_runV (As := [.int (xs (v4 + (1 : Int32)).toNatClampNeg)]) (rest := []) (k_Q_type l z B (cw z A SC_5 ++ [(o, .inl (zL z, 1, .inr (.inl SO_5)))]) n _ _ _ _ e_7) ⟨hx, hb, hml, hown, hts⟩ (cwV 1 hts (zz_gV wq_640 wq_641 wq_642 wq_6 wq_643) rfl rfl rfl (by decide +kernel) ⟨Nat.le_of_ble_eq_true rfl, Nat.le_of_ble_eq_true rfl⟩) hK hN hP hD (va_recv hK hP (ci := 5) (q0 := 0) rfl rfl) rfl hl.1 rfl (Nat.le_of_ble_eq_true rfl) d_L_law_116 ⟨(by show _ ≤ 601024; omega), (by show _ ≤ 7293033; omega)⟩) hD hS hA (fun H locs hP hD hS => ?_)
      replace hP := lw_ofQ hP
      replace hD := lw_ofQd hD
      have hP : va_P z.1 vwCl (lww z A B o SC_5 SQ_7 SO_5) H := hP
      have hD : va_D A0 (lww z A B o SC_5 SQ_7 SO_5) := hD
      refine lv_istore (lv' := [(6, .int r_7), (5, .int r_5), (0, .ref b), (1, .ref (A 0)), (2, .ref (B 0)), (3, .ref o), (4, .int v4)]) hx hb d_L_law_119 hl (by decide) rfl (fun ls hl => ?_)
      refine lv_aload_n hx hb d_L_law_121 rfl (lv_at hl 4 rfl) ?_
      obtain ⟨r_8, SQ_8, e_8, h⟩ := zz_bind h
      replace hP := lw_toQ hP
      replace hD := lw_toQd hD
      refine zz_goI (zz_runV (As := []) (rest := []) (k_Q_thrown l z B (cw z A SC_5 ++ [(o, .inl (zL z, 1, .inr (.inl SO_5)))]) n _ _ _ e_8) ⟨hx, hb, hml, hown, hts⟩ (cwV 0 hts (zz_gV wq_636 wq_637 wq_638 wq_6 wq_639) rfl rfl rfl (by decide +kernel) ⟨Nat.le_of_ble_eq_true rfl, Nat.le_of_ble_eq_true rfl⟩) hK hN hP hD (va_recv hK hP (ci := 5) (q0 := 0) rfl rfl) rfl hl.1 rfl (Nat.le_of_ble_eq_true rfl) d_L_law_122 ⟨(by show _ ≤ 601024; omega), (by show _ ≤ 7293033; omega)⟩) hD hS hA (fun H locs hP hD hS => ?_)
      replace hP := lw_ofQ hP
      replace hD := lw_ofQd hD
      have hP : va_P z.1 vwCl (lww z A B o SC_5 SQ_8 SO_5) H := hP
      have hD : va_D A0 (lww z A B o SC_5 SQ_8 SO_5) := hD
      refine lv_iload hx hb d_L_law_125 (lv_at hl 1 rfl) ?_
      refine lv_icmp_eq (tgt := 132) hx hb d_L_law_127 (by decide) (fun c_9 => ?_) (fun c_9 => ?_)
      · replace h := zz_t c_9 h
        refine lv_iload hx hb d_L_law_132 (lv_at hl 1 rfl) ?_
        refine lv_if_ne (tgt := 149) hx hb d_L_law_134 (by decide) (fun c_10 => ?_) (fun c_10 => ?_)
        · replace h := zz_f c_10 h
          refine lv_goto (tgt := 696) hx hb d_L_law_149 (by decide) ?_
          refine lv_iinc (v := (v4 + (7 : Int32))) (lv' := [(4, .int (v4 + (7 : Int32))), (6, .int r_7), (5, .int r_5), (0, .ref b), (1, .ref (A 0)), (2, .ref (B 0)), (3, .ref o)]) hx hb d_L_law_696 hl (k := 6) rfl rfl (by decide) rfl (fun ls hl => ?_)
          refine lv_goto (tgt := 23) hx hb d_L_law_699 (by decide) ?_
          exact W.widen (by show _ ≤ 76 + ((v4 + (7 : Int32))).toNatClampNeg; rw [hv7]; omega) (by show _ ≤ 5507 + 6 * ((v4 + (7 : Int32))).toNatClampNeg; rw [hv7]; omega) (hG _ (Option.some.inj h).symm _ _ _ hP hD hS (lv_sub hl [3, 4, 5, 6, 0] rfl))
        · replace h := zz_t c_10 h
          refine lv_aload_n hx hb d_L_law_137 rfl (lv_at hl 5 rfl) ?_
          refine lv_iconst (v := 0) hx hb d_L_law_138 (by decide) ?_
          refine va_lald hx hb hK (zz_s3P hP) 0 2 rfl rfl (show ¬ ((0 : Int32) < 0 ∨ 1 ≤ (0 : Int32).toNatClampNeg) by decide) d_L_law_139 ?_
          refine lv_iload hx hb d_L_law_140 (lv_at hl 0 rfl) ?_
          refine lv_i2l (v := r_7.toInt64) hx hb d_L_law_142 rfl ?_
          refine W.lcmp hx hb d_L_law_143 ?_
          refine lv_if_eq (tgt := 149) hx hb d_L_law_144 (by decide) (fun c_12 => ?_) (fun c_12 => ?_)
          · replace h := zz_t c_12 h
            refine lv_goto (tgt := 696) hx hb d_L_law_149 (by decide) ?_
            refine lv_iinc (v := (v4 + (7 : Int32))) (lv' := [(4, .int (v4 + (7 : Int32))), (6, .int r_7), (5, .int r_5), (0, .ref b), (1, .ref (A 0)), (2, .ref (B 0)), (3, .ref o)]) hx hb d_L_law_696 hl (k := 6) rfl rfl (by decide) rfl (fun ls hl => ?_)
            refine lv_goto (tgt := 23) hx hb d_L_law_699 (by decide) ?_
            exact W.widen (by show _ ≤ 76 + ((v4 + (7 : Int32))).toNatClampNeg; rw [hv7]; omega) (by show _ ≤ 5507 + 6 * ((v4 + (7 : Int32))).toNatClampNeg; rw [hv7]; omega) (hG _ (Option.some.inj h).symm _ _ _ hP hD hS (lv_sub hl [3, 4, 5, 6, 0] rfl))
          · replace h := zz_f c_12 h
            cases h
      · replace h := zz_f c_9 h
        cases h
    replace h := zz_f c_3 h
    by_cases c_13 : ((xs v4.toNatClampNeg) &&& (15 : Int32)) = (1 : Int32)
    · replace h := zz_t c_13 h
      refine lv_tableIn (tgt := 152) hx hb d_L_law_40 (by rw [c_13]; decide) (by rw [c_13]; decide) (by rw [c_13]; rfl) (by decide) ?_
      refine lv_aload_n hx hb d_L_law_152 rfl (lv_at hl 1 rfl) ?_
      refine lv_aload_n hx hb d_L_law_153 rfl (lv_at hl 3 rfl) ?_
      obtain ⟨r_14, SC_14, SO_14, e_14, h⟩ := zz_bL3x h
      refine zz_goN (v := some (.int r_14)) (zz_runSW (n := 2) (As := [.ref (A 0), .ref o]) (rest := []) (k_L_face l hl0 z A o (qw z B SQ) n _ _ _ _ _ e_14) ⟨hx, hb, hml, hown, hts⟩ wq_385 wq_383 wq_384 wq_0 (by decide +kernel) rfl rfl ⟨Nat.le_of_ble_eq_true rfl, Nat.le_of_ble_eq_true rfl⟩ (zz_preX hK hN hSt hTh hP hD hS hA rfl) rfl hl.1 rfl (Nat.le_of_ble_eq_true rfl) d_L_law_154 ⟨(by show _ ≤ 601024; omega), (by show _ ≤ 7293033; omega)⟩) hD hS hA (fun H locs hP hD hS => ?_)
      have hP : va_P z.1 vwCl (lww z A B o SC_14 SQ SO_14) H := hP
      have hD : va_D A0 (lww z A B o SC_14 SQ SO_14) := hD
      refine lv_istore (lv' := [(5, .int r_14), (0, .ref b), (1, .ref (A 0)), (2, .ref (B 0)), (3, .ref o), (4, .int v4)]) hx hb d_L_law_157 hl (by decide) rfl (fun ls hl => ?_)
      refine lv_aload_n hx hb d_L_law_159 rfl (lv_at hl 3 rfl) ?_
      obtain ⟨r_15, SQ_15, e_15, h⟩ := zz_bind h
      replace hP := lw_toQ hP
      replace hD := lw_toQd hD
      refine zz_goI (zz_runV (As := []) (rest := []) (k_Q_face l z B (cw z A SC_14 ++ [(o, .inl (zL z, 1, .inr (.inl SO_14)))]) n _ _ _ e_15) ⟨hx, hb, hml, hown, hts⟩ (cwV 0 hts (zz_gV wq_652 wq_653 wq_654 wq_6 wq_655) rfl rfl rfl (by decide +kernel) ⟨Nat.le_of_ble_eq_true rfl, Nat.le_of_ble_eq_true rfl⟩) hK hN hP hD (va_recv hK hP (ci := 5) (q0 := 0) rfl rfl) rfl hl.1 rfl (Nat.le_of_ble_eq_true rfl) d_L_law_160 ⟨(by show _ ≤ 601024; omega), (by show _ ≤ 7293033; omega)⟩) hD hS hA (fun H locs hP hD hS => ?_)
      replace hP := lw_ofQ hP
      replace hD := lw_ofQd hD
      have hP : va_P z.1 vwCl (lww z A B o SC_14 SQ_15 SO_14) H := hP
      have hD : va_D A0 (lww z A B o SC_14 SQ_15 SO_14) := hD
      refine lv_istore (lv' := [(6, .int r_15), (5, .int r_14), (0, .ref b), (1, .ref (A 0)), (2, .ref (B 0)), (3, .ref o), (4, .int v4)]) hx hb d_L_law_163 hl (by decide) rfl (fun ls hl => ?_)
      refine lv_aload_n hx hb d_L_law_165 rfl (lv_at hl 4 rfl) ?_
      obtain ⟨r_16, SQ_16, e_16, h⟩ := zz_bind h
      replace hP := lw_toQ hP
      replace hD := lw_toQd hD
      refine zz_goI (zz_runV (As := []) (rest := []) (k_Q_thrown l z B (cw z A SC_14 ++ [(o, .inl (zL z, 1, .inr (.inl SO_14)))]) n _ _ _ e_16) ⟨hx, hb, hml, hown, hts⟩ (cwV 0 hts (zz_gV wq_636 wq_637 wq_638 wq_6 wq_639) rfl rfl rfl (by decide +kernel) ⟨Nat.le_of_ble_eq_true rfl, Nat.le_of_ble_eq_true rfl⟩) hK hN hP hD (va_recv hK hP (ci := 5) (q0 := 0) rfl rfl) rfl hl.1 rfl (Nat.le_of_ble_eq_true rfl) d_L_law_166 ⟨(by show _ ≤ 601024; omega), (by show _ ≤ 7293033; omega)⟩) hD hS hA (fun H locs hP hD hS => ?_)
      replace hP := lw_ofQ hP
      replace hD := lw_ofQd hD
      have hP : va_P z.1 vwCl (lww z A B o SC_14 SQ_16 SO_14) H := hP
      have hD : va_D A0 (lww z A B o SC_14 SQ_16 SO_14) := hD
      refine lv_iload hx hb d_L_law_169 (lv_at hl 1 rfl) ?_
      refine lv_icmp_eq (tgt := 176) hx hb d_L_law_171 (by decide) (fun c_17 => ?_) (fun c_17 => ?_)
      · replace h := zz_t c_17 h
        refine lv_iload hx hb d_L_law_176 (lv_at hl 1 rfl) ?_
        refine lv_if_ne (tgt := 193) hx hb d_L_law_178 (by decide) (fun c_18 => ?_) (fun c_18 => ?_)
        · replace h := zz_f c_18 h
          refine lv_goto (tgt := 696) hx hb d_L_law_193 (by decide) ?_
          refine lv_iinc (v := (v4 + (7 : Int32))) (lv' := [(4, .int (v4 + (7 : Int32))), (6, .int r_15), (5, .int r_14), (0, .ref b), (1, .ref (A 0)), (2, .ref (B 0)), (3, .ref o)]) hx hb d_L_law_696 hl (k := 6) rfl rfl (by decide) rfl (fun ls hl => ?_)
          refine lv_goto (tgt := 23) hx hb d_L_law_699 (by decide) ?_
          exact W.widen (by show _ ≤ 76 + ((v4 + (7 : Int32))).toNatClampNeg; rw [hv7]; omega) (by show _ ≤ 5507 + 6 * ((v4 + (7 : Int32))).toNatClampNeg; rw [hv7]; omega) (hG _ (Option.some.inj h).symm _ _ _ hP hD hS (lv_sub hl [3, 4, 5, 6, 0] rfl))
        · replace h := zz_t c_18 h
          refine lv_aload_n hx hb d_L_law_181 rfl (lv_at hl 5 rfl) ?_
          refine lv_iconst (v := 0) hx hb d_L_law_182 (by decide) ?_
          refine va_lald hx hb hK (zz_s3P hP) 0 2 rfl rfl (show ¬ ((0 : Int32) < 0 ∨ 1 ≤ (0 : Int32).toNatClampNeg) by decide) d_L_law_183 ?_
          refine lv_iload hx hb d_L_law_184 (lv_at hl 0 rfl) ?_
          refine lv_i2l (v := r_15.toInt64) hx hb d_L_law_186 rfl ?_
          refine W.lcmp hx hb d_L_law_187 ?_
          refine lv_if_eq (tgt := 193) hx hb d_L_law_188 (by decide) (fun c_20 => ?_) (fun c_20 => ?_)
          · replace h := zz_t c_20 h
            refine lv_goto (tgt := 696) hx hb d_L_law_193 (by decide) ?_
            refine lv_iinc (v := (v4 + (7 : Int32))) (lv' := [(4, .int (v4 + (7 : Int32))), (6, .int r_15), (5, .int r_14), (0, .ref b), (1, .ref (A 0)), (2, .ref (B 0)), (3, .ref o)]) hx hb d_L_law_696 hl (k := 6) rfl rfl (by decide) rfl (fun ls hl => ?_)
            refine lv_goto (tgt := 23) hx hb d_L_law_699 (by decide) ?_
            exact W.widen (by show _ ≤ 76 + ((v4 + (7 : Int32))).toNatClampNeg; rw [hv7]; omega) (by show _ ≤ 5507 + 6 * ((v4 + (7 : Int32))).toNatClampNeg; rw [hv7]; omega) (hG _ (Option.some.inj h).symm _ _ _ hP hD hS (lv_sub hl [3, 4, 5, 6, 0] rfl))
          · replace h := zz_f c_20 h
            cases h
      · replace h := zz_f c_17 h
        cases h
    replace h := zz_f c_13 h
    by_cases c_21 : ((xs v4.toNatClampNeg) &&& (15 : Int32)) = (2 : Int32)
    · replace h := zz_t c_21 h
      refine lv_tableIn (tgt := 196) hx hb d_L_law_40 (by rw [c_21]; decide) (by rw [c_21]; decide) (by rw [c_21]; rfl) (by decide) ?_
      refine lv_aload_n hx hb d_L_law_196 rfl (lv_at hl 1 rfl) ?_
      refine lv_aload_n hx hb d_L_law_197 rfl (lv_at hl 0 rfl) ?_
      refine lv_iload hx hb d_L_law_198 (lv_at hl 4 rfl) ?_
      refine lv_iconst (v := 1) hx hb d_L_law_200 (by decide) ?_
      refine lv_iadd hx hb d_L_law_201 ?_
      obtain ⟨c_22, h⟩ := zz_oob h
      refine va_sld hx hb hX hbl hbA hS c_22 d_L_law_202 ?_
      refine lv_aload_n hx hb d_L_law_203 rfl (lv_at hl 0 rfl) ?_
      refine lv_iload hx hb d_L_law_204 (lv_at hl 4 rfl) ?_
      refine lv_iconst (v := 2) hx hb d_L_law_206 (by decide) ?_
      refine lv_iadd hx hb d_L_law_207 ?_
      obtain ⟨c_23, h⟩ := zz_oob h
      refine va_sld hx hb hX hbl hbA hS c_23 d_L_law_208 ?_
      obtain ⟨r_24, SC_24, e_24, h⟩ := zz_bind h
      refine zz_goI (zz_runV (As := [.int (xs (v4 + (1 : Int32)).toNatClampNeg), .int (xs (v4 + (2 : Int32)).toNatClampNeg)]) (rest := []) (k_X_join l z A ([(o, .inl (zL z, 1, .inr (.inl SO)))] ++ qw z B SQ) n _ _ _ _ _ e_24) ⟨hx, hb, hml, hown, hts⟩ (cwV 2 hts (zz_gV wq_168 wq_169 wq_170 wq_1 wq_171) rfl rfl rfl (by decide +kernel) ⟨Nat.le_of_ble_eq_true rfl, Nat.le_of_ble_eq_true rfl⟩) hK hN hP hD (va_recv hK hP (ci := 0) (q0 := 0) rfl rfl) rfl hl.1 rfl (Nat.le_of_ble_eq_true rfl) d_L_law_209 ⟨(by show _ ≤ 601024; omega), (by show _ ≤ 7293033; omega)⟩) hD hS hA (fun H locs hP hD hS => ?_)
      have hP : va_P z.1 vwCl (lww z A B o SC_24 SQ SO) H := hP
      have hD : va_D A0 (lww z A B o SC_24 SQ SO) := hD
      refine lv_aload_n hx hb d_L_law_212 rfl (lv_at hl 2 rfl) ?_
      refine lv_aload_n hx hb d_L_law_213 rfl (lv_at hl 0 rfl) ?_
      refine lv_iload hx hb d_L_law_214 (lv_at hl 4 rfl) ?_
      refine lv_iconst (v := 1) hx hb d_L_law_216 (by decide) ?_
      refine lv_iadd hx hb d_L_law_217 ?_
      obtain ⟨c_25, h⟩ := zz_oob h
      refine va_sld hx hb hX hbl hbA hS c_25 d_L_law_218 ?_
      refine lv_aload_n hx hb d_L_law_219 rfl (lv_at hl 0 rfl) ?_
      refine lv_iload hx hb d_L_law_220 (lv_at hl 4 rfl) ?_
      refine lv_iconst (v := 2) hx hb d_L_law_222 (by decide) ?_
      refine lv_iadd hx hb d_L_law_223 ?_
      obtain ⟨c_26, h⟩ := zz_oob h
      refine va_sld hx hb hX hbl hbA hS c_26 d_L_law_224 ?_
      obtain ⟨r_27, SQ_27, e_27, h⟩ := zz_bind h
      replace hP := lw_toQ hP
      replace hD := lw_toQd hD
      refine zz_goI (zz_runV (As := [.int (xs (v4 + (1 : Int32)).toNatClampNeg), .int (xs (v4 + (2 : Int32)).toNatClampNeg)]) (rest := [.int r_24]) (k_Q_join l z B (cw z A SC_24 ++ [(o, .inl (zL z, 1, .inr (.inl SO)))]) n _ _ _ _ _ e_27) ⟨hx, hb, hml, hown, hts⟩ (cwV 2 hts (zz_gV wq_672 wq_673 wq_674 wq_6 wq_675) rfl rfl rfl (by decide +kernel) ⟨Nat.le_of_ble_eq_true rfl, Nat.le_of_ble_eq_true rfl⟩) hK hN hP hD (va_recv hK hP (ci := 5) (q0 := 0) rfl rfl) rfl hl.1 rfl (Nat.le_of_ble_eq_true rfl) d_L_law_225 ⟨(by show _ ≤ 601024; omega), (by show _ ≤ 7293033; omega)⟩) hD hS hA (fun H locs hP hD hS => ?_)
      replace hP := lw_ofQ hP
      replace hD := lw_ofQd hD
      have hP : va_P z.1 vwCl (lww z A B o SC_24 SQ_27 SO) H := hP
      have hD : va_D A0 (lww z A B o SC_24 SQ_27 SO) := hD
      refine lv_icmp_eq (tgt := 696) hx hb d_L_law_228 (by decide) (fun c_28 => ?_) (fun c_28 => ?_)
      · replace h := zz_t c_28 h
        refine lv_iinc (v := (v4 + (7 : Int32))) (lv' := [(4, .int (v4 + (7 : Int32))), (0, .ref b), (1, .ref (A 0)), (2, .ref (B 0)), (3, .ref o)]) hx hb d_L_law_696 hl (k := 4) rfl rfl (by decide) rfl (fun ls hl => ?_)
        refine lv_goto (tgt := 23) hx hb d_L_law_699 (by decide) ?_
        exact W.widen (by show _ ≤ 76 + ((v4 + (7 : Int32))).toNatClampNeg; rw [hv7]; omega) (by show _ ≤ 5507 + 6 * ((v4 + (7 : Int32))).toNatClampNeg; rw [hv7]; omega) (hG _ (Option.some.inj h).symm _ _ _ hP hD hS (lv_sub hl [1, 2, 3, 4, 0] rfl))
      · replace h := zz_f c_28 h
        cases h
    replace h := zz_f c_21 h
    by_cases c_29 : ((xs v4.toNatClampNeg) &&& (15 : Int32)) = (3 : Int32)
    · replace h := zz_t c_29 h
      refine lv_tableIn (tgt := 233) hx hb d_L_law_40 (by rw [c_29]; decide) (by rw [c_29]; decide) (by rw [c_29]; rfl) (by decide) ?_
      refine lv_aload_n hx hb d_L_law_233 rfl (lv_at hl 1 rfl) ?_
      refine lv_aload_n hx hb d_L_law_234 rfl (lv_at hl 0 rfl) ?_
      refine lv_iload hx hb d_L_law_235 (lv_at hl 4 rfl) ?_
      refine lv_iconst (v := 1) hx hb d_L_law_237 (by decide) ?_
      refine lv_iadd hx hb d_L_law_238 ?_
      obtain ⟨c_30, h⟩ := zz_oob h
      refine va_sld hx hb hX hbl hbA hS c_30 d_L_law_239 ?_
      refine lv_aload_n hx hb d_L_law_240 rfl (lv_at hl 0 rfl) ?_
      refine lv_iload hx hb d_L_law_241 (lv_at hl 4 rfl) ?_
      refine lv_iconst (v := 2) hx hb d_L_law_243 (by decide) ?_
      refine lv_iadd hx hb d_L_law_244 ?_
      obtain ⟨c_31, h⟩ := zz_oob h
      refine va_sld hx hb hX hbl hbA hS c_31 d_L_law_245 ?_
      refine lv_aload_n hx hb d_L_law_246 rfl (lv_at hl 0 rfl) ?_
      refine lv_iload hx hb d_L_law_247 (lv_at hl 4 rfl) ?_
      refine lv_iconst (v := 3) hx hb d_L_law_249 (by decide) ?_
      refine lv_iadd hx hb d_L_law_250 ?_
      obtain ⟨c_32, h⟩ := zz_oob h
      refine va_sld hx hb hX hbl hbA hS c_32 d_L_law_251 ?_
      refine lv_aload_n hx hb d_L_law_252 rfl (lv_at hl 0 rfl) ?_
      refine lv_iload hx hb d_L_law_253 (lv_at hl 4 rfl) ?_
      refine lv_iconst (v := 4) hx hb d_L_law_255 (by decide) ?_
      refine lv_iadd hx hb d_L_law_256 ?_
      obtain ⟨c_33, h⟩ := zz_oob h
      refine va_sld hx hb hX hbl hbA hS c_33 d_L_law_257 ?_
      refine lv_i2l (v := (xs (v4 + (4 : Int32)).toNatClampNeg).toInt64) hx hb d_L_law_258 rfl ?_
      refine lv_bipush (v := 32) hx hb d_L_law_259 (by decide) ?_
      refine lv_lshl (v := ((xs (v4 + (4 : Int32)).toNatClampNeg).toInt64 <<< ((32 : Int32).toInt64 &&& 63))) hx hb d_L_law_261 rfl ?_
      refine lv_aload_n hx hb d_L_law_262 rfl (lv_at hl 0 rfl) ?_
      refine lv_iload hx hb d_L_law_263 (lv_at hl 4 rfl) ?_
      refine lv_iconst (v := 5) hx hb d_L_law_265 (by decide) ?_
      refine lv_iadd hx hb d_L_law_266 ?_
      obtain ⟨c_34, h⟩ := zz_oob h
      refine va_sld hx hb hX hbl hbA hS c_34 d_L_law_267 ?_
      refine lv_i2l (v := (xs (v4 + (5 : Int32)).toNatClampNeg).toInt64) hx hb d_L_law_268 rfl ?_
      refine lv_ldc2 (own := R_L) (v := 4294967295) hx hb hown (hts _ wq_756) d_L_law_269 ?_
      refine lv_land hx hb d_L_law_272 ?_
      refine lv_lor hx hb d_L_law_273 ?_
      refine lv_aload_n hx hb d_L_law_274 rfl (lv_at hl 0 rfl) ?_
      refine lv_iload hx hb d_L_law_275 (lv_at hl 4 rfl) ?_
      refine lv_bipush (v := 6) hx hb d_L_law_277 (by decide) ?_
      refine lv_iadd hx hb d_L_law_279 ?_
      obtain ⟨c_35, h⟩ := zz_oob h
      refine va_sld hx hb hX hbl hbA hS c_35 d_L_law_280 ?_
      refine lv_if_eq (tgt := 288) hx hb d_L_law_281 (by decide) (fun c_36 => ?_) (fun c_36 => ?_)
      · replace h := zz_t c_36 h
        refine lv_iconst (v := 0) hx hb d_L_law_288 (by decide) ?_
        refine lv_aload_n hx hb d_L_law_289 rfl (lv_at hl 3 rfl) ?_
        obtain ⟨r_37, SC_37, SO_37, e_37, h⟩ := zz_bL3x h
        refine zz_goN (v := some (.int r_37)) (zz_runSW (n := 7) (As := [.ref (A 0), .int (xs (v4 + (1 : Int32)).toNatClampNeg), .int (xs (v4 + (2 : Int32)).toNatClampNeg), .int (xs (v4 + (3 : Int32)).toNatClampNeg), .long (((xs (v4 + (4 : Int32)).toNatClampNeg).toInt64 <<< ((32 : Int32).toInt64 &&& 63)) ||| ((xs (v4 + (5 : Int32)).toNatClampNeg).toInt64 &&& (4294967295 : Int64))), .int (0 : Int32), .ref o]) (rest := []) (k_L_member l hl0 z A o (qw z B SQ) n _ _ _ _ _ _ _ _ _ _ e_37) ⟨hx, hb, hml, hown, hts⟩ wq_392 wq_390 wq_391 wq_0 (by decide +kernel) rfl rfl ⟨Nat.le_of_ble_eq_true rfl, Nat.le_of_ble_eq_true rfl⟩ (zz_preX hK hN hSt hTh hP hD hS hA rfl) rfl hl.1 rfl (Nat.le_of_ble_eq_true rfl) d_L_law_290 ⟨(by show _ ≤ 601024; omega), (by show _ ≤ 7293033; omega)⟩) hD hS hA (fun H locs hP hD hS => ?_)
        have hP : va_P z.1 vwCl (lww z A B o SC_37 SQ SO_37) H := hP
        have hD : va_D A0 (lww z A B o SC_37 SQ SO_37) := hD
        refine lv_istore (lv' := [(5, .int r_37), (0, .ref b), (1, .ref (A 0)), (2, .ref (B 0)), (3, .ref o), (4, .int v4)]) hx hb d_L_law_293 hl (by decide) rfl (fun ls hl => ?_)
        refine lv_aload_n hx hb d_L_law_295 rfl (lv_at hl 3 rfl) ?_
        refine lv_aload_n hx hb d_L_law_296 rfl (lv_at hl 1 rfl) ?_
        refine lv_iload hx hb d_L_law_297 (lv_at hl 5 rfl) ?_
        refine lv_iconst (v := 1) hx hb d_L_law_299 (by decide) ?_
        refine lv_iadd hx hb d_L_law_300 ?_
        obtain ⟨c_38, h⟩ := zz_oob h
        refine va_sld hx hb hX hbl hbA hS c_38 d_L_law_301 ?_
        refine lv_aload_n hx hb d_L_law_302 rfl (lv_at hl 1 rfl) ?_
        refine lv_iload hx hb d_L_law_303 (lv_at hl 5 rfl) ?_
        refine lv_iconst (v := 2) hx hb d_L_law_305 (by decide) ?_
        refine lv_iadd hx hb d_L_law_306 ?_
        obtain ⟨c_39, h⟩ := zz_oob h
        refine va_sld hx hb hX hbl hbA hS c_39 d_L_law_307 ?_
        refine lv_aload_n hx hb d_L_law_308 rfl (lv_at hl 1 rfl) ?_
        refine lv_iload hx hb d_L_law_309 (lv_at hl 5 rfl) ?_
        refine lv_iconst (v := 3) hx hb d_L_law_311 (by decide) ?_
        refine lv_iadd hx hb d_L_law_312 ?_
        obtain ⟨c_40, h⟩ := zz_oob h
        refine va_sld hx hb hX hbl hbA hS c_40 d_L_law_313 ?_
        refine lv_aload_n hx hb d_L_law_314 rfl (lv_at hl 1 rfl) ?_
        refine lv_iload hx hb d_L_law_315 (lv_at hl 5 rfl) ?_
        refine lv_iconst (v := 4) hx hb d_L_law_317 (by decide) ?_
        refine lv_iadd hx hb d_L_law_318 ?_
        obtain ⟨c_41, h⟩ := zz_oob h
        refine va_sld hx hb hX hbl hbA hS c_41 d_L_law_319 ?_
        refine lv_i2l (v := (xs (v4 + (4 : Int32)).toNatClampNeg).toInt64) hx hb d_L_law_320 rfl ?_
        refine lv_bipush (v := 32) hx hb d_L_law_321 (by decide) ?_
        refine lv_lshl (v := ((xs (v4 + (4 : Int32)).toNatClampNeg).toInt64 <<< ((32 : Int32).toInt64 &&& 63))) hx hb d_L_law_323 rfl ?_
        refine lv_aload_n hx hb d_L_law_324 rfl (lv_at hl 1 rfl) ?_
        refine lv_iload hx hb d_L_law_325 (lv_at hl 5 rfl) ?_
        refine lv_iconst (v := 5) hx hb d_L_law_327 (by decide) ?_
        refine lv_iadd hx hb d_L_law_328 ?_
        obtain ⟨c_42, h⟩ := zz_oob h
        refine va_sld hx hb hX hbl hbA hS c_42 d_L_law_329 ?_
        refine lv_i2l (v := (xs (v4 + (5 : Int32)).toNatClampNeg).toInt64) hx hb d_L_law_330 rfl ?_
        refine lv_ldc2 (own := R_L) (v := 4294967295) hx hb hown (hts _ wq_756) d_L_law_331 ?_
        refine lv_land hx hb d_L_law_334 ?_
        refine lv_lor hx hb d_L_law_335 ?_
        refine lv_aload_n hx hb d_L_law_336 rfl (lv_at hl 1 rfl) ?_
        refine lv_iload hx hb d_L_law_337 (lv_at hl 5 rfl) ?_
        refine lv_bipush (v := 6) hx hb d_L_law_339 (by decide) ?_
        refine lv_iadd hx hb d_L_law_341 ?_
        obtain ⟨c_43, h⟩ := zz_oob h
        refine va_sld hx hb hX hbl hbA hS c_43 d_L_law_342 ?_
        refine lv_if_eq (tgt := 350) hx hb d_L_law_343 (by decide) (fun c_44 => ?_) (fun c_44 => ?_)
        · replace h := zz_t c_44 h
          refine lv_iconst (v := 0) hx hb d_L_law_350 (by decide) ?_
          obtain ⟨r_45, SQ_45, e_45, h⟩ := zz_bind h
          replace hP := lw_toQ hP
          replace hD := lw_toQd hD
          refine zz_goI (zz_runV (As := [.int (xs (v4 + (1 : Int32)).toNatClampNeg), .int (xs (v4 + (2 : Int32)).toNatClampNeg), .int (xs (v4 + (3 : Int32)).toNatClampNeg), .long (((xs (v4 + (4 : Int32)).toNatClampNeg).toInt64 <<< ((32 : Int32).toInt64 &&& 63)) ||| ((xs (v4 + (5 : Int32)).toNatClampNeg).toInt64 &&& (4294967295 : Int64))), .int (0 : Int32)]) (rest := []) (k_Q_member l z B (cw z A SC_37 ++ [(o, .inl (zL z, 1, .inr (.inl SO_37)))]) n _ _ _ _ _ _ _ _ e_45) ⟨hx, hb, hml, hown, hts⟩ (cwV 5 hts (zz_gV wq_676 wq_677 wq_678 wq_6 wq_679) rfl rfl rfl (by decide +kernel) ⟨Nat.le_of_ble_eq_true rfl, Nat.le_of_ble_eq_true rfl⟩) hK hN hP hD (va_recv hK hP (ci := 5) (q0 := 0) rfl rfl) rfl hl.1 rfl (Nat.le_of_ble_eq_true rfl) d_L_law_351 ⟨(by show _ ≤ 601024; omega), (by show _ ≤ 7293033; omega)⟩) hD hS hA (fun H locs hP hD hS => ?_)
          replace hP := lw_ofQ hP
          replace hD := lw_ofQd hD
          have hP : va_P z.1 vwCl (lww z A B o SC_37 SQ_45 SO_37) H := hP
          have hD : va_D A0 (lww z A B o SC_37 SQ_45 SO_37) := hD
          refine lv_istore (lv' := [(6, .int r_45), (5, .int r_37), (0, .ref b), (1, .ref (A 0)), (2, .ref (B 0)), (3, .ref o), (4, .int v4)]) hx hb d_L_law_354 hl (by decide) rfl (fun ls hl => ?_)
          refine lv_aload_n hx hb d_L_law_356 rfl (lv_at hl 4 rfl) ?_
          obtain ⟨r_46, SQ_46, e_46, h⟩ := zz_bind h
          replace hP := lw_toQ hP
          replace hD := lw_toQd hD
          refine zz_goI (zz_runV (As := []) (rest := []) (k_Q_thrown l z B (cw z A SC_37 ++ [(o, .inl (zL z, 1, .inr (.inl SO_37)))]) n _ _ _ e_46) ⟨hx, hb, hml, hown, hts⟩ (cwV 0 hts (zz_gV wq_636 wq_637 wq_638 wq_6 wq_639) rfl rfl rfl (by decide +kernel) ⟨Nat.le_of_ble_eq_true rfl, Nat.le_of_ble_eq_true rfl⟩) hK hN hP hD (va_recv hK hP (ci := 5) (q0 := 0) rfl rfl) rfl hl.1 rfl (Nat.le_of_ble_eq_true rfl) d_L_law_357 ⟨(by show _ ≤ 601024; omega), (by show _ ≤ 7293033; omega)⟩) hD hS hA (fun H locs hP hD hS => ?_)
          replace hP := lw_ofQ hP
          replace hD := lw_ofQd hD
          have hP : va_P z.1 vwCl (lww z A B o SC_37 SQ_46 SO_37) H := hP
          have hD : va_D A0 (lww z A B o SC_37 SQ_46 SO_37) := hD
          refine lv_iload hx hb d_L_law_360 (lv_at hl 1 rfl) ?_
          refine lv_icmp_eq (tgt := 367) hx hb d_L_law_362 (by decide) (fun c_47 => ?_) (fun c_47 => ?_)
          · replace h := zz_t c_47 h
            refine lv_iload hx hb d_L_law_367 (lv_at hl 1 rfl) ?_
            refine lv_if_ne (tgt := 384) hx hb d_L_law_369 (by decide) (fun c_48 => ?_) (fun c_48 => ?_)
            · replace h := zz_f c_48 h
              refine lv_goto (tgt := 696) hx hb d_L_law_384 (by decide) ?_
              refine lv_iinc (v := (v4 + (7 : Int32))) (lv' := [(4, .int (v4 + (7 : Int32))), (6, .int r_45), (5, .int r_37), (0, .ref b), (1, .ref (A 0)), (2, .ref (B 0)), (3, .ref o)]) hx hb d_L_law_696 hl (k := 6) rfl rfl (by decide) rfl (fun ls hl => ?_)
              refine lv_goto (tgt := 23) hx hb d_L_law_699 (by decide) ?_
              exact W.widen (by show _ ≤ 76 + ((v4 + (7 : Int32))).toNatClampNeg; rw [hv7]; omega) (by show _ ≤ 5507 + 6 * ((v4 + (7 : Int32))).toNatClampNeg; rw [hv7]; omega) (hG _ (Option.some.inj h).symm _ _ _ hP hD hS (lv_sub hl [3, 4, 5, 6, 0] rfl))
            · replace h := zz_t c_48 h
              refine lv_aload_n hx hb d_L_law_372 rfl (lv_at hl 5 rfl) ?_
              refine lv_iconst (v := 0) hx hb d_L_law_373 (by decide) ?_
              refine va_lald hx hb hK (zz_s3P hP) 0 2 rfl rfl (show ¬ ((0 : Int32) < 0 ∨ 1 ≤ (0 : Int32).toNatClampNeg) by decide) d_L_law_374 ?_
              refine lv_iload hx hb d_L_law_375 (lv_at hl 0 rfl) ?_
              refine lv_i2l (v := r_45.toInt64) hx hb d_L_law_377 rfl ?_
              refine W.lcmp hx hb d_L_law_378 ?_
              refine lv_if_eq (tgt := 384) hx hb d_L_law_379 (by decide) (fun c_50 => ?_) (fun c_50 => ?_)
              · replace h := zz_t c_50 h
                refine lv_goto (tgt := 696) hx hb d_L_law_384 (by decide) ?_
                refine lv_iinc (v := (v4 + (7 : Int32))) (lv' := [(4, .int (v4 + (7 : Int32))), (6, .int r_45), (5, .int r_37), (0, .ref b), (1, .ref (A 0)), (2, .ref (B 0)), (3, .ref o)]) hx hb d_L_law_696 hl (k := 6) rfl rfl (by decide) rfl (fun ls hl => ?_)
                refine lv_goto (tgt := 23) hx hb d_L_law_699 (by decide) ?_
                exact W.widen (by show _ ≤ 76 + ((v4 + (7 : Int32))).toNatClampNeg; rw [hv7]; omega) (by show _ ≤ 5507 + 6 * ((v4 + (7 : Int32))).toNatClampNeg; rw [hv7]; omega) (hG _ (Option.some.inj h).symm _ _ _ hP hD hS (lv_sub hl [3, 4, 5, 6, 0] rfl))
              · replace h := zz_f c_50 h
                cases h
          · replace h := zz_f c_47 h
            cases h
        · replace h := zz_f c_44 h
          refine lv_iconst (v := 1) hx hb d_L_law_346 (by decide) ?_
          refine lv_goto (tgt := 351) hx hb d_L_law_347 (by decide) ?_
          obtain ⟨r_51, SQ_51, e_51, h⟩ := zz_bind h
          replace hP := lw_toQ hP
          replace hD := lw_toQd hD
          refine zz_goI (zz_runV (As := [.int (xs (v4 + (1 : Int32)).toNatClampNeg), .int (xs (v4 + (2 : Int32)).toNatClampNeg), .int (xs (v4 + (3 : Int32)).toNatClampNeg), .long (((xs (v4 + (4 : Int32)).toNatClampNeg).toInt64 <<< ((32 : Int32).toInt64 &&& 63)) ||| ((xs (v4 + (5 : Int32)).toNatClampNeg).toInt64 &&& (4294967295 : Int64))), .int (1 : Int32)]) (rest := []) (k_Q_member l z B (cw z A SC_37 ++ [(o, .inl (zL z, 1, .inr (.inl SO_37)))]) n _ _ _ _ _ _ _ _ e_51) ⟨hx, hb, hml, hown, hts⟩ (cwV 5 hts (zz_gV wq_676 wq_677 wq_678 wq_6 wq_679) rfl rfl rfl (by decide +kernel) ⟨Nat.le_of_ble_eq_true rfl, Nat.le_of_ble_eq_true rfl⟩) hK hN hP hD (va_recv hK hP (ci := 5) (q0 := 0) rfl rfl) rfl hl.1 rfl (Nat.le_of_ble_eq_true rfl) d_L_law_351 ⟨(by show _ ≤ 601024; omega), (by show _ ≤ 7293033; omega)⟩) hD hS hA (fun H locs hP hD hS => ?_)
          replace hP := lw_ofQ hP
          replace hD := lw_ofQd hD
          have hP : va_P z.1 vwCl (lww z A B o SC_37 SQ_51 SO_37) H := hP
          have hD : va_D A0 (lww z A B o SC_37 SQ_51 SO_37) := hD
          refine lv_istore (lv' := [(6, .int r_51), (5, .int r_37), (0, .ref b), (1, .ref (A 0)), (2, .ref (B 0)), (3, .ref o), (4, .int v4)]) hx hb d_L_law_354 hl (by decide) rfl (fun ls hl => ?_)
          refine lv_aload_n hx hb d_L_law_356 rfl (lv_at hl 4 rfl) ?_
          obtain ⟨r_52, SQ_52, e_52, h⟩ := zz_bind h
          replace hP := lw_toQ hP
          replace hD := lw_toQd hD
          refine zz_goI (zz_runV (As := []) (rest := []) (k_Q_thrown l z B (cw z A SC_37 ++ [(o, .inl (zL z, 1, .inr (.inl SO_37)))]) n _ _ _ e_52) ⟨hx, hb, hml, hown, hts⟩ (cwV 0 hts (zz_gV wq_636 wq_637 wq_638 wq_6 wq_639) rfl rfl rfl (by decide +kernel) ⟨Nat.le_of_ble_eq_true rfl, Nat.le_of_ble_eq_true rfl⟩) hK hN hP hD (va_recv hK hP (ci := 5) (q0 := 0) rfl rfl) rfl hl.1 rfl (Nat.le_of_ble_eq_true rfl) d_L_law_357 ⟨(by show _ ≤ 601024; omega), (by show _ ≤ 7293033; omega)⟩) hD hS hA (fun H locs hP hD hS => ?_)
          replace hP := lw_ofQ hP
          replace hD := lw_ofQd hD
          have hP : va_P z.1 vwCl (lww z A B o SC_37 SQ_52 SO_37) H := hP
          have hD : va_D A0 (lww z A B o SC_37 SQ_52 SO_37) := hD
          refine lv_iload hx hb d_L_law_360 (lv_at hl 1 rfl) ?_
          refine lv_icmp_eq (tgt := 367) hx hb d_L_law_362 (by decide) (fun c_53 => ?_) (fun c_53 => ?_)
          · replace h := zz_t c_53 h
            refine lv_iload hx hb d_L_law_367 (lv_at hl 1 rfl) ?_
            refine lv_if_ne (tgt := 384) hx hb d_L_law_369 (by decide) (fun c_54 => ?_) (fun c_54 => ?_)
            · replace h := zz_f c_54 h
              refine lv_goto (tgt := 696) hx hb d_L_law_384 (by decide) ?_
              refine lv_iinc (v := (v4 + (7 : Int32))) (lv' := [(4, .int (v4 + (7 : Int32))), (6, .int r_51), (5, .int r_37), (0, .ref b), (1, .ref (A 0)), (2, .ref (B 0)), (3, .ref o)]) hx hb d_L_law_696 hl (k := 6) rfl rfl (by decide) rfl (fun ls hl => ?_)
              refine lv_goto (tgt := 23) hx hb d_L_law_699 (by decide) ?_
              exact W.widen (by show _ ≤ 76 + ((v4 + (7 : Int32))).toNatClampNeg; rw [hv7]; omega) (by show _ ≤ 5507 + 6 * ((v4 + (7 : Int32))).toNatClampNeg; rw [hv7]; omega) (hG _ (Option.some.inj h).symm _ _ _ hP hD hS (lv_sub hl [3, 4, 5, 6, 0] rfl))
            · replace h := zz_t c_54 h
              refine lv_aload_n hx hb d_L_law_372 rfl (lv_at hl 5 rfl) ?_
              refine lv_iconst (v := 0) hx hb d_L_law_373 (by decide) ?_
              refine va_lald hx hb hK (zz_s3P hP) 0 2 rfl rfl (show ¬ ((0 : Int32) < 0 ∨ 1 ≤ (0 : Int32).toNatClampNeg) by decide) d_L_law_374 ?_
              refine lv_iload hx hb d_L_law_375 (lv_at hl 0 rfl) ?_
              refine lv_i2l (v := r_51.toInt64) hx hb d_L_law_377 rfl ?_
              refine W.lcmp hx hb d_L_law_378 ?_
              refine lv_if_eq (tgt := 384) hx hb d_L_law_379 (by decide) (fun c_56 => ?_) (fun c_56 => ?_)
              · replace h := zz_t c_56 h
                refine lv_goto (tgt := 696) hx hb d_L_law_384 (by decide) ?_
                refine lv_iinc (v := (v4 + (7 : Int32))) (lv' := [(4, .int (v4 + (7 : Int32))), (6, .int r_51), (5, .int r_37), (0, .ref b), (1, .ref (A 0)), (2, .ref (B 0)), (3, .ref o)]) hx hb d_L_law_696 hl (k := 6) rfl rfl (by decide) rfl (fun ls hl => ?_)
                refine lv_goto (tgt := 23) hx hb d_L_law_699 (by decide) ?_
                exact W.widen (by show _ ≤ 76 + ((v4 + (7 : Int32))).toNatClampNeg; rw [hv7]; omega) (by show _ ≤ 5507 + 6 * ((v4 + (7 : Int32))).toNatClampNeg; rw [hv7]; omega) (hG _ (Option.some.inj h).symm _ _ _ hP hD hS (lv_sub hl [3, 4, 5, 6, 0] rfl))
              · replace h := zz_f c_56 h
                cases h
          · replace h := zz_f c_53 h
            cases h
      · replace h := zz_f c_36 h
        refine lv_iconst (v := 1) hx hb d_L_law_284 (by decide) ?_
        refine lv_goto (tgt := 289) hx hb d_L_law_285 (by decide) ?_
        refine lv_aload_n hx hb d_L_law_289 rfl (lv_at hl 3 rfl) ?_
        obtain ⟨r_57, SC_57, SO_57, e_57, h⟩ := zz_bL3x h
        refine zz_goN (v := some (.int r_57)) (zz_runSW (n := 7) (As := [.ref (A 0), .int (xs (v4 + (1 : Int32)).toNatClampNeg), .int (xs (v4 + (2 : Int32)).toNatClampNeg), .int (xs (v4 + (3 : Int32)).toNatClampNeg), .long (((xs (v4 + (4 : Int32)).toNatClampNeg).toInt64 <<< ((32 : Int32).toInt64 &&& 63)) ||| ((xs (v4 + (5 : Int32)).toNatClampNeg).toInt64 &&& (4294967295 : Int64))), .int (1 : Int32), .ref o]) (rest := []) (k_L_member l hl0 z A o (qw z B SQ) n _ _ _ _ _ _ _ _ _ _ e_57) ⟨hx, hb, hml, hown, hts⟩ wq_392 wq_390 wq_391 wq_0 (by decide +kernel) rfl rfl ⟨Nat.le_of_ble_eq_true rfl, Nat.le_of_ble_eq_true rfl⟩ (zz_preX hK hN hSt hTh hP hD hS hA rfl) rfl hl.1 rfl (Nat.le_of_ble_eq_true rfl) d_L_law_290 ⟨(by show _ ≤ 601024; omega), (by show _ ≤ 7293033; omega)⟩) hD hS hA (fun H locs hP hD hS => ?_)
        have hP : va_P z.1 vwCl (lww z A B o SC_57 SQ SO_57) H := hP
        have hD : va_D A0 (lww z A B o SC_57 SQ SO_57) := hD
        refine lv_istore (lv' := [(5, .int r_57), (0, .ref b), (1, .ref (A 0)), (2, .ref (B 0)), (3, .ref o), (4, .int v4)]) hx hb d_L_law_293 hl (by decide) rfl (fun ls hl => ?_)
        refine lv_aload_n hx hb d_L_law_295 rfl (lv_at hl 3 rfl) ?_
        refine lv_aload_n hx hb d_L_law_296 rfl (lv_at hl 1 rfl) ?_
        refine lv_iload hx hb d_L_law_297 (lv_at hl 5 rfl) ?_
        refine lv_iconst (v := 1) hx hb d_L_law_299 (by decide) ?_
        refine lv_iadd hx hb d_L_law_300 ?_
        obtain ⟨c_58, h⟩ := zz_oob h
        refine va_sld hx hb hX hbl hbA hS c_58 d_L_law_301 ?_
        refine lv_aload_n hx hb d_L_law_302 rfl (lv_at hl 1 rfl) ?_
        refine lv_iload hx hb d_L_law_303 (lv_at hl 5 rfl) ?_
        refine lv_iconst (v := 2) hx hb d_L_law_305 (by decide) ?_
        refine lv_iadd hx hb d_L_law_306 ?_
        obtain ⟨c_59, h⟩ := zz_oob h
        refine va_sld hx hb hX hbl hbA hS c_59 d_L_law_307 ?_
        refine lv_aload_n hx hb d_L_law_308 rfl (lv_at hl 1 rfl) ?_
        refine lv_iload hx hb d_L_law_309 (lv_at hl 5 rfl) ?_
        refine lv_iconst (v := 3) hx hb d_L_law_311 (by decide) ?_
        refine lv_iadd hx hb d_L_law_312 ?_
        obtain ⟨c_60, h⟩ := zz_oob h
        refine va_sld hx hb hX hbl hbA hS c_60 d_L_law_313 ?_
        refine lv_aload_n hx hb d_L_law_314 rfl (lv_at hl 1 rfl) ?_
        refine lv_iload hx hb d_L_law_315 (lv_at hl 5 rfl) ?_
        refine lv_iconst (v := 4) hx hb d_L_law_317 (by decide) ?_
        refine lv_iadd hx hb d_L_law_318 ?_
        obtain ⟨c_61, h⟩ := zz_oob h
        refine va_sld hx hb hX hbl hbA hS c_61 d_L_law_319 ?_
        refine lv_i2l (v := (xs (v4 + (4 : Int32)).toNatClampNeg).toInt64) hx hb d_L_law_320 rfl ?_
        refine lv_bipush (v := 32) hx hb d_L_law_321 (by decide) ?_
        refine lv_lshl (v := ((xs (v4 + (4 : Int32)).toNatClampNeg).toInt64 <<< ((32 : Int32).toInt64 &&& 63))) hx hb d_L_law_323 rfl ?_
        refine lv_aload_n hx hb d_L_law_324 rfl (lv_at hl 1 rfl) ?_
        refine lv_iload hx hb d_L_law_325 (lv_at hl 5 rfl) ?_
        refine lv_iconst (v := 5) hx hb d_L_law_327 (by decide) ?_
        refine lv_iadd hx hb d_L_law_328 ?_
        obtain ⟨c_62, h⟩ := zz_oob h
        refine va_sld hx hb hX hbl hbA hS c_62 d_L_law_329 ?_
        refine lv_i2l (v := (xs (v4 + (5 : Int32)).toNatClampNeg).toInt64) hx hb d_L_law_330 rfl ?_
        refine lv_ldc2 (own := R_L) (v := 4294967295) hx hb hown (hts _ wq_756) d_L_law_331 ?_
        refine lv_land hx hb d_L_law_334 ?_
        refine lv_lor hx hb d_L_law_335 ?_
        refine lv_aload_n hx hb d_L_law_336 rfl (lv_at hl 1 rfl) ?_
        refine lv_iload hx hb d_L_law_337 (lv_at hl 5 rfl) ?_
        refine lv_bipush (v := 6) hx hb d_L_law_339 (by decide) ?_
        refine lv_iadd hx hb d_L_law_341 ?_
        obtain ⟨c_63, h⟩ := zz_oob h
        refine va_sld hx hb hX hbl hbA hS c_63 d_L_law_342 ?_
        refine lv_if_eq (tgt := 350) hx hb d_L_law_343 (by decide) (fun c_64 => ?_) (fun c_64 => ?_)
        · replace h := zz_t c_64 h
          refine lv_iconst (v := 0) hx hb d_L_law_350 (by decide) ?_
          obtain ⟨r_65, SQ_65, e_65, h⟩ := zz_bind h
          replace hP := lw_toQ hP
          replace hD := lw_toQd hD
          refine zz_goI (zz_runV (As := [.int (xs (v4 + (1 : Int32)).toNatClampNeg), .int (xs (v4 + (2 : Int32)).toNatClampNeg), .int (xs (v4 + (3 : Int32)).toNatClampNeg), .long (((xs (v4 + (4 : Int32)).toNatClampNeg).toInt64 <<< ((32 : Int32).toInt64 &&& 63)) ||| ((xs (v4 + (5 : Int32)).toNatClampNeg).toInt64 &&& (4294967295 : Int64))), .int (0 : Int32)]) (rest := []) (k_Q_member l z B (cw z A SC_57 ++ [(o, .inl (zL z, 1, .inr (.inl SO_57)))]) n _ _ _ _ _ _ _ _ e_65) ⟨hx, hb, hml, hown, hts⟩ (cwV 5 hts (zz_gV wq_676 wq_677 wq_678 wq_6 wq_679) rfl rfl rfl (by decide +kernel) ⟨Nat.le_of_ble_eq_true rfl, Nat.le_of_ble_eq_true rfl⟩) hK hN hP hD (va_recv hK hP (ci := 5) (q0 := 0) rfl rfl) rfl hl.1 rfl (Nat.le_of_ble_eq_true rfl) d_L_law_351 ⟨(by show _ ≤ 601024; omega), (by show _ ≤ 7293033; omega)⟩) hD hS hA (fun H locs hP hD hS => ?_)
          replace hP := lw_ofQ hP
          replace hD := lw_ofQd hD
          have hP : va_P z.1 vwCl (lww z A B o SC_57 SQ_65 SO_57) H := hP
          have hD : va_D A0 (lww z A B o SC_57 SQ_65 SO_57) := hD
          refine lv_istore (lv' := [(6, .int r_65), (5, .int r_57), (0, .ref b), (1, .ref (A 0)), (2, .ref (B 0)), (3, .ref o), (4, .int v4)]) hx hb d_L_law_354 hl (by decide) rfl (fun ls hl => ?_)
          refine lv_aload_n hx hb d_L_law_356 rfl (lv_at hl 4 rfl) ?_
          obtain ⟨r_66, SQ_66, e_66, h⟩ := zz_bind h
          replace hP := lw_toQ hP
          replace hD := lw_toQd hD
          refine zz_goI (zz_runV (As := []) (rest := []) (k_Q_thrown l z B (cw z A SC_57 ++ [(o, .inl (zL z, 1, .inr (.inl SO_57)))]) n _ _ _ e_66) ⟨hx, hb, hml, hown, hts⟩ (cwV 0 hts (zz_gV wq_636 wq_637 wq_638 wq_6 wq_639) rfl rfl rfl (by decide +kernel) ⟨Nat.le_of_ble_eq_true rfl, Nat.le_of_ble_eq_true rfl⟩) hK hN hP hD (va_recv hK hP (ci := 5) (q0 := 0) rfl rfl) rfl hl.1 rfl (Nat.le_of_ble_eq_true rfl) d_L_law_357 ⟨(by show _ ≤ 601024; omega), (by show _ ≤ 7293033; omega)⟩) hD hS hA (fun H locs hP hD hS => ?_)
          replace hP := lw_ofQ hP
          replace hD := lw_ofQd hD
          have hP : va_P z.1 vwCl (lww z A B o SC_57 SQ_66 SO_57) H := hP
          have hD : va_D A0 (lww z A B o SC_57 SQ_66 SO_57) := hD
          refine lv_iload hx hb d_L_law_360 (lv_at hl 1 rfl) ?_
          refine lv_icmp_eq (tgt := 367) hx hb d_L_law_362 (by decide) (fun c_67 => ?_) (fun c_67 => ?_)
          · replace h := zz_t c_67 h
            refine lv_iload hx hb d_L_law_367 (lv_at hl 1 rfl) ?_
            refine lv_if_ne (tgt := 384) hx hb d_L_law_369 (by decide) (fun c_68 => ?_) (fun c_68 => ?_)
            · replace h := zz_f c_68 h
              refine lv_goto (tgt := 696) hx hb d_L_law_384 (by decide) ?_
              refine lv_iinc (v := (v4 + (7 : Int32))) (lv' := [(4, .int (v4 + (7 : Int32))), (6, .int r_65), (5, .int r_57), (0, .ref b), (1, .ref (A 0)), (2, .ref (B 0)), (3, .ref o)]) hx hb d_L_law_696 hl (k := 6) rfl rfl (by decide) rfl (fun ls hl => ?_)
              refine lv_goto (tgt := 23) hx hb d_L_law_699 (by decide) ?_
              exact W.widen (by show _ ≤ 76 + ((v4 + (7 : Int32))).toNatClampNeg; rw [hv7]; omega) (by show _ ≤ 5507 + 6 * ((v4 + (7 : Int32))).toNatClampNeg; rw [hv7]; omega) (hG _ (Option.some.inj h).symm _ _ _ hP hD hS (lv_sub hl [3, 4, 5, 6, 0] rfl))
            · replace h := zz_t c_68 h
              refine lv_aload_n hx hb d_L_law_372 rfl (lv_at hl 5 rfl) ?_
              refine lv_iconst (v := 0) hx hb d_L_law_373 (by decide) ?_
              refine va_lald hx hb hK (zz_s3P hP) 0 2 rfl rfl (show ¬ ((0 : Int32) < 0 ∨ 1 ≤ (0 : Int32).toNatClampNeg) by decide) d_L_law_374 ?_
              refine lv_iload hx hb d_L_law_375 (lv_at hl 0 rfl) ?_
              refine lv_i2l (v := r_65.toInt64) hx hb d_L_law_377 rfl ?_
              refine W.lcmp hx hb d_L_law_378 ?_
              refine lv_if_eq (tgt := 384) hx hb d_L_law_379 (by decide) (fun c_70 => ?_) (fun c_70 => ?_)
              · replace h := zz_t c_70 h
                refine lv_goto (tgt := 696) hx hb d_L_law_384 (by decide) ?_
                refine lv_iinc (v := (v4 + (7 : Int32))) (lv' := [(4, .int (v4 + (7 : Int32))), (6, .int r_65), (5, .int r_57), (0, .ref b), (1, .ref (A 0)), (2, .ref (B 0)), (3, .ref o)]) hx hb d_L_law_696 hl (k := 6) rfl rfl (by decide) rfl (fun ls hl => ?_)
                refine lv_goto (tgt := 23) hx hb d_L_law_699 (by decide) ?_
                exact W.widen (by show _ ≤ 76 + ((v4 + (7 : Int32))).toNatClampNeg; rw [hv7]; omega) (by show _ ≤ 5507 + 6 * ((v4 + (7 : Int32))).toNatClampNeg; rw [hv7]; omega) (hG _ (Option.some.inj h).symm _ _ _ hP hD hS (lv_sub hl [3, 4, 5, 6, 0] rfl))
              · replace h := zz_f c_70 h
                cases h
          · replace h := zz_f c_67 h
            cases h
        · replace h := zz_f c_64 h
          refine lv_iconst (v := 1) hx hb d_L_law_346 (by decide) ?_
          refine lv_goto (tgt := 351) hx hb d_L_law_347 (by decide) ?_
          obtain ⟨r_71, SQ_71, e_71, h⟩ := zz_bind h
          replace hP := lw_toQ hP
          replace hD := lw_toQd hD
          refine zz_goI (zz_runV (As := [.int (xs (v4 + (1 : Int32)).toNatClampNeg), .int (xs (v4 + (2 : Int32)).toNatClampNeg), .int (xs (v4 + (3 : Int32)).toNatClampNeg), .long (((xs (v4 + (4 : Int32)).toNatClampNeg).toInt64 <<< ((32 : Int32).toInt64 &&& 63)) ||| ((xs (v4 + (5 : Int32)).toNatClampNeg).toInt64 &&& (4294967295 : Int64))), .int (1 : Int32)]) (rest := []) (k_Q_member l z B (cw z A SC_57 ++ [(o, .inl (zL z, 1, .inr (.inl SO_57)))]) n _ _ _ _ _ _ _ _ e_71) ⟨hx, hb, hml, hown, hts⟩ (cwV 5 hts (zz_gV wq_676 wq_677 wq_678 wq_6 wq_679) rfl rfl rfl (by decide +kernel) ⟨Nat.le_of_ble_eq_true rfl, Nat.le_of_ble_eq_true rfl⟩) hK hN hP hD (va_recv hK hP (ci := 5) (q0 := 0) rfl rfl) rfl hl.1 rfl (Nat.le_of_ble_eq_true rfl) d_L_law_351 ⟨(by show _ ≤ 601024; omega), (by show _ ≤ 7293033; omega)⟩) hD hS hA (fun H locs hP hD hS => ?_)
          replace hP := lw_ofQ hP
          replace hD := lw_ofQd hD
          have hP : va_P z.1 vwCl (lww z A B o SC_57 SQ_71 SO_57) H := hP
          have hD : va_D A0 (lww z A B o SC_57 SQ_71 SO_57) := hD
          refine lv_istore (lv' := [(6, .int r_71), (5, .int r_57), (0, .ref b), (1, .ref (A 0)), (2, .ref (B 0)), (3, .ref o), (4, .int v4)]) hx hb d_L_law_354 hl (by decide) rfl (fun ls hl => ?_)
          refine lv_aload_n hx hb d_L_law_356 rfl (lv_at hl 4 rfl) ?_
          obtain ⟨r_72, SQ_72, e_72, h⟩ := zz_bind h
          replace hP := lw_toQ hP
          replace hD := lw_toQd hD
          refine zz_goI (zz_runV (As := []) (rest := []) (k_Q_thrown l z B (cw z A SC_57 ++ [(o, .inl (zL z, 1, .inr (.inl SO_57)))]) n _ _ _ e_72) ⟨hx, hb, hml, hown, hts⟩ (cwV 0 hts (zz_gV wq_636 wq_637 wq_638 wq_6 wq_639) rfl rfl rfl (by decide +kernel) ⟨Nat.le_of_ble_eq_true rfl, Nat.le_of_ble_eq_true rfl⟩) hK hN hP hD (va_recv hK hP (ci := 5) (q0 := 0) rfl rfl) rfl hl.1 rfl (Nat.le_of_ble_eq_true rfl) d_L_law_357 ⟨(by show _ ≤ 601024; omega), (by show _ ≤ 7293033; omega)⟩) hD hS hA (fun H locs hP hD hS => ?_)
          replace hP := lw_ofQ hP
          replace hD := lw_ofQd hD
          have hP : va_P z.1 vwCl (lww z A B o SC_57 SQ_72 SO_57) H := hP
          have hD : va_D A0 (lww z A B o SC_57 SQ_72 SO_57) := hD
          refine lv_iload hx hb d_L_law_360 (lv_at hl 1 rfl) ?_
          refine lv_icmp_eq (tgt := 367) hx hb d_L_law_362 (by decide) (fun c_73 => ?_) (fun c_73 => ?_)
          · replace h := zz_t c_73 h
            refine lv_iload hx hb d_L_law_367 (lv_at hl 1 rfl) ?_
            refine lv_if_ne (tgt := 384) hx hb d_L_law_369 (by decide) (fun c_74 => ?_) (fun c_74 => ?_)
            · replace h := zz_f c_74 h
              refine lv_goto (tgt := 696) hx hb d_L_law_384 (by decide) ?_
              refine lv_iinc (v := (v4 + (7 : Int32))) (lv' := [(4, .int (v4 + (7 : Int32))), (6, .int r_71), (5, .int r_57), (0, .ref b), (1, .ref (A 0)), (2, .ref (B 0)), (3, .ref o)]) hx hb d_L_law_696 hl (k := 6) rfl rfl (by decide) rfl (fun ls hl => ?_)
              refine lv_goto (tgt := 23) hx hb d_L_law_699 (by decide) ?_
              exact W.widen (by show _ ≤ 76 + ((v4 + (7 : Int32))).toNatClampNeg; rw [hv7]; omega) (by show _ ≤ 5507 + 6 * ((v4 + (7 : Int32))).toNatClampNeg; rw [hv7]; omega) (hG _ (Option.some.inj h).symm _ _ _ hP hD hS (lv_sub hl [3, 4, 5, 6, 0] rfl))
            · replace h := zz_t c_74 h
              refine lv_aload_n hx hb d_L_law_372 rfl (lv_at hl 5 rfl) ?_
              refine lv_iconst (v := 0) hx hb d_L_law_373 (by decide) ?_
              refine va_lald hx hb hK (zz_s3P hP) 0 2 rfl rfl (show ¬ ((0 : Int32) < 0 ∨ 1 ≤ (0 : Int32).toNatClampNeg) by decide) d_L_law_374 ?_
              refine lv_iload hx hb d_L_law_375 (lv_at hl 0 rfl) ?_
              refine lv_i2l (v := r_71.toInt64) hx hb d_L_law_377 rfl ?_
              refine W.lcmp hx hb d_L_law_378 ?_
              refine lv_if_eq (tgt := 384) hx hb d_L_law_379 (by decide) (fun c_76 => ?_) (fun c_76 => ?_)
              · replace h := zz_t c_76 h
                refine lv_goto (tgt := 696) hx hb d_L_law_384 (by decide) ?_
                refine lv_iinc (v := (v4 + (7 : Int32))) (lv' := [(4, .int (v4 + (7 : Int32))), (6, .int r_71), (5, .int r_57), (0, .ref b), (1, .ref (A 0)), (2, .ref (B 0)), (3, .ref o)]) hx hb d_L_law_696 hl (k := 6) rfl rfl (by decide) rfl (fun ls hl => ?_)
                refine lv_goto (tgt := 23) hx hb d_L_law_699 (by decide) ?_
                exact W.widen (by show _ ≤ 76 + ((v4 + (7 : Int32))).toNatClampNeg; rw [hv7]; omega) (by show _ ≤ 5507 + 6 * ((v4 + (7 : Int32))).toNatClampNeg; rw [hv7]; omega) (hG _ (Option.some.inj h).symm _ _ _ hP hD hS (lv_sub hl [3, 4, 5, 6, 0] rfl))
              · replace h := zz_f c_76 h
                cases h
          · replace h := zz_f c_73 h
            cases h
    replace h := zz_f c_29 h
    by_cases c_77 : ((xs v4.toNatClampNeg) &&& (15 : Int32)) = (4 : Int32)
    · replace h := zz_t c_77 h
      refine lv_tableIn (tgt := 387) hx hb d_L_law_40 (by rw [c_77]; decide) (by rw [c_77]; decide) (by rw [c_77]; rfl) (by decide) ?_
      refine lv_aload_n hx hb d_L_law_387 rfl (lv_at hl 1 rfl) ?_
      refine lv_aload_n hx hb d_L_law_388 rfl (lv_at hl 0 rfl) ?_
      refine lv_iload hx hb d_L_law_389 (lv_at hl 4 rfl) ?_
      refine lv_iconst (v := 1) hx hb d_L_law_391 (by decide) ?_
      refine lv_iadd hx hb d_L_law_392 ?_
      obtain ⟨c_78, h⟩ := zz_oob h
      refine va_sld hx hb hX hbl hbA hS c_78 d_L_law_393 ?_
      refine lv_aload_n hx hb d_L_law_394 rfl (lv_at hl 0 rfl) ?_
      refine lv_iload hx hb d_L_law_395 (lv_at hl 4 rfl) ?_
      refine lv_iconst (v := 2) hx hb d_L_law_397 (by decide) ?_
      refine lv_iadd hx hb d_L_law_398 ?_
      obtain ⟨c_79, h⟩ := zz_oob h
      refine va_sld hx hb hX hbl hbA hS c_79 d_L_law_399 ?_
      obtain ⟨r_80, SC_80, e_80, h⟩ := zz_bind h
      refine zz_goI (zz_runV (As := [.int (xs (v4 + (1 : Int32)).toNatClampNeg), .int (xs (v4 + (2 : Int32)).toNatClampNeg)]) (rest := []) (k_X_subtype l z A ([(o, .inl (zL z, 1, .inr (.inl SO)))] ++ qw z B SQ) n _ _ _ _ _ e_80) ⟨hx, hb, hml, hown, hts⟩ (cwV 2 hts (zz_gV wq_207 wq_208 wq_209 wq_1 wq_210) rfl rfl rfl (by decide +kernel) ⟨Nat.le_of_ble_eq_true rfl, Nat.le_of_ble_eq_true rfl⟩) hK hN hP hD (va_recv hK hP (ci := 0) (q0 := 0) rfl rfl) rfl hl.1 rfl (Nat.le_of_ble_eq_true rfl) d_L_law_400 ⟨(by show _ ≤ 601024; omega), (by show _ ≤ 7293033; omega)⟩) hD hS hA (fun H locs hP hD hS => ?_)
      have hP : va_P z.1 vwCl (lww z A B o SC_80 SQ SO) H := hP
      have hD : va_D A0 (lww z A B o SC_80 SQ SO) := hD
      refine lv_aload_n hx hb d_L_law_403 rfl (lv_at hl 2 rfl) ?_
      refine lv_aload_n hx hb d_L_law_404 rfl (lv_at hl 0 rfl) ?_
      refine lv_iload hx hb d_L_law_405 (lv_at hl 4 rfl) ?_
      refine lv_iconst (v := 1) hx hb d_L_law_407 (by decide) ?_
      refine lv_iadd hx hb d_L_law_408 ?_
      obtain ⟨c_81, h⟩ := zz_oob h
      refine va_sld hx hb hX hbl hbA hS c_81 d_L_law_409 ?_
      refine lv_aload_n hx hb d_L_law_410 rfl (lv_at hl 0 rfl) ?_
      refine lv_iload hx hb d_L_law_411 (lv_at hl 4 rfl) ?_
      refine lv_iconst (v := 2) hx hb d_L_law_413 (by decide) ?_
      refine lv_iadd hx hb d_L_law_414 ?_
      obtain ⟨c_82, h⟩ := zz_oob h
      refine va_sld hx hb hX hbl hbA hS c_82 d_L_law_415 ?_
      obtain ⟨r_83, SQ_83, e_83, h⟩ := zz_bind h
      replace hP := lw_toQ hP
      replace hD := lw_toQd hD
      refine zz_goI (zz_runV (As := [.int (xs (v4 + (1 : Int32)).toNatClampNeg), .int (xs (v4 + (2 : Int32)).toNatClampNeg)]) (rest := [.int r_80]) (k_Q_subtype l z B (cw z A SC_80 ++ [(o, .inl (zL z, 1, .inr (.inl SO)))]) n _ _ _ _ _ e_83) ⟨hx, hb, hml, hown, hts⟩ (cwV 2 hts (zz_gV wq_656 wq_657 wq_658 wq_6 wq_659) rfl rfl rfl (by decide +kernel) ⟨Nat.le_of_ble_eq_true rfl, Nat.le_of_ble_eq_true rfl⟩) hK hN hP hD (va_recv hK hP (ci := 5) (q0 := 0) rfl rfl) rfl hl.1 rfl (Nat.le_of_ble_eq_true rfl) d_L_law_416 ⟨(by show _ ≤ 601024; omega), (by show _ ≤ 7293033; omega)⟩) hD hS hA (fun H locs hP hD hS => ?_)
      replace hP := lw_ofQ hP
      replace hD := lw_ofQd hD
      have hP : va_P z.1 vwCl (lww z A B o SC_80 SQ_83 SO) H := hP
      have hD : va_D A0 (lww z A B o SC_80 SQ_83 SO) := hD
      refine lv_icmp_eq (tgt := 696) hx hb d_L_law_419 (by decide) (fun c_84 => ?_) (fun c_84 => ?_)
      · replace h := zz_t c_84 h
        refine lv_iinc (v := (v4 + (7 : Int32))) (lv' := [(4, .int (v4 + (7 : Int32))), (0, .ref b), (1, .ref (A 0)), (2, .ref (B 0)), (3, .ref o)]) hx hb d_L_law_696 hl (k := 4) rfl rfl (by decide) rfl (fun ls hl => ?_)
        refine lv_goto (tgt := 23) hx hb d_L_law_699 (by decide) ?_
        exact W.widen (by show _ ≤ 76 + ((v4 + (7 : Int32))).toNatClampNeg; rw [hv7]; omega) (by show _ ≤ 5507 + 6 * ((v4 + (7 : Int32))).toNatClampNeg; rw [hv7]; omega) (hG _ (Option.some.inj h).symm _ _ _ hP hD hS (lv_sub hl [1, 2, 3, 4, 0] rfl))
      · replace h := zz_f c_84 h
        cases h
    replace h := zz_f c_77 h
    by_cases c_85 : ((xs v4.toNatClampNeg) &&& (15 : Int32)) = (5 : Int32)
    · replace h := zz_t c_85 h
      refine lv_tableIn (tgt := 424) hx hb d_L_law_40 (by rw [c_85]; decide) (by rw [c_85]; decide) (by rw [c_85]; rfl) (by decide) ?_
      refine lv_aload_n hx hb d_L_law_424 rfl (lv_at hl 1 rfl) ?_
      refine lv_aload_n hx hb d_L_law_425 rfl (lv_at hl 0 rfl) ?_
      refine lv_iload hx hb d_L_law_426 (lv_at hl 4 rfl) ?_
      refine lv_iconst (v := 1) hx hb d_L_law_428 (by decide) ?_
      refine lv_iadd hx hb d_L_law_429 ?_
      obtain ⟨c_86, h⟩ := zz_oob h
      refine va_sld hx hb hX hbl hbA hS c_86 d_L_law_430 ?_
      refine lv_aload_n hx hb d_L_law_431 rfl (lv_at hl 0 rfl) ?_
      refine lv_iload hx hb d_L_law_432 (lv_at hl 4 rfl) ?_
      refine lv_iconst (v := 2) hx hb d_L_law_434 (by decide) ?_
      refine lv_iadd hx hb d_L_law_435 ?_
      obtain ⟨c_87, h⟩ := zz_oob h
      refine va_sld hx hb hX hbl hbA hS c_87 d_L_law_436 ?_
      refine lv_aload_n hx hb d_L_law_437 rfl (lv_at hl 0 rfl) ?_
      refine lv_iload hx hb d_L_law_438 (lv_at hl 4 rfl) ?_
      refine lv_iconst (v := 3) hx hb d_L_law_440 (by decide) ?_
      refine lv_iadd hx hb d_L_law_441 ?_
      obtain ⟨c_88, h⟩ := zz_oob h
      refine va_sld hx hb hX hbl hbA hS c_88 d_L_law_442 ?_
      obtain ⟨r_89, SC_89, e_89, h⟩ := zz_bind h
      refine zz_goI (zz_runV (As := [.int (xs (v4 + (1 : Int32)).toNatClampNeg), .int (xs (v4 + (2 : Int32)).toNatClampNeg), .int (xs (v4 + (3 : Int32)).toNatClampNeg)]) (rest := []) (k_X_meant l z A ([(o, .inl (zL z, 1, .inr (.inl SO)))] ++ qw z B SQ) n _ _ _ _ _ _ e_89) ⟨hx, hb, hml, hown, hts⟩ (cwV 3 hts (zz_gV wq_212 wq_213 wq_214 wq_1 wq_215) rfl rfl rfl (by decide +kernel) ⟨Nat.le_of_ble_eq_true rfl, Nat.le_of_ble_eq_true rfl⟩) hK hN hP hD (va_recv hK hP (ci := 0) (q0 := 0) rfl rfl) rfl hl.1 rfl (Nat.le_of_ble_eq_true rfl) d_L_law_443 ⟨(by show _ ≤ 601024; omega), (by show _ ≤ 7293033; omega)⟩) hD hS hA (fun H locs hP hD hS => ?_)
      have hP : va_P z.1 vwCl (lww z A B o SC_89 SQ SO) H := hP
      have hD : va_D A0 (lww z A B o SC_89 SQ SO) := hD
      refine lv_aload_n hx hb d_L_law_446 rfl (lv_at hl 2 rfl) ?_
      refine lv_aload_n hx hb d_L_law_447 rfl (lv_at hl 0 rfl) ?_
      refine lv_iload hx hb d_L_law_448 (lv_at hl 4 rfl) ?_
      refine lv_iconst (v := 1) hx hb d_L_law_450 (by decide) ?_
      refine lv_iadd hx hb d_L_law_451 ?_
      obtain ⟨c_90, h⟩ := zz_oob h
      refine va_sld hx hb hX hbl hbA hS c_90 d_L_law_452 ?_
      refine lv_aload_n hx hb d_L_law_453 rfl (lv_at hl 0 rfl) ?_
      refine lv_iload hx hb d_L_law_454 (lv_at hl 4 rfl) ?_
      refine lv_iconst (v := 2) hx hb d_L_law_456 (by decide) ?_
      refine lv_iadd hx hb d_L_law_457 ?_
      obtain ⟨c_91, h⟩ := zz_oob h
      refine va_sld hx hb hX hbl hbA hS c_91 d_L_law_458 ?_
      refine lv_aload_n hx hb d_L_law_459 rfl (lv_at hl 0 rfl) ?_
      refine lv_iload hx hb d_L_law_460 (lv_at hl 4 rfl) ?_
      refine lv_iconst (v := 3) hx hb d_L_law_462 (by decide) ?_
      refine lv_iadd hx hb d_L_law_463 ?_
      obtain ⟨c_92, h⟩ := zz_oob h
      refine va_sld hx hb hX hbl hbA hS c_92 d_L_law_464 ?_
      obtain ⟨r_93, SQ_93, e_93, h⟩ := zz_bind h
      replace hP := lw_toQ hP
      replace hD := lw_toQd hD
      refine zz_goI (zz_runV (As := [.int (xs (v4 + (1 : Int32)).toNatClampNeg), .int (xs (v4 + (2 : Int32)).toNatClampNeg), .int (xs (v4 + (3 : Int32)).toNatClampNeg)]) (rest := [.int r_89]) (k_Q_meant l z B (cw z A SC_89 ++ [(o, .inl (zL z, 1, .inr (.inl SO)))]) n _ _ _ _ _ _ e_93) ⟨hx, hb, hml, hown, hts⟩ (cwV 3 hts (zz_gV wq_692 wq_693 wq_694 wq_6 wq_695) rfl rfl rfl (by decide +kernel) ⟨Nat.le_of_ble_eq_true rfl, Nat.le_of_ble_eq_true rfl⟩) hK hN hP hD (va_recv hK hP (ci := 5) (q0 := 0) rfl rfl) rfl hl.1 rfl (Nat.le_of_ble_eq_true rfl) d_L_law_465 ⟨(by show _ ≤ 601024; omega), (by show _ ≤ 7293033; omega)⟩) hD hS hA (fun H locs hP hD hS => ?_)
      replace hP := lw_ofQ hP
      replace hD := lw_ofQd hD
      have hP : va_P z.1 vwCl (lww z A B o SC_89 SQ_93 SO) H := hP
      have hD : va_D A0 (lww z A B o SC_89 SQ_93 SO) := hD
      refine lv_icmp_eq (tgt := 696) hx hb d_L_law_468 (by decide) (fun c_94 => ?_) (fun c_94 => ?_)
      · replace h := zz_t c_94 h
        refine lv_iinc (v := (v4 + (7 : Int32))) (lv' := [(4, .int (v4 + (7 : Int32))), (0, .ref b), (1, .ref (A 0)), (2, .ref (B 0)), (3, .ref o)]) hx hb d_L_law_696 hl (k := 4) rfl rfl (by decide) rfl (fun ls hl => ?_)
        refine lv_goto (tgt := 23) hx hb d_L_law_699 (by decide) ?_
        exact W.widen (by show _ ≤ 76 + ((v4 + (7 : Int32))).toNatClampNeg; rw [hv7]; omega) (by show _ ≤ 5507 + 6 * ((v4 + (7 : Int32))).toNatClampNeg; rw [hv7]; omega) (hG _ (Option.some.inj h).symm _ _ _ hP hD hS (lv_sub hl [1, 2, 3, 4, 0] rfl))
      · replace h := zz_f c_94 h
        cases h
    replace h := zz_f c_85 h
    by_cases c_95 : ((xs v4.toNatClampNeg) &&& (15 : Int32)) = (6 : Int32)
    · replace h := zz_t c_95 h
      refine lv_tableIn (tgt := 473) hx hb d_L_law_40 (by rw [c_95]; decide) (by rw [c_95]; decide) (by rw [c_95]; rfl) (by decide) ?_
      refine lv_aload_n hx hb d_L_law_473 rfl (lv_at hl 1 rfl) ?_
      refine lv_aload_n hx hb d_L_law_474 rfl (lv_at hl 0 rfl) ?_
      refine lv_iload hx hb d_L_law_475 (lv_at hl 4 rfl) ?_
      refine lv_iconst (v := 1) hx hb d_L_law_477 (by decide) ?_
      refine lv_iadd hx hb d_L_law_478 ?_
      obtain ⟨c_96, h⟩ := zz_oob h
      refine va_sld hx hb hX hbl hbA hS c_96 d_L_law_479 ?_
      refine lv_aload_n hx hb d_L_law_480 rfl (lv_at hl 0 rfl) ?_
      refine lv_iload hx hb d_L_law_481 (lv_at hl 4 rfl) ?_
      refine lv_iconst (v := 2) hx hb d_L_law_483 (by decide) ?_
      refine lv_iadd hx hb d_L_law_484 ?_
      obtain ⟨c_97, h⟩ := zz_oob h
      refine va_sld hx hb hX hbl hbA hS c_97 d_L_law_485 ?_
      refine lv_aload_n hx hb d_L_law_486 rfl (lv_at hl 0 rfl) ?_
      refine lv_iload hx hb d_L_law_487 (lv_at hl 4 rfl) ?_
      refine lv_iconst (v := 3) hx hb d_L_law_489 (by decide) ?_
      refine lv_iadd hx hb d_L_law_490 ?_
      obtain ⟨c_98, h⟩ := zz_oob h
      refine va_sld hx hb hX hbl hbA hS c_98 d_L_law_491 ?_
      refine lv_aload_n hx hb d_L_law_492 rfl (lv_at hl 0 rfl) ?_
      refine lv_iload hx hb d_L_law_493 (lv_at hl 4 rfl) ?_
      refine lv_iconst (v := 4) hx hb d_L_law_495 (by decide) ?_
      refine lv_iadd hx hb d_L_law_496 ?_
      obtain ⟨c_99, h⟩ := zz_oob h
      refine va_sld hx hb hX hbl hbA hS c_99 d_L_law_497 ?_
      refine lv_i2l (v := (xs (v4 + (4 : Int32)).toNatClampNeg).toInt64) hx hb d_L_law_498 rfl ?_
      refine lv_bipush (v := 32) hx hb d_L_law_499 (by decide) ?_
      refine lv_lshl (v := ((xs (v4 + (4 : Int32)).toNatClampNeg).toInt64 <<< ((32 : Int32).toInt64 &&& 63))) hx hb d_L_law_501 rfl ?_
      refine lv_aload_n hx hb d_L_law_502 rfl (lv_at hl 0 rfl) ?_
      refine lv_iload hx hb d_L_law_503 (lv_at hl 4 rfl) ?_
      refine lv_iconst (v := 5) hx hb d_L_law_505 (by decide) ?_
      refine lv_iadd hx hb d_L_law_506 ?_
      obtain ⟨c_100, h⟩ := zz_oob h
      refine va_sld hx hb hX hbl hbA hS c_100 d_L_law_507 ?_
      refine lv_i2l (v := (xs (v4 + (5 : Int32)).toNatClampNeg).toInt64) hx hb d_L_law_508 rfl ?_
      refine lv_ldc2 (own := R_L) (v := 4294967295) hx hb hown (hts _ wq_756) d_L_law_509 ?_
      refine lv_land hx hb d_L_law_512 ?_
      refine lv_lor hx hb d_L_law_513 ?_
      refine lv_aload_n hx hb d_L_law_514 rfl (lv_at hl 3 rfl) ?_
      obtain ⟨r_101, SC_101, SO_101, e_101, h⟩ := zz_bL3x h
      refine zz_goN (v := some (.int r_101)) (zz_runSW (n := 6) (As := [.ref (A 0), .int (xs (v4 + (1 : Int32)).toNatClampNeg), .int (xs (v4 + (2 : Int32)).toNatClampNeg), .int (xs (v4 + (3 : Int32)).toNatClampNeg), .long (((xs (v4 + (4 : Int32)).toNatClampNeg).toInt64 <<< ((32 : Int32).toInt64 &&& 63)) ||| ((xs (v4 + (5 : Int32)).toNatClampNeg).toInt64 &&& (4294967295 : Int64))), .ref o]) (rest := []) (k_L_call l hl0 z A o (qw z B SQ) n _ _ _ _ _ _ _ _ _ e_101) ⟨hx, hb, hml, hown, hts⟩ wq_436 wq_434 wq_435 wq_0 (by decide +kernel) rfl rfl ⟨Nat.le_of_ble_eq_true rfl, Nat.le_of_ble_eq_true rfl⟩ (zz_preX hK hN hSt hTh hP hD hS hA rfl) rfl hl.1 rfl (Nat.le_of_ble_eq_true rfl) d_L_law_515 ⟨(by show _ ≤ 601024; omega), (by show _ ≤ 7293033; omega)⟩) hD hS hA (fun H locs hP hD hS => ?_)
      have hP : va_P z.1 vwCl (lww z A B o SC_101 SQ SO_101) H := hP
      have hD : va_D A0 (lww z A B o SC_101 SQ SO_101) := hD
      refine lv_istore (lv' := [(5, .int r_101), (0, .ref b), (1, .ref (A 0)), (2, .ref (B 0)), (3, .ref o), (4, .int v4)]) hx hb d_L_law_518 hl (by decide) rfl (fun ls hl => ?_)
      refine lv_aload_n hx hb d_L_law_520 rfl (lv_at hl 3 rfl) ?_
      refine lv_aload_n hx hb d_L_law_521 rfl (lv_at hl 1 rfl) ?_
      refine lv_iload hx hb d_L_law_522 (lv_at hl 5 rfl) ?_
      refine lv_iconst (v := 1) hx hb d_L_law_524 (by decide) ?_
      refine lv_iadd hx hb d_L_law_525 ?_
      obtain ⟨c_102, h⟩ := zz_oob h
      refine va_sld hx hb hX hbl hbA hS c_102 d_L_law_526 ?_
      refine lv_aload_n hx hb d_L_law_527 rfl (lv_at hl 1 rfl) ?_
      refine lv_iload hx hb d_L_law_528 (lv_at hl 5 rfl) ?_
      refine lv_iconst (v := 2) hx hb d_L_law_530 (by decide) ?_
      refine lv_iadd hx hb d_L_law_531 ?_
      obtain ⟨c_103, h⟩ := zz_oob h
      refine va_sld hx hb hX hbl hbA hS c_103 d_L_law_532 ?_
      refine lv_aload_n hx hb d_L_law_533 rfl (lv_at hl 1 rfl) ?_
      refine lv_iload hx hb d_L_law_534 (lv_at hl 5 rfl) ?_
      refine lv_iconst (v := 3) hx hb d_L_law_536 (by decide) ?_
      refine lv_iadd hx hb d_L_law_537 ?_
      obtain ⟨c_104, h⟩ := zz_oob h
      refine va_sld hx hb hX hbl hbA hS c_104 d_L_law_538 ?_
      refine lv_aload_n hx hb d_L_law_539 rfl (lv_at hl 1 rfl) ?_
      refine lv_iload hx hb d_L_law_540 (lv_at hl 5 rfl) ?_
      refine lv_iconst (v := 4) hx hb d_L_law_542 (by decide) ?_
      refine lv_iadd hx hb d_L_law_543 ?_
      obtain ⟨c_105, h⟩ := zz_oob h
      refine va_sld hx hb hX hbl hbA hS c_105 d_L_law_544 ?_
      refine lv_i2l (v := (xs (v4 + (4 : Int32)).toNatClampNeg).toInt64) hx hb d_L_law_545 rfl ?_
      refine lv_bipush (v := 32) hx hb d_L_law_546 (by decide) ?_
      refine lv_lshl (v := ((xs (v4 + (4 : Int32)).toNatClampNeg).toInt64 <<< ((32 : Int32).toInt64 &&& 63))) hx hb d_L_law_548 rfl ?_
      refine lv_aload_n hx hb d_L_law_549 rfl (lv_at hl 1 rfl) ?_
      refine lv_iload hx hb d_L_law_550 (lv_at hl 5 rfl) ?_
      refine lv_iconst (v := 5) hx hb d_L_law_552 (by decide) ?_
      refine lv_iadd hx hb d_L_law_553 ?_
      obtain ⟨c_106, h⟩ := zz_oob h
      refine va_sld hx hb hX hbl hbA hS c_106 d_L_law_554 ?_
      refine lv_i2l (v := (xs (v4 + (5 : Int32)).toNatClampNeg).toInt64) hx hb d_L_law_555 rfl ?_
      refine lv_ldc2 (own := R_L) (v := 4294967295) hx hb hown (hts _ wq_756) d_L_law_556 ?_
      refine lv_land hx hb d_L_law_559 ?_
      refine lv_lor hx hb d_L_law_560 ?_
      obtain ⟨r_107, SQ_107, e_107, h⟩ := zz_bind h
      replace hP := lw_toQ hP
      replace hD := lw_toQd hD
      refine zz_goI (zz_runV (As := [.int (xs (v4 + (1 : Int32)).toNatClampNeg), .int (xs (v4 + (2 : Int32)).toNatClampNeg), .int (xs (v4 + (3 : Int32)).toNatClampNeg), .long (((xs (v4 + (4 : Int32)).toNatClampNeg).toInt64 <<< ((32 : Int32).toInt64 &&& 63)) ||| ((xs (v4 + (5 : Int32)).toNatClampNeg).toInt64 &&& (4294967295 : Int64)))]) (rest := []) (k_Q_call l z B (cw z A SC_101 ++ [(o, .inl (zL z, 1, .inr (.inl SO_101)))]) n _ _ _ _ _ _ _ e_107) ⟨hx, hb, hml, hown, hts⟩ (cwV 4 hts (zz_gV wq_716 wq_717 wq_718 wq_6 wq_719) rfl rfl rfl (by decide +kernel) ⟨Nat.le_of_ble_eq_true rfl, Nat.le_of_ble_eq_true rfl⟩) hK hN hP hD (va_recv hK hP (ci := 5) (q0 := 0) rfl rfl) rfl hl.1 rfl (Nat.le_of_ble_eq_true rfl) d_L_law_561 ⟨(by show _ ≤ 601024; omega), (by show _ ≤ 7293033; omega)⟩) hD hS hA (fun H locs hP hD hS => ?_)
      replace hP := lw_ofQ hP
      replace hD := lw_ofQd hD
      have hP : va_P z.1 vwCl (lww z A B o SC_101 SQ_107 SO_101) H := hP
      have hD : va_D A0 (lww z A B o SC_101 SQ_107 SO_101) := hD
      refine lv_istore (lv' := [(6, .int r_107), (5, .int r_101), (0, .ref b), (1, .ref (A 0)), (2, .ref (B 0)), (3, .ref o), (4, .int v4)]) hx hb d_L_law_564 hl (by decide) rfl (fun ls hl => ?_)
      refine lv_aload_n hx hb d_L_law_566 rfl (lv_at hl 4 rfl) ?_
      obtain ⟨r_108, SQ_108, e_108, h⟩ := zz_bind h
      replace hP := lw_toQ hP
      replace hD := lw_toQd hD
      refine zz_goI (zz_runV (As := []) (rest := []) (k_Q_thrown l z B (cw z A SC_101 ++ [(o, .inl (zL z, 1, .inr (.inl SO_101)))]) n _ _ _ e_108) ⟨hx, hb, hml, hown, hts⟩ (cwV 0 hts (zz_gV wq_636 wq_637 wq_638 wq_6 wq_639) rfl rfl rfl (by decide +kernel) ⟨Nat.le_of_ble_eq_true rfl, Nat.le_of_ble_eq_true rfl⟩) hK hN hP hD (va_recv hK hP (ci := 5) (q0 := 0) rfl rfl) rfl hl.1 rfl (Nat.le_of_ble_eq_true rfl) d_L_law_567 ⟨(by show _ ≤ 601024; omega), (by show _ ≤ 7293033; omega)⟩) hD hS hA (fun H locs hP hD hS => ?_)
      replace hP := lw_ofQ hP
      replace hD := lw_ofQd hD
      have hP : va_P z.1 vwCl (lww z A B o SC_101 SQ_108 SO_101) H := hP
      have hD : va_D A0 (lww z A B o SC_101 SQ_108 SO_101) := hD
      refine lv_iload hx hb d_L_law_570 (lv_at hl 1 rfl) ?_
      refine lv_icmp_eq (tgt := 577) hx hb d_L_law_572 (by decide) (fun c_109 => ?_) (fun c_109 => ?_)
      · replace h := zz_t c_109 h
        refine lv_iload hx hb d_L_law_577 (lv_at hl 1 rfl) ?_
        refine lv_if_ne (tgt := 594) hx hb d_L_law_579 (by decide) (fun c_110 => ?_) (fun c_110 => ?_)
        · replace h := zz_f c_110 h
          refine lv_goto (tgt := 696) hx hb d_L_law_594 (by decide) ?_
          refine lv_iinc (v := (v4 + (7 : Int32))) (lv' := [(4, .int (v4 + (7 : Int32))), (6, .int r_107), (5, .int r_101), (0, .ref b), (1, .ref (A 0)), (2, .ref (B 0)), (3, .ref o)]) hx hb d_L_law_696 hl (k := 6) rfl rfl (by decide) rfl (fun ls hl => ?_)
          refine lv_goto (tgt := 23) hx hb d_L_law_699 (by decide) ?_
          exact W.widen (by show _ ≤ 76 + ((v4 + (7 : Int32))).toNatClampNeg; rw [hv7]; omega) (by show _ ≤ 5507 + 6 * ((v4 + (7 : Int32))).toNatClampNeg; rw [hv7]; omega) (hG _ (Option.some.inj h).symm _ _ _ hP hD hS (lv_sub hl [3, 4, 5, 6, 0] rfl))
        · replace h := zz_t c_110 h
          refine lv_aload_n hx hb d_L_law_582 rfl (lv_at hl 5 rfl) ?_
          refine lv_iconst (v := 0) hx hb d_L_law_583 (by decide) ?_
          refine va_lald hx hb hK (zz_s3P hP) 0 2 rfl rfl (show ¬ ((0 : Int32) < 0 ∨ 1 ≤ (0 : Int32).toNatClampNeg) by decide) d_L_law_584 ?_
          refine lv_iload hx hb d_L_law_585 (lv_at hl 0 rfl) ?_
          refine lv_i2l (v := r_107.toInt64) hx hb d_L_law_587 rfl ?_
          refine W.lcmp hx hb d_L_law_588 ?_
          refine lv_if_eq (tgt := 594) hx hb d_L_law_589 (by decide) (fun c_112 => ?_) (fun c_112 => ?_)
          · replace h := zz_t c_112 h
            refine lv_goto (tgt := 696) hx hb d_L_law_594 (by decide) ?_
            refine lv_iinc (v := (v4 + (7 : Int32))) (lv' := [(4, .int (v4 + (7 : Int32))), (6, .int r_107), (5, .int r_101), (0, .ref b), (1, .ref (A 0)), (2, .ref (B 0)), (3, .ref o)]) hx hb d_L_law_696 hl (k := 6) rfl rfl (by decide) rfl (fun ls hl => ?_)
            refine lv_goto (tgt := 23) hx hb d_L_law_699 (by decide) ?_
            exact W.widen (by show _ ≤ 76 + ((v4 + (7 : Int32))).toNatClampNeg; rw [hv7]; omega) (by show _ ≤ 5507 + 6 * ((v4 + (7 : Int32))).toNatClampNeg; rw [hv7]; omega) (hG _ (Option.some.inj h).symm _ _ _ hP hD hS (lv_sub hl [3, 4, 5, 6, 0] rfl))
          · replace h := zz_f c_112 h
            cases h
      · replace h := zz_f c_109 h
        cases h
    replace h := zz_f c_95 h
    by_cases c_113 : ((xs v4.toNatClampNeg) &&& (15 : Int32)) = (7 : Int32)
    · replace h := zz_t c_113 h
      refine lv_tableIn (tgt := 597) hx hb d_L_law_40 (by rw [c_113]; decide) (by rw [c_113]; decide) (by rw [c_113]; rfl) (by decide) ?_
      refine lv_aload_n hx hb d_L_law_597 rfl (lv_at hl 1 rfl) ?_
      refine lv_aload_n hx hb d_L_law_598 rfl (lv_at hl 0 rfl) ?_
      refine lv_iload hx hb d_L_law_599 (lv_at hl 4 rfl) ?_
      refine lv_iconst (v := 1) hx hb d_L_law_601 (by decide) ?_
      refine lv_iadd hx hb d_L_law_602 ?_
      obtain ⟨c_114, h⟩ := zz_oob h
      refine va_sld hx hb hX hbl hbA hS c_114 d_L_law_603 ?_
      refine lv_aload_n hx hb d_L_law_604 rfl (lv_at hl 0 rfl) ?_
      refine lv_iload hx hb d_L_law_605 (lv_at hl 4 rfl) ?_
      refine lv_iconst (v := 2) hx hb d_L_law_607 (by decide) ?_
      refine lv_iadd hx hb d_L_law_608 ?_
      obtain ⟨c_115, h⟩ := zz_oob h
      refine va_sld hx hb hX hbl hbA hS c_115 d_L_law_609 ?_
      obtain ⟨r_116, SC_116, e_116, h⟩ := zz_bind h
      refine zz_goI (zz_runV (As := [.int (xs (v4 + (1 : Int32)).toNatClampNeg), .int (xs (v4 + (2 : Int32)).toNatClampNeg)]) (rest := []) (k_X_look l z A ([(o, .inl (zL z, 1, .inr (.inl SO)))] ++ qw z B SQ) n _ _ _ _ _ e_116) ⟨hx, hb, hml, hown, hts⟩ (cwV 2 hts (zz_gV wq_247 wq_248 wq_249 wq_1 wq_250) rfl rfl rfl (by decide +kernel) ⟨Nat.le_of_ble_eq_true rfl, Nat.le_of_ble_eq_true rfl⟩) hK hN hP hD (va_recv hK hP (ci := 0) (q0 := 0) rfl rfl) rfl hl.1 rfl (Nat.le_of_ble_eq_true rfl) d_L_law_610 ⟨(by show _ ≤ 601024; omega), (by show _ ≤ 7293033; omega)⟩) hD hS hA (fun H locs hP hD hS => ?_)
      have hP : va_P z.1 vwCl (lww z A B o SC_116 SQ SO) H := hP
      have hD : va_D A0 (lww z A B o SC_116 SQ SO) := hD
      refine lv_aload_n hx hb d_L_law_613 rfl (lv_at hl 2 rfl) ?_
      refine lv_aload_n hx hb d_L_law_614 rfl (lv_at hl 0 rfl) ?_
      refine lv_iload hx hb d_L_law_615 (lv_at hl 4 rfl) ?_
      refine lv_iconst (v := 1) hx hb d_L_law_617 (by decide) ?_
      refine lv_iadd hx hb d_L_law_618 ?_
      obtain ⟨c_117, h⟩ := zz_oob h
      refine va_sld hx hb hX hbl hbA hS c_117 d_L_law_619 ?_
      refine lv_aload_n hx hb d_L_law_620 rfl (lv_at hl 0 rfl) ?_
      refine lv_iload hx hb d_L_law_621 (lv_at hl 4 rfl) ?_
      refine lv_iconst (v := 2) hx hb d_L_law_623 (by decide) ?_
      refine lv_iadd hx hb d_L_law_624 ?_
      obtain ⟨c_118, h⟩ := zz_oob h
      refine va_sld hx hb hX hbl hbA hS c_118 d_L_law_625 ?_
      obtain ⟨r_119, SQ_119, e_119, h⟩ := zz_bind h
      replace hP := lw_toQ hP
      replace hD := lw_toQd hD
      refine zz_goI (zz_runV (As := [.int (xs (v4 + (1 : Int32)).toNatClampNeg), .int (xs (v4 + (2 : Int32)).toNatClampNeg)]) (rest := [.int r_116]) (k_Q_look l z B (cw z A SC_116 ++ [(o, .inl (zL z, 1, .inr (.inl SO)))]) n _ _ _ _ _ e_119) ⟨hx, hb, hml, hown, hts⟩ (cwV 2 hts (zz_gV wq_744 wq_745 wq_746 wq_6 wq_747) rfl rfl rfl (by decide +kernel) ⟨Nat.le_of_ble_eq_true rfl, Nat.le_of_ble_eq_true rfl⟩) hK hN hP hD (va_recv hK hP (ci := 5) (q0 := 0) rfl rfl) rfl hl.1 rfl (Nat.le_of_ble_eq_true rfl) d_L_law_626 ⟨(by show _ ≤ 601024; omega), (by show _ ≤ 7293033; omega)⟩) hD hS hA (fun H locs hP hD hS => ?_)
      replace hP := lw_ofQ hP
      replace hD := lw_ofQd hD
      have hP : va_P z.1 vwCl (lww z A B o SC_116 SQ_119 SO) H := hP
      have hD : va_D A0 (lww z A B o SC_116 SQ_119 SO) := hD
      refine lv_icmp_eq (tgt := 696) hx hb d_L_law_629 (by decide) (fun c_120 => ?_) (fun c_120 => ?_)
      · replace h := zz_t c_120 h
        refine lv_iinc (v := (v4 + (7 : Int32))) (lv' := [(4, .int (v4 + (7 : Int32))), (0, .ref b), (1, .ref (A 0)), (2, .ref (B 0)), (3, .ref o)]) hx hb d_L_law_696 hl (k := 4) rfl rfl (by decide) rfl (fun ls hl => ?_)
        refine lv_goto (tgt := 23) hx hb d_L_law_699 (by decide) ?_
        exact W.widen (by show _ ≤ 76 + ((v4 + (7 : Int32))).toNatClampNeg; rw [hv7]; omega) (by show _ ≤ 5507 + 6 * ((v4 + (7 : Int32))).toNatClampNeg; rw [hv7]; omega) (hG _ (Option.some.inj h).symm _ _ _ hP hD hS (lv_sub hl [1, 2, 3, 4, 0] rfl))
      · replace h := zz_f c_120 h
        cases h
    replace h := zz_f c_113 h
    by_cases c_121 : ((xs v4.toNatClampNeg) &&& (15 : Int32)) = (8 : Int32)
    · replace h := zz_t c_121 h
      refine lv_tableIn (tgt := 634) hx hb d_L_law_40 (by rw [c_121]; decide) (by rw [c_121]; decide) (by rw [c_121]; rfl) (by decide) ?_
      refine lv_aload_n hx hb d_L_law_634 rfl (lv_at hl 1 rfl) ?_
      refine lv_aload_n hx hb d_L_law_635 rfl (lv_at hl 0 rfl) ?_
      refine lv_iload hx hb d_L_law_636 (lv_at hl 4 rfl) ?_
      refine lv_iconst (v := 1) hx hb d_L_law_638 (by decide) ?_
      refine lv_iadd hx hb d_L_law_639 ?_
      obtain ⟨c_122, h⟩ := zz_oob h
      refine va_sld hx hb hX hbl hbA hS c_122 d_L_law_640 ?_
      refine lv_aload_n hx hb d_L_law_641 rfl (lv_at hl 0 rfl) ?_
      refine lv_iload hx hb d_L_law_642 (lv_at hl 4 rfl) ?_
      refine lv_iconst (v := 2) hx hb d_L_law_644 (by decide) ?_
      refine lv_iadd hx hb d_L_law_645 ?_
      obtain ⟨c_123, h⟩ := zz_oob h
      refine va_sld hx hb hX hbl hbA hS c_123 d_L_law_646 ?_
      obtain ⟨r_124, SC_124, e_124, h⟩ := zz_bind h
      refine zz_goI (zz_runV (As := [.int (xs (v4 + (1 : Int32)).toNatClampNeg), .int (xs (v4 + (2 : Int32)).toNatClampNeg)]) (rest := []) (k_X_above l z A ([(o, .inl (zL z, 1, .inr (.inl SO)))] ++ qw z B SQ) n _ _ _ _ _ e_124) ⟨hx, hb, hml, hown, hts⟩ (cwV 2 hts (zz_gV wq_259 wq_260 wq_261 wq_1 wq_262) rfl rfl rfl (by decide +kernel) ⟨Nat.le_of_ble_eq_true rfl, Nat.le_of_ble_eq_true rfl⟩) hK hN hP hD (va_recv hK hP (ci := 0) (q0 := 0) rfl rfl) rfl hl.1 rfl (Nat.le_of_ble_eq_true rfl) d_L_law_647 ⟨(by show _ ≤ 601024; omega), (by show _ ≤ 7293033; omega)⟩) hD hS hA (fun H locs hP hD hS => ?_)
      have hP : va_P z.1 vwCl (lww z A B o SC_124 SQ SO) H := hP
      have hD : va_D A0 (lww z A B o SC_124 SQ SO) := hD
      refine lv_aload_n hx hb d_L_law_650 rfl (lv_at hl 2 rfl) ?_
      refine lv_aload_n hx hb d_L_law_651 rfl (lv_at hl 0 rfl) ?_
      refine lv_iload hx hb d_L_law_652 (lv_at hl 4 rfl) ?_
      refine lv_iconst (v := 1) hx hb d_L_law_654 (by decide) ?_
      refine lv_iadd hx hb d_L_law_655 ?_
      obtain ⟨c_125, h⟩ := zz_oob h
      refine va_sld hx hb hX hbl hbA hS c_125 d_L_law_656 ?_
      refine lv_aload_n hx hb d_L_law_657 rfl (lv_at hl 0 rfl) ?_
      refine lv_iload hx hb d_L_law_658 (lv_at hl 4 rfl) ?_
      refine lv_iconst (v := 2) hx hb d_L_law_660 (by decide) ?_
      refine lv_iadd hx hb d_L_law_661 ?_
      obtain ⟨c_126, h⟩ := zz_oob h
      refine va_sld hx hb hX hbl hbA hS c_126 d_L_law_662 ?_
      obtain ⟨r_127, SQ_127, e_127, h⟩ := zz_bind h
      replace hP := lw_toQ hP
      replace hD := lw_toQd hD
      refine zz_goI (zz_runV (As := [.int (xs (v4 + (1 : Int32)).toNatClampNeg), .int (xs (v4 + (2 : Int32)).toNatClampNeg)]) (rest := [.int r_124]) (k_Q_above l z B (cw z A SC_124 ++ [(o, .inl (zL z, 1, .inr (.inl SO)))]) n _ _ _ _ _ e_127) ⟨hx, hb, hml, hown, hts⟩ (cwV 2 hts (zz_gV wq_748 wq_749 wq_750 wq_6 wq_751) rfl rfl rfl (by decide +kernel) ⟨Nat.le_of_ble_eq_true rfl, Nat.le_of_ble_eq_true rfl⟩) hK hN hP hD (va_recv hK hP (ci := 5) (q0 := 0) rfl rfl) rfl hl.1 rfl (Nat.le_of_ble_eq_true rfl) d_L_law_663 ⟨(by show _ ≤ 601024; omega), (by show _ ≤ 7293033; omega)⟩) hD hS hA (fun H locs hP hD hS => ?_)
      replace hP := lw_ofQ hP
      replace hD := lw_ofQd hD
      have hP : va_P z.1 vwCl (lww z A B o SC_124 SQ_127 SO) H := hP
      have hD : va_D A0 (lww z A B o SC_124 SQ_127 SO) := hD
      refine lv_icmp_eq (tgt := 696) hx hb d_L_law_666 (by decide) (fun c_128 => ?_) (fun c_128 => ?_)
      · replace h := zz_t c_128 h
        refine lv_iinc (v := (v4 + (7 : Int32))) (lv' := [(4, .int (v4 + (7 : Int32))), (0, .ref b), (1, .ref (A 0)), (2, .ref (B 0)), (3, .ref o)]) hx hb d_L_law_696 hl (k := 4) rfl rfl (by decide) rfl (fun ls hl => ?_)
        refine lv_goto (tgt := 23) hx hb d_L_law_699 (by decide) ?_
        exact W.widen (by show _ ≤ 76 + ((v4 + (7 : Int32))).toNatClampNeg; rw [hv7]; omega) (by show _ ≤ 5507 + 6 * ((v4 + (7 : Int32))).toNatClampNeg; rw [hv7]; omega) (hG _ (Option.some.inj h).symm _ _ _ hP hD hS (lv_sub hl [1, 2, 3, 4, 0] rfl))
      · replace h := zz_f c_128 h
        cases h
    replace h := zz_f c_121 h
    by_cases c_129 : ((xs v4.toNatClampNeg) &&& (15 : Int32)) = (9 : Int32)
    · replace h := zz_t c_129 h
      refine lv_tableIn (tgt := 671) hx hb d_L_law_40 (by rw [c_129]; decide) (by rw [c_129]; decide) (by rw [c_129]; rfl) (by decide) ?_
      refine lv_aload_n hx hb d_L_law_671 rfl (lv_at hl 1 rfl) ?_
      refine lv_aload_n hx hb d_L_law_672 rfl (lv_at hl 0 rfl) ?_
      refine lv_iload hx hb d_L_law_673 (lv_at hl 4 rfl) ?_
      refine lv_iconst (v := 1) hx hb d_L_law_675 (by decide) ?_
      refine lv_iadd hx hb d_L_law_676 ?_
      obtain ⟨c_130, h⟩ := zz_oob h
      refine va_sld hx hb hX hbl hbA hS c_130 d_L_law_677 ?_
      obtain ⟨r_131, SC_131, e_131, h⟩ := zz_bind h
      refine zz_goI (zz_runV (As := [.int (xs (v4 + (1 : Int32)).toNatClampNeg)]) (rest := []) (k_X_count l z A ([(o, .inl (zL z, 1, .inr (.inl SO)))] ++ qw z B SQ) n _ _ _ _ e_131) ⟨hx, hb, hml, hown, hts⟩ (cwV 1 hts (zz_gV wq_273 wq_274 wq_275 wq_1 wq_276) rfl rfl rfl (by decide +kernel) ⟨Nat.le_of_ble_eq_true rfl, Nat.le_of_ble_eq_true rfl⟩) hK hN hP hD (va_recv hK hP (ci := 0) (q0 := 0) rfl rfl) rfl hl.1 rfl (Nat.le_of_ble_eq_true rfl) d_L_law_678 ⟨(by show _ ≤ 601024; omega), (by show _ ≤ 7293033; omega)⟩) hD hS hA (fun H locs hP hD hS => ?_)
      have hP : va_P z.1 vwCl (lww z A B o SC_131 SQ SO) H := hP
      have hD : va_D A0 (lww z A B o SC_131 SQ SO) := hD
      refine lv_aload_n hx hb d_L_law_681 rfl (lv_at hl 2 rfl) ?_
      refine lv_aload_n hx hb d_L_law_682 rfl (lv_at hl 0 rfl) ?_
      refine lv_iload hx hb d_L_law_683 (lv_at hl 4 rfl) ?_
      refine lv_iconst (v := 1) hx hb d_L_law_685 (by decide) ?_
      refine lv_iadd hx hb d_L_law_686 ?_
      obtain ⟨c_132, h⟩ := zz_oob h
      refine va_sld hx hb hX hbl hbA hS c_132 d_L_law_687 ?_
      obtain ⟨r_133, SQ_133, e_133, h⟩ := zz_bind h
      replace hP := lw_toQ hP
      replace hD := lw_toQd hD
      refine zz_goI (zz_runV (As := [.int (xs (v4 + (1 : Int32)).toNatClampNeg)]) (rest := [.int r_131]) (k_Q_count l z B (cw z A SC_131 ++ [(o, .inl (zL z, 1, .inr (.inl SO)))]) n _ _ _ _ e_133) ⟨hx, hb, hml, hown, hts⟩ (cwV 1 hts (zz_gV wq_752 wq_753 wq_754 wq_6 wq_755) rfl rfl rfl (by decide +kernel) ⟨Nat.le_of_ble_eq_true rfl, Nat.le_of_ble_eq_true rfl⟩) hK hN hP hD (va_recv hK hP (ci := 5) (q0 := 0) rfl rfl) rfl hl.1 rfl (Nat.le_of_ble_eq_true rfl) d_L_law_688 ⟨(by show _ ≤ 601024; omega), (by show _ ≤ 7293033; omega)⟩) hD hS hA (fun H locs hP hD hS => ?_)
      replace hP := lw_ofQ hP
      replace hD := lw_ofQd hD
      have hP : va_P z.1 vwCl (lww z A B o SC_131 SQ_133 SO) H := hP
      have hD : va_D A0 (lww z A B o SC_131 SQ_133 SO) := hD
      refine lv_icmp_eq (tgt := 696) hx hb d_L_law_691 (by decide) (fun c_134 => ?_) (fun c_134 => ?_)
      · replace h := zz_t c_134 h
        refine lv_iinc (v := (v4 + (7 : Int32))) (lv' := [(4, .int (v4 + (7 : Int32))), (0, .ref b), (1, .ref (A 0)), (2, .ref (B 0)), (3, .ref o)]) hx hb d_L_law_696 hl (k := 4) rfl rfl (by decide) rfl (fun ls hl => ?_)
        refine lv_goto (tgt := 23) hx hb d_L_law_699 (by decide) ?_
        exact W.widen (by show _ ≤ 76 + ((v4 + (7 : Int32))).toNatClampNeg; rw [hv7]; omega) (by show _ ≤ 5507 + 6 * ((v4 + (7 : Int32))).toNatClampNeg; rw [hv7]; omega) (hG _ (Option.some.inj h).symm _ _ _ hP hD hS (lv_sub hl [1, 2, 3, 4, 0] rfl))
      · replace h := zz_f c_134 h
        cases h
    replace h := zz_f c_129 h
    refine lv_tableOut (tgt := 696) hx hb d_L_law_40 (by have qc_3 := zz_tne (a := 0) (by decide) c_3; have qc_13 := zz_tne (a := 1) (by decide) c_13; have qc_21 := zz_tne (a := 2) (by decide) c_21; have qc_29 := zz_tne (a := 3) (by decide) c_29; have qc_77 := zz_tne (a := 4) (by decide) c_77; have qc_85 := zz_tne (a := 5) (by decide) c_85; have qc_95 := zz_tne (a := 6) (by decide) c_95; have qc_113 := zz_tne (a := 7) (by decide) c_113; have qc_121 := zz_tne (a := 8) (by decide) c_121; have qc_129 := zz_tne (a := 9) (by decide) c_129; omega) (by decide) ?_
    refine lv_iinc (v := (v4 + (7 : Int32))) (lv' := [(4, .int (v4 + (7 : Int32))), (0, .ref b), (1, .ref (A 0)), (2, .ref (B 0)), (3, .ref o)]) hx hb d_L_law_696 hl (k := 4) rfl rfl (by decide) rfl (fun ls hl => ?_)
    refine lv_goto (tgt := 23) hx hb d_L_law_699 (by decide) ?_
    exact W.widen (by show _ ≤ 76 + ((v4 + (7 : Int32))).toNatClampNeg; rw [hv7]; omega) (by show _ ≤ 5507 + 6 * ((v4 + (7 : Int32))).toNatClampNeg; rw [hv7]; omega) (hG _ (Option.some.inj h).symm _ _ _ hP hD hS (lv_sub hl [1, 2, 3, 4, 0] rfl))

