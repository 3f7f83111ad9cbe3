/-! PURE ROWS: type, face, subtype, count -/
section
variable {n : Nat} {C : ZC} {Q : ZQ}
theorem zupdL_at (f : Nat → Int64) (i : Nat) (x : Int64) : vp_updL f i x i = x := by simp [vp_updL]
theorem zupdL_ne (f : Nat → Int64) {i j : Nat} (x : Int64) (h : j ≠ i) : vp_updL f i x j = f j := by simp [vp_updL, h]
theorem zcase_l {α β γ : Type} (a : α) (f : α → Option γ) (g : β → Option γ) : zcase (.inl a) f g = f a := rfl
theorem zcase_r {α β γ : Type} (b : β) (f : α → Option γ) (g : β → Option γ) : zcase (.inr b) f g = g b := rfl
theorem o_type (h : zR C Q) (O : Nat → Int64) (a : Int32) : ∃ C' O' b Q', fx_L_type n C O a = some (qTh Q', C', O') ∧ fx_Q_type n Q a = some (b, Q') ∧ zR C' Q' ∧ (qTh Q' = 0 → O' 0 = b.toInt64) := by
  obtain ⟨tn, mn, hT, hM, hK, hX⟩ := h
  have h24 : tn ≤ 24 := hT.2.2.1.1
  have hTT := hT.1
  have hQT := hT.2.1
  -- a good one above
  have good : (a = -1 ∨ ∃ j, a = nI j ∧ 8 ≤ j ∧ j < 8 + tn) → ∃ C' O' b Q', zbind (jx_X_type_26 n a C) (fun r S1 => zcase r (fun v => some ((0 : Int32), S1, vp_updL O 0 v.toInt64)) (fun E => if E = 1 then some ((1 : Int32), S1, O) else if E = 2 then some ((2 : Int32), S1, O) else none)) = some (qTh Q', C', O') ∧ jx_Q_type_27 n a Q = some (b, Q') ∧ zR C' Q' ∧ (qTh Q' = 0 → O' 0 = b.toInt64) := by
    intro ha
    unfold jx_X_type_26 jx_Q_type_27
    rw [c_isFull hTT h24, zbind_some, b2i_if0, hQT]
    by_cases ht : tn < 24
    · rw [decide_eq_false (by omega), if_neg (by decide), if_neg (by rw [nL32, nI_eq (by omega) (by omega)]; omega)]
      unfold jx_Q_type_41
      rw [zlet_eq, if_pos (show qTh (qTh' Q 0) ≤ 0 from Int32.le_refl _)]
      obtain ⟨C', Q', e1, e2, hR, hth⟩ := o_add (n := n) (C := C) (Q := qTh' Q 0) (b := 0) (a2 := a) (Or.inl rfl) ht ha hT hM hK hX
      rw [e1, e2, zbind_some, zbind_some, zbind_some, zcase_l]
      refine ⟨C', _, nI (8 + tn), Q', by rw [hth], rfl, hR, fun _ => zupdL_at _ _ _⟩
    · rw [decide_eq_true (by omega), if_pos rfl, if_pos (by rw [nL32, nI_eq (by omega) (by omega)]; omega)]
      unfold jx_Q_type_41
      rw [zlet_eq, if_neg (show ¬ qTh (qTh' Q 2) ≤ 0 from (by decide : ¬ (2 : Int32) ≤ 0)), zbind_some, zcase_r, if_neg (by decide), if_pos rfl]
      exact ⟨C, O, 0, qTh' Q 2, rfl, rfl, ⟨tn, mn, hT, hM, hK, hX⟩, fun q => absurd q (by decide : ¬ (2 : Int32) = 0)⟩
  have bad : ∃ C' O' b Q', (some ((1 : Int32), C, O) : Option (Int32 × ZC × (Nat → Int64))) = some (qTh Q', C', O') ∧ jx_Q_type_23 n a Q = some (b, Q') ∧ zR C' Q' ∧ (qTh Q' = 0 → O' 0 = b.toInt64) := by
    unfold jx_Q_type_23 jx_Q_type_41
    rw [zlet_eq, if_neg (show ¬ qTh (qTh' Q 1) ≤ 0 from (by decide : ¬ (1 : Int32) ≤ 0))]
    exact ⟨C, O, 0, qTh' Q 1, rfl, rfl, ⟨tn, mn, hT, hM, hK, hX⟩, fun q => absurd q (by decide : ¬ (1 : Int32) = 0)⟩
  unfold fx_L_type fx_X_type fx_Q_type
  by_cases ha : a = -1
  · rw [if_pos ha, if_pos ha]
    exact good (Or.inl ha)
  · rw [if_neg ha, if_neg ha, c_isToldClass hTT h24, q_isOwn hQT h24, zbind_some, zbind_some, b2i_if0, b2i_if0]
    rcases xO_cases tn a h24 with q | ⟨j, q1, q2, rfl⟩
    · rw [q, Bool.false_and, if_neg (by decide), if_neg (by decide), zbind_some, zcase_r, if_pos rfl]
      exact bad
    · have hz : ¬ zoob (nI j) 32 := by rw [zoob_nI (by omega)]; omega
      rw [xO_in h24 q1 q2, Bool.true_and, if_pos (c := true = true) rfl, if_neg hz, hT.2.2.2.1]
      by_cases hf : qIf Q (nI j).toNatClampNeg = 0
      · rw [decide_eq_true hf, if_pos rfl, if_pos hf]
        exact good (Or.inr ⟨j, rfl, q1, q2⟩)
      · rw [decide_eq_false hf, if_neg (by decide), if_neg hf, zbind_some, zcase_r, if_pos rfl]
        exact bad
theorem o_face (h : zR C Q) (O : Nat → Int64) : ∃ C' O' b Q', fx_L_face n C O = some (qTh Q', C', O') ∧ fx_Q_face n Q = some (b, Q') ∧ zR C' Q' ∧ (qTh Q' = 0 → O' 0 = b.toInt64) := by
  obtain ⟨tn, mn, hT, hM, hK, hX⟩ := h
  have h24 : tn ≤ 24 := hT.2.2.1.1
  unfold fx_L_face fx_X_face fx_Q_face
  rw [c_isFull hT.1 h24, zbind_some, b2i_if0, hT.2.1]
  by_cases ht : tn < 24
  · rw [decide_eq_false (by omega), if_neg (by decide), if_neg (by rw [nL32, nI_eq (by omega) (by omega)]; omega)]
    unfold jx_Q_face_15
    rw [zlet_eq, if_pos (show qTh (qTh' Q 0) ≤ 0 from Int32.le_refl _)]
    obtain ⟨C', Q', e1, e2, hR, hth⟩ := o_add (n := n) (C := C) (Q := qTh' Q 0) (b := 1) (a2 := -1) (Or.inr rfl) ht (Or.inl rfl) hT hM hK hX
    rw [e1, e2, zbind_some, zbind_some, zbind_some, zcase_l]
    exact ⟨C', _, nI (8 + tn), Q', by rw [hth], rfl, hR, fun _ => zupdL_at _ _ _⟩
  · rw [decide_eq_true (by omega), if_pos rfl, if_pos (by rw [nL32, nI_eq (by omega) (by omega)]; omega)]
    unfold jx_Q_face_15
    rw [zlet_eq, if_neg (show ¬ qTh (qTh' Q 1) ≤ 0 from (by decide : ¬ (1 : Int32) ≤ 0)), zbind_some, zcase_r, if_pos rfl]
    exact ⟨C, O, 0, qTh' Q 1, rfl, rfl, ⟨tn, mn, hT, hM, hK, hX⟩, fun q => absurd q (by decide : ¬ (1 : Int32) = 0)⟩
theorem zRT.io {tn : Nat} (h : zRT C Q tn) {f : Nat → Int32} (hf : ∀ u, f u = 0 ∨ f u = 1) : zRT C (qIo' Q f) tn := ⟨h.1, h.2.1, h.2.2.1, h.2.2.2.1, h.2.2.2.2.1, h.2.2.2.2.2.1, h.2.2.2.2.2.2.1, h.2.2.2.2.2.2.2.1, hf⟩
theorem o_subtype (h : zR C Q) (a b : Int32) (hn : 64 < n) : ∃ r C' Q', fx_X_subtype n C a b = some (r, C') ∧ fx_Q_subtype n Q a b = some (r, Q') ∧ zR C' Q' := by
  obtain ⟨tn, mn, hT, hM, hK, hX⟩ := h
  have h24 : tn ≤ 24 := hT.2.2.1.1
  unfold fx_X_subtype fx_Q_subtype
  rw [c_isSub hT.1 h24, zbind_some, if_pos (b2i_01 _), zlet_eq, q_isType (show qTy (qTh' Q 0) = nI (8 + tn) from hT.2.1) h24, zbind_some, b2i_if0]
  rcases xT_cases tn a h24 with q | ⟨j, q1, rfl⟩
  · rw [q, if_neg (by decide), Bool.false_and]
    exact ⟨_, _, _, rfl, rfl, tn, mn, hT, hM, hK, hX⟩
  · rw [xT_in h24 q1, if_pos rfl, q_isType (show qTy (qTh' Q 0) = nI (8 + tn) from hT.2.1) h24, zbind_some, b2i_if0, Bool.true_and]
    rcases xT_cases tn b h24 with q | ⟨u, q2, rfl⟩
    · rw [q, if_neg (by decide), Bool.false_and]
      exact ⟨_, _, _, rfl, rfl, tn, mn, hT, hM, hK, hX⟩
    · obtain ⟨f, e, hf⟩ := q_isUnder (n := n) (S := qTh' Q 0) (up := tUp C) (t := j) (u := u) hT.2.1 hT.2.2.1 hT.2.2.2.2.2.2.2.1 hT.2.2.2.2.2.2.2.2 q1 (by omega) hn
      rw [xT_in h24 q2, if_pos rfl, e, zbind_some, b2i_if', Bool.true_and, nI_clamp (by omega), nI_clamp (by omega)]
      exact ⟨_, _, _, rfl, rfl, tn, mn, hT.io hf, hM, hK, hX⟩
theorem o_count (h : zR C Q) (a : Int32) : ∃ r C' Q', fx_X_count n C a = some (r, C') ∧ fx_Q_count n Q a = some (r, Q') ∧ zR C' Q' := by
  obtain ⟨tn, mn, hT, hM, hK, hX⟩ := id h
  obtain ⟨kn, k1, k2, -⟩ := id hK
  have hR : zR C (qTh' Q 0) := h
  have e8 : qTy (qTh' Q 0) - 8 = tTo C := by
    show qTy Q - 8 = tTo C
    rw [hT.1, hT.2.1, nL8, pk_sub (by omega), Nat.add_sub_cancel_left]
  have em : qMe (qTh' Q 0) = mTo C := hM.2.1.trans hM.1.symm
  have ek : qKe (qTh' Q 0) = kHe C := k2.trans k1.symm
  have e3 : qWo (qTh' Q 0) = xWk C := hX.1.symm
  have e4 : qHa (qTh' Q 0) = xFk C := hX.2.1.symm
  have e5 : qPh (qTh' Q 0) = hPh C := hX.2.2.symm
  unfold fx_X_count fx_Q_count
  rw [zlet_eq, e8, em, ek, e3, e4, e5]
  by_cases q0 : a = 0
  · rw [if_pos q0, if_pos q0]; exact ⟨_, _, _, rfl, rfl, hR⟩
  rw [if_neg q0, if_neg q0]
  by_cases q1 : a = 1
  · rw [if_pos q1, if_pos q1]; exact ⟨_, _, _, rfl, rfl, hR⟩
  rw [if_neg q1, if_neg q1]
  by_cases q2 : a = 2
  · rw [if_pos q2, if_pos q2]; exact ⟨_, _, _, rfl, rfl, hR⟩
  rw [if_neg q2, if_neg q2]
  by_cases q3 : a = 3
  · rw [if_pos q3, if_pos q3]; exact ⟨_, _, _, rfl, rfl, hR⟩
  rw [if_neg q3, if_neg q3]
  by_cases q4 : a = 4
  · rw [if_pos q4, if_pos q4]; exact ⟨_, _, _, rfl, rfl, hR⟩
  rw [if_neg q4, if_neg q4]
  by_cases q5 : a = 5
  · rw [if_pos q5, if_pos q5]; exact ⟨_, _, _, rfl, rfl, hR⟩
  rw [if_neg q5, if_neg q5]
  exact ⟨_, _, _, rfl, rfl, hR⟩
end
