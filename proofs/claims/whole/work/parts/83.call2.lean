section
variable {n : Nat} {C : ZC} {Q : ZQ} {tn mn : Nat}
theorem q_cbad (a1 a2 a3 : Int32) (row : Int64) (hn : 64 < n) : jx_Q_call_32 n a1 a2 a3 row Q = some (0, qTh' Q 1) := by
  unfold jx_Q_call_32 jx_Q_call_33
  obtain ⟨v, e⟩ := q_L38f (n := n) (Q := Q) a1 a2 a3 row hn
  rw [e, zbL3_some, if_pos rfl, if_pos rfl]
  unfold jx_Q_call_125
  rw [zlet_eq, if_neg (show ¬ qTh (qTh' Q 1) ≤ 0 from (by decide : ¬ (1 : Int32) ≤ 0))]
/-- a call whose values are good -/
theorem o_callG (hT : zRT C Q tn) (hM : zRM C Q tn mn) (hK : zRK C Q) (hX : zRX C Q) (O : Nat → Int64) {t c : Nat} (nm : Int32) (row : Int64) (h8 : 8 ≤ t) (ht : t < 8 + tn) (hc : c ≤ 6) (hv : ∀ k, k < c → zvl tn row k = true) (hq : ∀ k, k < c → qVl Q k = nI (zby row k)) (hn : 2000 < n) :
    ∃ C' O' b Q', zbind (zbind (fx_K_find n C (nI t) nm (nI c) row) (fun r_8 S_8 => (if r_8 = (-1 : Int32) then zbind (fx_H_choose n S_8 (nI t) nm (nI c) row) (fun r_11 S_11 => zbind (fx_K_keep n S_11 (nI t) nm (nI c) row r_11) (fun r_12 S_12 => zlet (xWk' S_12 ((xWk S_12) + (1 : Int32))) (fun S_13 => jx_X_call_115 n r_12 S_13))) else zlet (xFk' S_8 ((xFk S_8) + (1 : Int32))) (fun S_10 => jx_X_call_115 n r_8 S_10)))) (fun r S1 => zcase r (fun v => some ((0 : Int32), S1, vp_updL O 0 v.toInt64)) (fun E => if E = 1 then some ((1 : Int32), S1, O) else if E = 3 then some ((2 : Int32), S1, O) else if E = 4 then some ((3 : Int32), S1, O) else none)) = some (qTh Q', C', O') ∧ jx_Q_call_156 n row (nI t) nm (nI c) Q = some (b, Q') ∧ zR C' Q' ∧ (qTh Q' = 0 → O' 0 = b.toInt64) := by
  obtain ⟨kn, k1, k2, k3, k4⟩ := zRK_D hK
  have eC : zCK C (nI kn) Q.2.2.2.1 = C := by rw [← k4, ← k1]; rfl
  have hf := c_find (n := n) (C := C) (D := Q.2.2.2.1) (nI t) nm (nI c) row k3 (by omega)
  rw [eC] at hf
  unfold jx_Q_call_156
  rcases hf with ⟨k, h1, h2, h3, e⟩ | ⟨h3, e⟩
  · obtain ⟨v, e2⟩ := q_find1 (n := n) k2 h1 k3 h2 h3 (by omega)
    rw [e, zbind_some, if_neg (show ¬ nI k = -1 from fun q => zneg1 (by omega) q.symm), zlet_eq, e2, zbL4_some, if_pos rfl, if_neg i01, zlet_eq]
    have hR : zR (xFk' C (xFk C + 1)) (qHa' Q (qHa Q + 1)) := by
      refine ⟨tn, mn, hT, hM, hK, hX.1, ?_, hX.2.2⟩
      show xFk C + 1 = qHa Q + 1
      rw [hX.2.1]
    exact o_fin hR O (by omega) (show C.2.2.2.1.2.2.2.2.2 k = Q.2.2.2.1.2.2.2.2 k by rw [k4])
  · obtain ⟨v9, v, e2⟩ := q_find0 (n := n) k2 k3 h3 (by omega)
    obtain ⟨R, hh, hz, hp, ec⟩ := c_choose (n := n) (C := C) (Q := Q) (tn := tn) (mn := mn) nm row hT hM h8 ht hc hv hn
    obtain ⟨R2, g, l, p, f, l2, fi, hz2, h01, ew⟩ := q_work (n := n) (C := C) (Q := Q) (tn := tn) (mn := mn) nm row hT hM h8 ht hc hv hq hn
    have eR : R2 = R := zLine_det hz2 hz
    subst eR
    generalize zres C c row (zmo C mn nm R2 R2.length) 3 1 = res at *
    have eC1 : zCK (C.1, C.2.1, hh, C.2.2.2) (nI kn) Q.2.2.2.1 = (C.1, C.2.1, hh, C.2.2.2) := by rw [← k4, ← k1]; rfl
    have ek := c_keep (n := n) (C := (C.1, C.2.1, hh, C.2.2.2)) (D := Q.2.2.2.1) k3 (by omega) (nI t) nm (nI c) res.1 row
    rw [eC1] at ek
    rw [e, zbind_some, if_pos rfl, ec, zbind_some, ek, zbind_some, zlet_eq, e2, zbL4_some, if_pos rfl, if_pos rfl, ew, zbind_some, zlet_eq]
    obtain ⟨Q1, hQ1⟩ : ∃ Q1, Q1 = qPh' (qIo' (zQM (zQL Q g l p) f l2) fi) (nI res.2) := ⟨_, rfl⟩
    rw [← hQ1]
    have ekq := q_keep (n := n) (Q := qWo' Q1 (qWo Q1 + 1)) (D := Q.2.2.2.1) (kn := kn) (by rw [hQ1]; exact k2) k3 (by omega) (nI t) nm (nI c) res.1 row
    have eQ1 : zQK (qWo' Q1 (qWo Q1 + 1)) Q.2.2.2.1 = qWo' Q1 (qWo Q1 + 1) := by rw [hQ1]; rfl
    rw [eQ1] at ekq
    rw [ekq, zbind1_some]
    have hR : zR (xWk' (zCK (C.1, C.2.1, hh, C.2.2.2) (nI (kkn kn + 1)) (kpt (kkD kn Q.2.2.2.1) (kkn kn) (nI t) nm (nI c) row res.1)) (xWk (zCK (C.1, C.2.1, hh, C.2.2.2) (nI (kkn kn + 1)) (kpt (kkD kn Q.2.2.2.1) (kkn kn) (nI t) nm (nI c) row res.1)) + 1)) (qKe' (zQK (qWo' Q1 (qWo Q1 + 1)) (kpt (kkD kn Q.2.2.2.1) (kkn kn) (nI t) nm (nI c) row res.1)) (nI (kkn kn + 1))) := by
      rw [hQ1]
      refine ⟨tn, mn, hT.io h01, hM, zRK_of (kn := kkn kn + 1) rfl rfl (kkn_lt kn) rfl, ?_, hX.2.1, hp⟩
      show xWk C + 1 = qWo Q + 1
      rw [hX.1]
    exact o_fin hR O (kkn_lt kn) (zupd_at _ _ _)
theorem o_call (h : zR C Q) (O : Nat → Int64) (a1 a2 a3 : Int32) (row : Int64) (hn : 2000 < n) : ∃ C' O' b Q', fx_L_call n C O a1 a2 a3 row = some (qTh Q', C', O') ∧ fx_Q_call n Q a1 a2 a3 row = some (b, Q') ∧ zR C' Q' ∧ (qTh Q' = 0 → O' 0 = b.toInt64) := by
  obtain ⟨tn, mn, hT, hM, hK, hX⟩ := id h
  have h24 : tn ≤ 24 := hT.2.2.1.1
  have bad : ∀ Q1, zR C Q1 → qTh Q1 = 1 → fx_X_call n C a1 a2 a3 row = some (.inr 1, C) → fx_Q_call n Q a1 a2 a3 row = some (0, Q1) → ∃ C' O' b Q', fx_L_call n C O a1 a2 a3 row = some (qTh Q', C', O') ∧ fx_Q_call n Q a1 a2 a3 row = some (b, Q') ∧ zR C' Q' ∧ (qTh Q' = 0 → O' 0 = b.toInt64) := by
    intro Q1 hR e0 e1 e2
    refine ⟨C, O, 0, Q1, ?_, e2, hR, fun q => absurd (e0.symm.trans q) i01⟩
    unfold fx_L_call
    rw [e1, zbind_some, zcase_r, if_pos rfl, e0]
  have eX : fx_X_call n C a1 a2 a3 row = (if xO tn a1 = true then (if a2 < 0 then some (.inr 1, C) else if (10 : Int32) ≤ a2 then some (.inr 1, C) else zbind (fx_X_areValues n C a3 row) (fun r_5 S_5 => (if r_5 = 0 then some (.inr 1, S_5) else zbind1 (fx_X_lowestBytes n row a3) (fun r_7 => zbind (fx_K_find n S_5 a1 a2 a3 r_7) (fun r_8 S_8 => (if r_8 = (-1 : Int32) then zbind (fx_H_choose n S_8 a1 a2 a3 r_7) (fun r_11 S_11 => zbind (fx_K_keep n S_11 a1 a2 a3 r_7 r_11) (fun r_12 S_12 => zlet (xWk' S_12 ((xWk S_12) + (1 : Int32))) (fun S_13 => jx_X_call_115 n r_12 S_13))) else zlet (xFk' S_8 ((xFk S_8) + (1 : Int32))) (fun S_10 => jx_X_call_115 n r_8 S_10))))))) else some (.inr 1, C)) := by
    unfold fx_X_call
    rw [c_isTold hT.1 h24, zbind_some, b2i_if0, c_isName, zbind1_some]
    by_cases q1 : a2 < 0
    · rw [if_pos q1, if_pos q1, if_pos rfl]
    · rw [if_neg q1, if_neg q1]
      by_cases q2 : (10 : Int32) ≤ a2
      · rw [if_pos q2, if_pos q2, if_pos rfl]
      · rw [if_neg q2, if_neg q2, if_neg i01]
  have eQ : fx_Q_call n Q a1 a2 a3 row = (if xO tn a1 = true then (if a2 < 0 then some (0, qTh' Q 1) else if (10 : Int32) ≤ a2 then some (0, qTh' Q 1) else if a3 < 0 then some (0, qTh' Q 1) else if (7 : Int32) ≤ a3 then some (0, qTh' Q 1) else jx_Q_call_33 n 1 a1 a2 a3 row Q) else some (0, qTh' Q 1)) := by
    unfold fx_Q_call
    rw [q_isOwn hT.2.1 h24, zbind_some, b2i_if0, q_cbad a1 a2 a3 row (by omega)]
  rcases xO_cases tn a1 h24 with hx | ⟨t, t8, t2, rfl⟩
  · rw [hx, if_neg (by decide)] at eX eQ
    exact bad (qTh' Q 1) h rfl eX eQ
  rw [xO_in h24 t8 t2, if_pos rfl] at eX eQ
  by_cases q1 : a2 < 0
  · rw [if_pos q1] at eX eQ
    exact bad (qTh' Q 1) h rfl eX eQ
  rw [if_neg q1] at eX eQ
  by_cases q2 : (10 : Int32) ≤ a2
  · rw [if_pos q2] at eX eQ
    exact bad (qTh' Q 1) h rfl eX eQ
  rw [if_neg q2] at eX eQ
  by_cases q3 : a3 < 0
  · rw [if_pos q3] at eQ
    refine bad (qTh' Q 1) h rfl ?_ eQ
    rw [eX]
    unfold fx_X_areValues
    rw [if_pos q3, zbind_some, if_pos rfl]
  rw [if_neg q3] at eQ
  obtain ⟨c, hc31, rfl⟩ := nI_of q3
  by_cases q4 : 7 ≤ c
  · rw [if_pos (show (7 : Int32) ≤ nI c from nI_le (a := 7) q4 hc31)] at eQ
    refine bad (qTh' Q 1) h rfl ?_ eQ
    rw [eX]
    unfold fx_X_areValues
    rw [if_neg q3, if_neg (show ¬ nI c ≤ 6 from nI_ge (a := 6) (by omega) hc31), zbind_some, if_pos rfl]
  rw [if_neg (show ¬ (7 : Int32) ≤ nI c from nI_ge (b := 7) (by omega) (by omega))] at eQ
  rw [c_areVals row hT.1 h24 (by omega) (by omega), zbind_some, b2i_if0] at eX
  obtain ⟨v, k, eL, hk⟩ := q_L38 (n := n) (nI t) a2 row hT.2.1 h24 (show c ≤ 6 by omega) (by omega)
  unfold jx_Q_call_33 at eQ
  rw [eL, zbL3_some, if_pos rfl, b2i_if0] at eQ
  cases hp : zall (zvl tn row) c with
  | false =>
    rw [hp, if_neg (by decide)] at eX eQ
    refine bad (qTh' (qVl' Q (zvw (qVl Q) row k)) 1) h rfl eX ?_
    rw [eQ]
    unfold jx_Q_call_125
    rw [zlet_eq, if_neg (show ¬ qTh (qTh' (qVl' Q (zvw (qVl Q) row k)) 1) ≤ 0 from (by decide : ¬ (1 : Int32) ≤ 0))]
  | true =>
  have hkc := hk hp
  subst hkc
  rw [hp, if_pos rfl] at eX eQ
  have eQ2 : fx_Q_call n Q (nI t) a2 (nI k) row = jx_Q_call_156 n (zlow row k) (nI t) a2 (nI k) (qTh' (qVl' Q (zvw (qVl Q) row k)) 0) := by
    rw [eQ]
    unfold jx_Q_call_125
    rw [zlet_eq, if_pos (show qTh (qTh' (qVl' Q (zvw (qVl Q) row k)) 0) ≤ 0 from Int32.le_refl _)]
    by_cases hk0 : k = 0
    · subst hk0
      rw [if_pos (show nI 0 = 0 from rfl), zlow0]
    · rw [if_neg (show ¬ nI k = 0 from fun q => hk0 ((nI_eq (b := 0) hc31 (by omega)).mp q))]
      rfl
  obtain ⟨C', O', b, Q', e1, e2, hR, hO⟩ := o_callG (n := n) (C := C) (Q := qTh' (qVl' Q (zvw (qVl Q) row k)) 0) (tn := tn) (mn := mn) hT hM hK hX O a2 (zlow row k) t8 t2 (show k ≤ 6 by omega) (fun j hj => by
    rw [zvl_low (by omega) hj]
    exact zall_iff.mp hp j hj) (fun j hj => by
    show zvw (qVl Q) row k j = _
    unfold zvw
    rw [if_pos hj, zlow_byte row (by omega) hj]) hn
  refine ⟨C', O', b, Q', ?_, by rw [eQ2]; exact e2, hR, hO⟩
  unfold fx_L_call
  rw [eX, show fx_X_lowestBytes n row (nI k) = some (zlow row k) from rfl, zbind1_some]
  exact e1
end
