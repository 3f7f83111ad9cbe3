section
variable {n : Nat} {C : ZC} {Q : ZQ} {tn mn : Nat}
theorem q_mbad (a1 a2 a3 a6 : Int32) (row : Int64) (hn : 64 < n) : jx_Q_member_40 n a1 a2 a3 row a6 Q = some (0, qTh' Q 1) := by
  unfold jx_Q_member_40 jx_Q_member_41
  obtain ⟨v, e⟩ := q_L46f (n := n) (Q := Q) a1 a2 a3 a6 row hn
  rw [e, zbL3_some, if_pos rfl, if_pos rfl]
  unfold jx_Q_member_87
  rw [zlet_eq, if_neg (show ¬ qTh (qTh' Q 1) ≤ 0 from (by decide : ¬ (1 : Int32) ≤ 0))]
/-- the member told: both stand alike again -/
theorem o_addM (hT : zRT C Q tn) (hM : zRM C Q tn mn) (hK : zRK C Q) (hX : zRX C Q) (o m a6 : Int32) {c : Nat} (row : Int64) (hc : c ≤ 4) (h6 : a6 = 0 ∨ a6 = 1) (h6c : a6 = 1 → 1 ≤ c) (hp : zall (zpar tn row) c = true) (hmn : mn < 80) (hn : 100 < n) :
    ∃ C1 C' Q', fx_K_letGoName n C m = some C1 ∧ fx_M_add n C1 o m (nI c) (zlow row c) a6 = some (nI mn, C') ∧ jx_Q_member_246 n 0 o m (nI c) row a6 Q = some (nI mn, Q') ∧ zR C' Q' ∧ qTh Q' = 0 := by
  obtain ⟨m1, m2, m3, m4, m5, m6, m7, m8⟩ := id hM
  obtain ⟨kn, k1, k2, k3, k4⟩ := zRK_D hK
  have hz : ¬ zoob (nI mn) 80 := by rw [zoob_nI (by omega)]; omega
  have ecl : (nI mn).toNatClampNeg = mn := nI_clamp (by omega)
  have eC : fx_K_letGoName n C m = some (zCK C (nI (kln m Q.2.2.2.1 kn).1) (kln m Q.2.2.2.1 kn).2) := by
    have := c_letGoName (n := n) (C := C) (D := C.2.2.2.1.2) m k3 hn
    rw [show zCK C (nI kn) C.2.2.2.1.2 = C by rw [← k1]; rfl, k4] at this
    exact this
  refine ⟨_, _, qKe' (zQK (qMe' (qVa' (qPa' (qMa' (qNa' (qOw' (qTh' Q 0) (upd (qOw Q) mn o)) (upd (qNa Q) mn m)) (upd (qMa Q) mn (nI c))) (zpw (qPa Q) mn row c)) (upd (qVa Q) mn a6)) (nI (mn + 1))) (kln m Q.2.2.2.1 kn).2) (nI (kln m Q.2.2.2.1 kn).1), eC, c_addM o m (nI c) a6 (zlow row c) m1 hmn h6, ?_, ?_⟩
  · unfold jx_Q_member_246
    rw [zlet_eq, if_pos (show qTh (qTh' Q 0) ≤ 0 from Int32.le_refl _), show qMe (qTh' Q 0) = nI mn from m2, if_neg hz, zlet_eq, if_neg hz, zlet_eq, if_neg hz, zlet_eq, q_L291 m a6 row hc hmn (by omega), zbL2_some, if_pos rfl, if_neg hz, zlet_eq, zlet_eq, ecl, vnar01 h6]
    have eq : ∀ X : ZQ, qKe X = nI kn → X.2.2.2.1 = Q.2.2.2.1 → fx_Q_letGo n X m = some (qKe' (zQK X (kln m Q.2.2.2.1 kn).2) (nI (kln m Q.2.2.2.1 kn).1)) := fun X h1 h2 => by
      have := q_letGo (n := n) (Q := X) (D := X.2.2.2.1) m h1 k3 hn
      rw [show zQK X X.2.2.2.1 = X from rfl, h2] at this
      exact this
    rw [eq]
    · rw [zbind1_some]
      show some (nI mn, qKe' (zQK (qMe' (qVa' (qPa' (qMa' (qNa' (qOw' (qTh' Q 0) (upd (qOw Q) mn o)) (upd (qNa Q) mn m)) (upd (qMa Q) mn (nI c))) (zpw (qPa Q) mn row c)) (upd (qVa Q) mn a6)) (qMe Q + 1)) (kln m Q.2.2.2.1 kn).2) (nI (kln m Q.2.2.2.1 kn).1)) = _
      rw [m2, nI_1]
    · exact k2
    · rfl
  · refine ⟨⟨tn, mn + 1, hT, ⟨rfl, rfl, by omega, ?_, ?_, ?_, ?_, fun k hk => ?_⟩, zRK_of (kn := (kln m Q.2.2.2.1 kn).1) rfl rfl ?_ rfl, hX⟩, rfl⟩
    · show upd (mOw C) mn o = upd (qOw Q) mn o
      rw [m4]
    · show upd (mNa C) mn m = upd (qNa Q) mn m
      rw [m5]
    · show upd (mSz C) mn (nI c) = upd (qMa Q) mn (nI c)
      rw [m6]
    · show upd (mVa C) mn a6 = upd (qVa Q) mn a6
      rw [m7]
    · show ∃ c1, upd (qMa Q) mn (nI c) k = nI c1 ∧ c1 ≤ 4 ∧ (upd (qVa Q) mn a6 k = 0 ∨ upd (qVa Q) mn a6 k = 1) ∧ (upd (qVa Q) mn a6 k = 1 → 1 ≤ c1) ∧ (vp_updL (mPa C) mn (zlow row c) k).toBitVec.toNat < 2 ^ (8 * c1) ∧ ∀ i, i < c1 → zpw (qPa Q) mn row c (4 * k + i) = nI (zby (vp_updL (mPa C) mn (zlow row c) k) i) ∧ zby (vp_updL (mPa C) mn (zlow row c) k) i < 8 + tn
      by_cases ek : k = mn
      · subst ek
        rw [zupd_at, zupd_at, zupdL_at]
        refine ⟨c, rfl, hc, h6, h6c, zlow_lt row (by omega), fun i hi => ?_⟩
        rw [zlow_byte row (by omega) hi]
        refine ⟨?_, of_decide_eq_true (zall_iff.mp hp i hi)⟩
        unfold zpw
        rw [if_pos (by omega), Nat.add_sub_cancel_left]
      · rw [zupd_ne _ _ ek, zupd_ne _ _ ek, zupdL_ne _ _ ek]
        obtain ⟨c1, e1, e2, e3, e4, e5, e6⟩ := m8 k (by omega)
        refine ⟨c1, e1, e2, e3, e4, e5, fun i hi => ⟨?_, (e6 i hi).2⟩⟩
        unfold zpw
        rw [if_neg (by omega)]
        exact (e6 i hi).1
    · have := kln_le m Q.2.2.2.1 kn
      omega
theorem o_member (h : zR C Q) (O : Nat → Int64) (a1 a2 a3 a6 : Int32) (row : Int64) (h6 : a6 = 0 ∨ a6 = 1) (hn : 100 < n) : ∃ C' O' b Q', fx_L_member n C O a1 a2 a3 row a6 = some (qTh Q', C', O') ∧ fx_Q_member n Q a1 a2 a3 row a6 = some (b, Q') ∧ zR C' Q' ∧ (qTh Q' = 0 → O' 0 = b.toInt64) := by
  obtain ⟨tn, mn, hT, hM, hK, hX⟩ := id h
  have h24 : tn ≤ 24 := hT.2.2.1.1
  have bad : fx_X_member n C a1 a2 a3 row a6 = some (.inr 1, C) → fx_Q_member n Q a1 a2 a3 row a6 = some (0, qTh' Q 1) → ∃ C' O' b Q', fx_L_member n C O a1 a2 a3 row a6 = some (qTh Q', C', O') ∧ fx_Q_member n Q a1 a2 a3 row a6 = some (b, Q') ∧ zR C' Q' ∧ (qTh Q' = 0 → O' 0 = b.toInt64) := by
    intro e1 e2
    refine ⟨C, O, 0, qTh' Q 1, ?_, e2, h, fun q => absurd q (by decide : ¬ (1 : Int32) = 0)⟩
    unfold fx_L_member
    rw [e1, zbind_some, zcase_r, if_pos rfl]
  have eX : fx_X_member n C a1 a2 a3 row a6 = (if xO tn a1 = true then (if a2 < 0 then some (.inr 1, C) else if (10 : Int32) ≤ a2 then some (.inr 1, C) else zbind (fx_X_areParameters n C a3 row) (fun r_5 S_5 => (if r_5 = 0 then some (.inr 1, S_5) else (if a6 = 0 then jx_X_member_57 n a1 a2 a3 row a6 S_5 else (if a3 = 0 then some (.inr 1, S_5) else jx_X_member_57 n a1 a2 a3 row a6 S_5))))) else some (.inr 1, C)) := by
    unfold fx_X_member
    rw [c_isTold hT.1 h24, zbind_some, b2i_if0, c_isName, zbind1_some]
    by_cases q1 : a2 < 0
    · rw [if_pos q1, if_pos q1, if_pos rfl]
    · rw [if_neg q1, if_neg q1]
      by_cases q2 : (10 : Int32) ≤ a2
      · rw [if_pos q2, if_pos q2, if_pos rfl]
      · rw [if_neg q2, if_neg q2, if_neg i01]
  have eQ : fx_Q_member n Q a1 a2 a3 row a6 = (if xO tn a1 = true then (if a2 < 0 then some (0, qTh' Q 1) else if (10 : Int32) ≤ a2 then some (0, qTh' Q 1) else if a3 < 0 then some (0, qTh' Q 1) else if (5 : Int32) ≤ a3 then some (0, qTh' Q 1) else if 0 < a3 then jx_Q_member_36 n a1 a2 a3 row a6 Q else if a6 = 0 then jx_Q_member_36 n a1 a2 a3 row a6 Q else some (0, qTh' Q 1)) else some (0, qTh' Q 1)) := by
    unfold fx_Q_member
    rw [q_isOwn hT.2.1 h24, zbind_some, b2i_if0, q_mbad a1 a2 a3 a6 row (by omega)]
  cases hx : xO tn a1 with
  | false =>
    rw [hx, if_neg (by decide)] at eX eQ
    exact bad eX eQ
  | true =>
  rw [hx, if_pos rfl] at eX eQ
  by_cases q1 : a2 < 0
  · rw [if_pos q1] at eX eQ
    exact bad eX eQ
  rw [if_neg q1] at eX eQ
  by_cases q2 : (10 : Int32) ≤ a2
  · rw [if_pos q2] at eX eQ
    exact bad eX eQ
  rw [if_neg q2] at eX eQ
  by_cases q3 : a3 < 0
  · rw [if_pos q3] at eQ
    refine bad ?_ eQ
    rw [eX]
    unfold fx_X_areParameters
    rw [if_pos q3, zbind_some, if_pos rfl]
  rw [if_neg q3] at eQ
  obtain ⟨c, hc31, rfl⟩ := nI_of q3
  by_cases q4 : 5 ≤ c
  · rw [if_pos (show (5 : Int32) ≤ nI c from nI_le (a := 5) q4 hc31)] at eQ
    refine bad ?_ eQ
    rw [eX]
    unfold fx_X_areParameters
    rw [if_neg q3, if_neg (show ¬ nI c ≤ 4 from nI_ge (a := 4) (by omega) hc31), zbind_some, if_pos rfl]
  rw [if_neg (show ¬ (5 : Int32) ≤ nI c from nI_ge (b := 5) (by omega) (by omega))] at eQ
  rw [c_areParams row hT.1 h24 (by omega) (by omega), zbind_some, b2i_if0] at eX
  -- told with n 0
  by_cases q5 : a6 = 1 ∧ c = 0
  · obtain ⟨q51, q52⟩ := q5
    subst q51 q52
    rw [if_neg (show ¬ (0 : Int32) < nI 0 from by decide), if_neg i01] at eQ
    refine bad ?_ eQ
    rw [eX, if_pos (show zall (zpar tn row) 0 = true from rfl), if_neg i01, if_pos (show nI 0 = 0 from rfl)]
  have eQ2 : fx_Q_member n Q a1 a2 (nI c) row a6 = jx_Q_member_36 n a1 a2 (nI c) row a6 Q := by
    rw [eQ]
    by_cases q6 : 0 < c
    · rw [if_pos (show (0 : Int32) < nI c from nI_lt (a := 0) q6 hc31)]
    · rw [if_neg (show ¬ (0 : Int32) < nI c from nI_nlt (b := c) (a := 0) (by omega) (by omega)), if_pos (h6.resolve_right fun q => q5 ⟨q, by omega⟩)]
  have eX2 : fx_X_member n C a1 a2 (nI c) row a6 = if zall (zpar tn row) c = true then jx_X_member_57 n a1 a2 (nI c) row a6 C else some (.inr 1, C) := by
    rw [eX]
    cases zall (zpar tn row) c with
    | false => rfl
    | true =>
      rw [if_pos rfl, if_pos rfl]
      by_cases q6 : a6 = 0
      · rw [if_pos q6]
      · rw [if_neg q6, if_neg (show ¬ nI c = 0 from fun q => by
          rw [nL0, nI_eq hc31 (by omega)] at q
          exact q5 ⟨h6.resolve_left q6, q⟩)]
  clear eX eQ
  unfold jx_Q_member_36 jx_Q_member_41 at eQ2
  obtain ⟨v, eL⟩ := q_L46 (n := n) a1 a2 a6 row hT.2.1 h24 (show c ≤ 4 by omega) (by omega)
  rw [eL, zbL3_some, if_pos rfl, b2i_if0] at eQ2
  cases hp : zall (zpar tn row) c with
  | false =>
    rw [hp, if_neg (by decide)] at eX2 eQ2
    refine bad eX2 ?_
    rw [eQ2]
    unfold jx_Q_member_87
    rw [zlet_eq, if_neg (show ¬ qTh (qTh' Q 1) ≤ 0 from (by decide : ¬ (1 : Int32) ≤ 0))]
  | true =>
  rw [hp, if_pos rfl] at eX2 eQ2
  unfold jx_Q_member_87 at eQ2
  obtain ⟨v2, eL2⟩ := q_L105 (n := n) (Q := qTh' Q 0) a1 a2 a6 row (show qMe (qTh' Q 0) = nI mn from hM.2.1) hM.2.2.1 (show c ≤ 4 by omega) hn
  rw [zlet_eq, if_pos (show qTh (qTh' Q 0) ≤ 0 from Int32.le_refl _), eL2, zbL3_some, if_pos rfl, b2i_if0, show qMe (qTh' Q 0) = nI mn from hM.2.1] at eQ2
  unfold jx_X_member_57 at eX2
  rw [show fx_X_lowestBytes n row (nI c) = some (zlow row c) from rfl, zbind1_some, c_isFullM hM.1 hM.2.2.1, zbind_some, b2i_if0, c_isToldM a1 a2 (nI c) (zlow row c) hM.1 hM.2.2.1 hn, zbind_some, b2i_if0, zs_same hM a1 a2 (show c ≤ 4 by omega) row] at eX2
  have two : fx_X_member n C a1 a2 (nI c) row a6 = some (.inr 2, C) → fx_Q_member n Q a1 a2 (nI c) row a6 = jx_Q_member_241 n a1 a2 (nI c) row a6 (qTh' Q 0) → ∃ C' O' b Q', fx_L_member n C O a1 a2 (nI c) row a6 = some (qTh Q', C', O') ∧ fx_Q_member n Q a1 a2 (nI c) row a6 = some (b, Q') ∧ zR C' Q' ∧ (qTh Q' = 0 → O' 0 = b.toInt64) := by
    intro e1 e2
    refine ⟨C, O, 0, qTh' Q 2, ?_, ?_, h, fun q => absurd q (by decide : ¬ (2 : Int32) = 0)⟩
    · unfold fx_L_member
      rw [e1, zbind_some, zcase_r, if_neg (by decide), if_pos rfl]
    · rw [e2]
      unfold jx_Q_member_241 jx_Q_member_246
      rw [zlet_eq, if_neg (show ¬ qTh (qTh' (qTh' Q 0) 2) ≤ 0 from (by decide : ¬ (2 : Int32) ≤ 0))]
  have ez : zany (zsm (qTh' Q 0) a1 a2 c row) mn = zany (zsm Q a1 a2 c row) mn := rfl
  rw [ez] at eQ2
  have h80 := hM.2.2.1
  by_cases h8 : mn = 80
  · rw [decide_eq_true (by omega), if_pos rfl] at eX2
    refine two eX2 ?_
    rw [eQ2, if_pos (show nI mn = 80 by rw [h8]; rfl)]
    split <;> rfl
  · rw [decide_eq_false (by omega), if_neg (by decide)] at eX2
    rw [if_neg (show ¬ nI mn = 80 from fun q => by rw [nL80, nI_eq (by omega) (by omega)] at q; exact h8 q)] at eQ2
    cases hs : zany (zsm Q a1 a2 c row) mn with
    | true =>
      rw [hs, if_pos rfl] at eX2 eQ2
      exact two eX2 eQ2
    | false =>
      rw [hs, if_neg (by decide)] at eX2 eQ2
      obtain ⟨C1, C', Q', e1, e2, e3, hR, e4⟩ := o_addM (n := n) (Q := qTh' Q 0) hT hM hK hX a1 a2 a6 row (show c ≤ 4 by omega) h6 (fun q => Nat.pos_of_ne_zero fun q0 => q5 ⟨q, q0⟩) hp (by omega) hn
      rw [e1, zbind1_some, e2, zbind_some] at eX2
      rw [e3] at eQ2
      refine ⟨C', vp_updL O 0 (nI mn).toInt64, nI mn, Q', ?_, eQ2, hR, fun _ => zupdL_at _ _ _⟩
      unfold fx_L_member
      rw [eX2, zbind_some, zcase_l, e4]
end
