/-! PURE ROWS: call -/
section
variable {n : Nat} {C : ZC} {Q : ZQ} {tn mn : Nat}
theorem c_isValue {b : Nat} (hT : tTo C = nI tn) (ht : tn ≤ 24) (hb : b < 256) : fx_X_isValue n C (nI b) = some (b2i (decide (b = 255) || (decide (2 < b) && decide (b < 8 + tn))), C) := by
  unfold fx_X_isValue
  by_cases h : b = 255
  · subst h
    rw [if_pos (show nI 255 = 255 from rfl), decide_eq_true rfl]; rfl
  · rw [if_neg (show ¬ nI b = 255 from fun q => h ((nI_eq (by omega) (by omega)).mp q)), c_exists hT ht, zbind_some, b2i_if0, xT_dec ht (by omega), decide_eq_false h, Bool.false_or, c_isPrim (by omega), zbind1_some, b2i_if0]
    by_cases h1 : b < 8 + tn
    · rw [decide_eq_true h1, if_pos rfl, Bool.and_true]
      by_cases h2 : b ≤ 2
      · rw [decide_eq_true h2, if_pos rfl, decide_eq_false (by omega)]; rfl
      · rw [decide_eq_false h2, if_neg (by decide), decide_eq_true (by omega)]; rfl
    · rw [decide_eq_false h1, if_neg (by decide), Bool.and_false]; rfl
theorem c_areVals {c : Nat} (row : Int64) (hT : tTo C = nI tn) (ht : tn ≤ 24) (hc : c ≤ 6) (hn : 64 < n) : fx_X_areValues n C (nI c) row = some (b2i (zall (zvl tn row) c), C) := by
  unfold fx_X_areValues fx_X_areValues_L15
  rw [if_neg (nI_pos (by omega)), if_pos (show nI c ≤ 6 from nI_le (b := 6) hc (by omega))]
  have stp : ∀ k, k < c → st_X_areValues_L15 n (nI c) row (nI k) C = if (!(zvl tn row k)) = true then some (.inr (34, nI k, C)) else some (.inl (nI (k + 1), C)) := fun k hk => by
    unfold st_X_areValues_L15
    rw [if_neg (nI_ge hk (by omega)), c_byteAt row (by omega), zbind1_some, c_isValue hT ht (zby_lt row k), zbind_some, b2i_if0, nI_1]
    show (if zvl tn row k = true then _ else _) = _
    cases zvl tn row k <;> rfl
  rcases zl_ret (step := fun (st : Int32 × ZC) => st_X_areValues_L15 n (nI c) row st.1 st.2) (fun k => !(zvl tn row k)) c C (fun v => (34, v, C)) (fun v => (42, v, C)) stp (by
    show st_X_areValues_L15 n (nI c) row (nI c) C = _
    unfold st_X_areValues_L15
    rw [if_pos (nI_le (Nat.le_refl _) (by omega))]) (n := n) (by omega) with ⟨h, v, e⟩ | ⟨h, v, e⟩
  · rw [e, zbL2_some, if_pos rfl]
    unfold zall
    rw [h]; rfl
  · rw [e, zbL2_some, if_neg (by decide), if_pos rfl]
    unfold zall
    rw [h]; rfl
theorem q_L38f (a1 a2 a3 : Int32) (row : Int64) (hn : 64 < n) : ∃ v, fx_Q_call_L38 n a1 a2 a3 row 0 0 Q = some (114, 0, v, Q) := by
  unfold fx_Q_call_L38
  refine ⟨0, zl_scan (step := fun (st : Int32 × Int32 × ZQ) => st_Q_call_L38 n a1 a2 a3 row st.1 st.2.1 st.2.2) (st := fun _ => ((0 : Int32), (0 : Int32), Q)) 0 (by omega) (fun k hk => by omega) ?_⟩
  show st_Q_call_L38 n a1 a2 a3 row 0 0 Q = _
  unfold st_Q_call_L38
  by_cases h : a3 ≤ 0
  · rw [if_pos h]
  · rw [if_neg h, if_pos rfl]
def zvw (f : Nat → Int32) (row : Int64) (k i : Nat) : Int32 := if i < k then nI (zby row i) else f i
theorem q_L38 {c : Nat} (a1 a2 : Int32) (row : Int64) (hT : qTy Q = nI (8 + tn)) (ht : tn ≤ 24) (hc : c ≤ 6) (hn : 64 < n) : ∃ v k, fx_Q_call_L38 n a1 a2 (nI c) row 1 0 Q = some (114, b2i (zall (zvl tn row) c), v, qVl' Q (zvw (qVl Q) row k)) ∧ (zall (zvl tn row) c = true → k = c) := by
  unfold fx_Q_call_L38
  have e0 : qVl' Q (zvw (qVl Q) row 0) = Q := by
    have : zvw (qVl Q) row 0 = qVl Q := by
      funext i
      unfold zvw
      rw [if_neg (by omega)]
    rw [this]
  have stp : ∀ k, k < c → st_Q_call_L38 n a1 a2 (nI c) row 1 (nI k) (qVl' Q (zvw (qVl Q) row k)) = some (.inl (b2i (zvl tn row k), nI (k + 1), qVl' Q (zvw (qVl Q) row (k + 1)))) := fun k hk => by
    have hz : ¬ zoob (nI k) 6 := by rw [zoob_nI (by omega)]; omega
    have ecl : (nI k).toNatClampNeg = k := nI_clamp (by omega)
    have hb := zby_lt row k
    have ew : upd (zvw (qVl Q) row k) k (nI (zby row k)) = zvw (qVl Q) row (k + 1) := by
      funext i
      by_cases ej : i = k
      · subst ej
        rw [zupd_at]
        unfold zvw
        rw [if_pos (by omega)]
      · rw [zupd_ne _ _ ej]
        unfold zvw
        by_cases q : i < k
        · rw [if_pos q, if_pos (by omega)]
        · rw [if_neg q, if_neg (by omega)]
    have es : qVl' (qVl' Q (zvw (qVl Q) row k)) (upd (qVl (qVl' Q (zvw (qVl Q) row k))) (nI k).toNatClampNeg (nI (zby row k))) = qVl' Q (zvw (qVl Q) row (k + 1)) := by
      rw [ecl, ← ew]
    unfold st_Q_call_L38
    rw [if_neg (nI_ge hk (by omega)), if_neg i01, q_byteOf row (by omega), zbind1_some, if_neg hz, zlet_eq, es, if_neg hz]
    have ev : qVl (qVl' Q (zvw (qVl Q) row (k + 1))) (nI k).toNatClampNeg = nI (zby row k) := by
      rw [ecl]
      show zvw (qVl Q) row (k + 1) k = _
      unfold zvw
      rw [if_pos (by omega)]
    rw [ev, nI_1, show qTy (qVl' Q (zvw (qVl Q) row (k + 1))) = nI (8 + tn) from hT]
    unfold zvl
    by_cases q : zby row k = 255
    · rw [if_pos (by rw [q]; rfl), decide_eq_true q]; rfl
    · rw [if_neg (show ¬ nI (zby row k) = 255 from fun p => q ((nI_eq (by omega) (by omega)).mp p)), if_neg hz, decide_eq_false q, Bool.false_or]
      by_cases q2 : zby row k ≤ 2
      · rw [if_pos (show nI (zby row k) ≤ 2 from nI_le (b := 2) q2 (by omega)), decide_eq_false (by omega)]; rfl
      · rw [if_neg (show ¬ nI (zby row k) ≤ 2 from nI_ge (a := 2) (by omega) (by omega)), if_neg hz, decide_eq_true (show 2 < zby row k by omega), Bool.true_and]
        by_cases q3 : zby row k < 8 + tn
        · rw [if_neg (nI_ge q3 (by omega)), decide_eq_true q3]; rfl
        · rw [if_pos (nI_le (by omega) (by omega)), decide_eq_false q3]; rfl
  rcases zl_first (fun k => !(zvl tn row k)) c with ⟨k, h1, h2, h3⟩ | h
  · have hf : zvl tn row k = false := by
      have : (!(zvl tn row k)) = true := h2
      rw [Bool.not_eq_true'] at this
      exact this
    have ht2 : ∀ j, j < k → zvl tn row j = true := fun j hj => by
      have : (!(zvl tn row j)) = false := h3 j hj
      rw [Bool.not_eq_false'] at this
      exact this
    have hall : zall (zvl tn row) c = false := zall_f h1 hf
    refine ⟨nI (k + 1), k + 1, ?_, fun q => by rw [hall] at q; cases q⟩
    rw [hall]
    have e := zl_scan (step := fun (st : Int32 × Int32 × ZQ) => st_Q_call_L38 n a1 a2 (nI c) row st.1 st.2.1 st.2.2) (r := (114, 0, nI (k + 1), qVl' Q (zvw (qVl Q) row (k + 1)))) (st := fun j => (if j ≤ k then (1 : Int32) else 0, nI j, qVl' Q (zvw (qVl Q) row j))) (k + 1) (n := n) (by omega) (fun j hj => by
      show st_Q_call_L38 n a1 a2 (nI c) row (if j ≤ k then (1 : Int32) else 0) (nI j) (qVl' Q (zvw (qVl Q) row j)) = some (Sum.inl (if j + 1 ≤ k then (1 : Int32) else 0, nI (j + 1), qVl' Q (zvw (qVl Q) row (j + 1))))
      rw [if_pos (by omega), stp j (by omega)]
      by_cases q : j = k
      · subst q; rw [hf, if_neg (by omega)]; rfl
      · rw [ht2 j (by omega), if_pos (by omega)]; rfl) (by
      show st_Q_call_L38 n a1 a2 (nI c) row (if k + 1 ≤ k then (1 : Int32) else 0) (nI (k + 1)) (qVl' Q (zvw (qVl Q) row (k + 1))) = _
      rw [if_neg (by omega)]
      unfold st_Q_call_L38
      by_cases q : nI c ≤ nI (k + 1)
      · rw [if_pos q]
      · rw [if_neg q, if_pos rfl])
    have e2 : zloop (fun (st : Int32 × Int32 × ZQ) => st_Q_call_L38 n a1 a2 (nI c) row st.1 st.2.1 st.2.2) n ((1 : Int32), (0 : Int32), qVl' Q (zvw (qVl Q) row 0)) = _ := e
    rw [e0] at e2
    exact e2
  · have ht2 : ∀ j, j < c → zvl tn row j = true := fun j hj => by
      have : (!(zvl tn row j)) = false := h j hj
      rw [Bool.not_eq_false'] at this
      exact this
    have hall : zall (zvl tn row) c = true := zall_iff.mpr ht2
    refine ⟨nI c, c, ?_, fun _ => rfl⟩
    rw [hall]
    have e := zl_scan (step := fun (st : Int32 × Int32 × ZQ) => st_Q_call_L38 n a1 a2 (nI c) row st.1 st.2.1 st.2.2) (r := (114, 1, nI c, qVl' Q (zvw (qVl Q) row c))) (st := fun j => ((1 : Int32), nI j, qVl' Q (zvw (qVl Q) row j))) c (n := n) (by omega) (fun j hj => by
      show st_Q_call_L38 n a1 a2 (nI c) row 1 (nI j) (qVl' Q (zvw (qVl Q) row j)) = _
      rw [stp j hj, ht2 j hj]
      rfl) (by
      show st_Q_call_L38 n a1 a2 (nI c) row 1 (nI c) (qVl' Q (zvw (qVl Q) row c)) = _
      unfold st_Q_call_L38
      rw [if_pos (nI_le (Nat.le_refl _) (by omega))])
    have e2 : zloop (fun (st : Int32 × Int32 × ZQ) => st_Q_call_L38 n a1 a2 (nI c) row st.1 st.2.1 st.2.2) n ((1 : Int32), (0 : Int32), qVl' Q (zvw (qVl Q) row 0)) = _ := e
    rw [e0] at e2
    exact e2
theorem q_find_st {kn k : Nat} {t m z v9 : Int32} {r : Int64} (hq : qKe Q = nI kn) (hk : k < kn) (hk100 : kn ≤ 100) : st_Q_call_L167 n t m z r v9 0 (nI k) Q = some (.inl (qKa Q k, b2i (khit Q.2.2.2.1 t m z r k), nI (k + 1), Q)) := by
  have h1 : ¬ zoob (nI k) 100 := by rw [zoob_nI (by omega)]; omega
  have e1 : (nI k).toNatClampNeg = k := nI_clamp (by omega)
  have a1 : qKt Q (nI k).toNatClampNeg = qKt Q k := by rw [e1]
  have a2 : qKn Q (nI k).toNatClampNeg = qKn Q k := by rw [e1]
  have a3 : qKm Q (nI k).toNatClampNeg = qKm Q k := by rw [e1]
  have a4 : qKc Q (nI k).toNatClampNeg = qKc Q k := by rw [e1]
  have a5 : qKa Q (nI k).toNatClampNeg = qKa Q k := by rw [e1]
  have j : jx_Q_call_L167_231 n t m z r (nI k) Q = some (.inl (qKa Q k, 0, nI (k + 1), Q)) := by
    unfold jx_Q_call_L167_231
    rw [if_neg h1, a5, nI_1]
  unfold st_Q_call_L167
  rw [hq, if_neg (nI_ge hk (by omega)), if_pos rfl, if_neg h1, a1]
  show _ = some (Sum.inl (qKa Q k, b2i (decide (qKt Q k = t) && (decide (qKn Q k = m) && (decide (qKm Q k = z) && decide (qKc Q k = r)))), nI (k + 1), Q))
  by_cases q1 : qKt Q k = t
  · rw [if_pos q1, if_neg h1, a2, decide_eq_true q1, Bool.true_and]
    by_cases q2 : qKn Q k = m
    · rw [if_pos q2, if_neg h1, a3, decide_eq_true q2, Bool.true_and]
      by_cases q3 : qKm Q k = z
      · rw [if_pos q3, if_neg h1, a4, decide_eq_true q3, Bool.true_and]
        by_cases q4 : qKc Q k = r
        · rw [if_pos ((zcmp0 _ _).mpr q4), if_neg h1, a5, decide_eq_true q4, nI_1]; rfl
        · rw [if_neg (fun q => q4 ((zcmp0 _ _).mp q)), decide_eq_false q4, j]; rfl
      · rw [if_neg q3, decide_eq_false q3, Bool.false_and, j]; rfl
    · rw [if_neg q2, decide_eq_false q2, Bool.false_and, j]; rfl
  · rw [if_neg q1, decide_eq_false q1, Bool.false_and, j]; rfl
theorem q_find1 {kn k : Nat} {t m z : Int32} {r : Int64} (hq : qKe Q = nI kn) (hk : k < kn) (hk100 : kn ≤ 100) (h2 : khit Q.2.2.2.1 t m z r k = true) (h3 : ∀ j, j < k → khit Q.2.2.2.1 t m z r j = false) (hn : 200 < n) : ∃ v, fx_Q_call_L167 n t m z r 0 0 0 Q = some (249, qKa Q k, 1, v, Q) := by
  unfold fx_Q_call_L167
  refine ⟨nI (k + 1), ?_⟩
  exact zl_scan (step := fun (st : Int32 × Int32 × Int32 × ZQ) => st_Q_call_L167 n t m z r st.1 st.2.1 st.2.2.1 st.2.2.2) (st := fun j => (if j = 0 then (0 : Int32) else qKa Q (j - 1), if j ≤ k then (0 : Int32) else 1, nI j, Q)) (k + 1) (n := n) (by omega) (fun j hj => by
    show st_Q_call_L167 n t m z r (if j = 0 then (0 : Int32) else qKa Q (j - 1)) (if j ≤ k then (0 : Int32) else 1) (nI j) Q = some (Sum.inl (if j + 1 = 0 then (0 : Int32) else qKa Q (j + 1 - 1), if j + 1 ≤ k then (0 : Int32) else 1, nI (j + 1), Q))
    rw [if_pos (show j ≤ k by omega), q_find_st hq (by omega) hk100, if_neg (show ¬ j + 1 = 0 by omega), Nat.add_sub_cancel]
    by_cases q : j = k
    · subst q; rw [h2, if_neg (show ¬ j + 1 ≤ j by omega)]; rfl
    · rw [h3 j (by omega), if_pos (show j + 1 ≤ k by omega)]; rfl) (by
    show st_Q_call_L167 n t m z r (if k + 1 = 0 then (0 : Int32) else qKa Q (k + 1 - 1)) (if k + 1 ≤ k then (0 : Int32) else 1) (nI (k + 1)) Q = _
    rw [if_neg (show ¬ k + 1 = 0 by omega), if_neg (show ¬ k + 1 ≤ k by omega), Nat.add_sub_cancel]
    unfold st_Q_call_L167
    by_cases q : qKe Q ≤ nI (k + 1)
    · rw [if_pos q]
    · rw [if_neg q, if_neg i01])
theorem q_find0 {kn : Nat} {t m z : Int32} {r : Int64} (hq : qKe Q = nI kn) (hk100 : kn ≤ 100) (h3 : ∀ j, j < kn → khit Q.2.2.2.1 t m z r j = false) (hn : 200 < n) : ∃ v9 v, fx_Q_call_L167 n t m z r 0 0 0 Q = some (249, v9, 0, v, Q) := by
  unfold fx_Q_call_L167
  refine ⟨if kn = 0 then (0 : Int32) else qKa Q (kn - 1), nI kn, ?_⟩
  exact zl_scan (step := fun (st : Int32 × Int32 × Int32 × ZQ) => st_Q_call_L167 n t m z r st.1 st.2.1 st.2.2.1 st.2.2.2) (st := fun j => (if j = 0 then (0 : Int32) else qKa Q (j - 1), (0 : Int32), nI j, Q)) kn (n := n) (by omega) (fun j hj => by
    show st_Q_call_L167 n t m z r (if j = 0 then (0 : Int32) else qKa Q (j - 1)) 0 (nI j) Q = some (Sum.inl (if j + 1 = 0 then (0 : Int32) else qKa Q (j + 1 - 1), (0 : Int32), nI (j + 1), Q))
    rw [q_find_st hq hj hk100, if_neg (show ¬ j + 1 = 0 by omega), Nat.add_sub_cancel, h3 j hj]; rfl) (by
    show st_Q_call_L167 n t m z r _ 0 (nI kn) Q = _
    unfold st_Q_call_L167
    rw [hq, if_pos (nI_le (Nat.le_refl _) (by omega))])
/-- the end of a call -/
theorem o_fin (h : zR C Q) (O : Nat → Int64) {k : Nat} (hk : k < 100) {out : Int32} (ho : kOu C k = out) : ∃ C' O' b Q', zbind (jx_X_call_115 n (nI k) C) (fun r S1 => zcase r (fun v => some ((0 : Int32), S1, vp_updL O 0 v.toInt64)) (fun E => if E = 1 then some ((1 : Int32), S1, O) else if E = 3 then some ((2 : Int32), S1, O) else if E = 4 then some ((3 : Int32), S1, O) else none)) = some (qTh Q', C', O') ∧ jx_Q_call_297 n out Q = some (b, Q') ∧ zR C' Q' ∧ (qTh Q' = 0 → O' 0 = b.toInt64) := by
  unfold jx_X_call_115 jx_Q_call_297
  rw [if_neg (by rw [zoob_nI (by omega)]; omega), show kOu C (nI k).toNatClampNeg = out by rw [nI_clamp (by omega)]; exact ho]
  by_cases h2 : out = -2
  · rw [if_pos h2, if_pos h2, zbind_some, zcase_r, if_neg (by decide), if_pos rfl, zlet_eq, if_neg (show ¬ qTh (qTh' Q 2) ≤ 0 from (by decide : ¬ (2 : Int32) ≤ 0))]
    exact ⟨C, O, 0, qTh' Q 2, rfl, rfl, h, fun q => absurd q (by decide : ¬ (2 : Int32) = 0)⟩
  · rw [if_neg h2, if_neg h2]
    by_cases h3 : out = -3
    · rw [if_pos h3, if_pos h3, zbind_some, zcase_r, if_neg (by decide), if_neg (by decide), if_pos rfl, zlet_eq, if_neg (show ¬ qTh (qTh' Q 3) ≤ 0 from (by decide : ¬ (3 : Int32) ≤ 0))]
      exact ⟨C, O, 0, qTh' Q 3, rfl, rfl, h, fun q => absurd q (by decide : ¬ (3 : Int32) = 0)⟩
    · rw [if_neg h3, if_neg h3, zbind_some, zcase_l, zlet_eq, if_pos (show qTh (qTh' Q 0) ≤ 0 from Int32.le_refl _)]
      exact ⟨C, _, out, qTh' Q 0, rfl, rfl, h, fun _ => zupdL_at _ _ _⟩
theorem zlow0 (row : Int64) : zlow row 0 = 0 := by
  unfold zlow
  rw [show (((1 : Int64) <<< (((8 : Int32) * nI 0).toInt64 &&& 63)) - 1) = 0 by decide]
  exact Int64.and_zero
theorem zvl_low {row : Int64} {c k : Nat} (hc : c < 7) (hk : k < c) : zvl tn (zlow row c) k = zvl tn row k := by
  unfold zvl
  rw [zlow_byte row hc hk]
end
