/-! PURE ROWS: member, the whole -/
def zlow (row : Int64) (c : Nat) : Int64 := row &&& (((1 : Int64) <<< (((8 : Int32) * nI c).toInt64 &&& 63)) - 1)
theorem zRK_D {C : ZC} {Q : ZQ} (h : zRK C Q) : ∃ kn, kHe C = nI kn ∧ qKe Q = nI kn ∧ kn ≤ 100 ∧ C.2.2.2.1.2 = Q.2.2.2.1 := by
  obtain ⟨kn, h1, h2, h3, h4, h5, h6, h7, h8⟩ := h
  refine ⟨kn, h1, h2, h3, ?_⟩
  show (kTy C, kNa C, kSz C, kCl C, kOu C) = (qKt Q, qKn Q, qKm Q, qKc Q, qKa Q)
  rw [h4, h5, h6, h7, h8]
theorem zRK_of {C : ZC} {Q : ZQ} {kn : Nat} (h1 : kHe C = nI kn) (h2 : qKe Q = nI kn) (h3 : kn ≤ 100) (h4 : C.2.2.2.1.2 = Q.2.2.2.1) : zRK C Q := by
  refine ⟨kn, h1, h2, h3, ?_, ?_, ?_, ?_, ?_⟩
  · show C.2.2.2.1.2.1 = Q.2.2.2.1.1; rw [h4]
  · show C.2.2.2.1.2.2.1 = Q.2.2.2.1.2.1; rw [h4]
  · show C.2.2.2.1.2.2.2.1 = Q.2.2.2.1.2.2.1; rw [h4]
  · show C.2.2.2.1.2.2.2.2.1 = Q.2.2.2.1.2.2.2.1; rw [h4]
  · show C.2.2.2.1.2.2.2.2.2 = Q.2.2.2.1.2.2.2.2; rw [h4]
def zpw (f : Nat → Int32) (m : Nat) (row : Int64) (k i : Nat) : Int32 := if 4 * m ≤ i ∧ i < 4 * m + k then nI (zby row (i - 4 * m)) else f i
section
variable {n : Nat} {C : ZC} {Q : ZQ} {tn mn : Nat}
theorem q_L291 {c m : Nat} (a2 a6 : Int32) (row : Int64) (hc : c ≤ 4) (hm : m < 80) (hn : 64 < n) : fx_Q_member_L291 n a2 (nI c) row a6 (nI m) 0 Q = some (322, nI c, qPa' Q (zpw (qPa Q) m row c)) := by
  unfold fx_Q_member_L291
  have e0 : zpw (qPa Q) m row 0 = qPa Q := by
    funext i
    unfold zpw
    rw [if_neg (by omega)]
  have e := zl_scan (step := fun (st : Int32 × ZQ) => st_Q_member_L291 n a2 (nI c) row a6 (nI m) st.1 st.2) (r := (322, nI c, qPa' Q (zpw (qPa Q) m row c))) (st := fun k => (nI k, qPa' Q (zpw (qPa Q) m row k))) c (n := n) (by omega) (fun k hk => ?_) ?_
  · rw [e0] at e
    exact e
  · show st_Q_member_L291 n a2 (nI c) row a6 (nI m) (nI k) (qPa' Q (zpw (qPa Q) m row k)) = _
    unfold st_Q_member_L291
    have ei : (4 : Int32) * nI m + nI k = nI (4 * m + k) := by rw [nL4, pk_mul, nI_add]
    rw [if_neg (nI_ge hk (by omega)), q_byteOf row (by omega), zbind1_some, ei, if_neg (by rw [zoob_nI (by omega)]; omega), zlet_eq, nI_clamp (n := 4 * m + k) (by omega), nI_1]
    show some (Sum.inl (nI (k + 1), qPa' Q (upd (zpw (qPa Q) m row k) (4 * m + k) (nI (zby row k))))) = _
    have : upd (zpw (qPa Q) m row k) (4 * m + k) (nI (zby row k)) = zpw (qPa Q) m row (k + 1) := by
      funext i
      by_cases ej : i = 4 * m + k
      · subst ej
        rw [zupd_at]
        unfold zpw
        rw [if_pos (by omega), Nat.add_sub_cancel_left]
      · rw [zupd_ne _ _ ej]
        unfold zpw
        by_cases q : 4 * m ≤ i ∧ i < 4 * m + k
        · rw [if_pos q, if_pos (by omega)]
        · rw [if_neg q, if_neg (by omega)]
    rw [this]
  · show st_Q_member_L291 n a2 (nI c) row a6 (nI m) (nI c) (qPa' Q (zpw (qPa Q) m row c)) = _
    unfold st_Q_member_L291
    rw [if_pos (nI_le (Nat.le_refl _) (by omega))]
theorem c_isOf {k : Nat} (hk : k < 80) (a b : Int32) : fx_M_isOf n C (nI k) a b = some (b2i (decide (mOw C k = a) && decide (mNa C k = b)), C) := by
  have hz : ¬ zoob (nI k) 80 := by rw [zoob_nI (by omega)]; omega
  unfold fx_M_isOf
  rw [if_neg hz, show mOw C (nI k).toNatClampNeg = mOw C k by rw [nI_clamp (by omega)], show mNa C (nI k).toNatClampNeg = mNa C k by rw [nI_clamp (by omega)]]
  by_cases h1 : mOw C k = a
  · rw [if_pos h1, if_neg hz, decide_eq_true h1, Bool.true_and]
    by_cases h2 : mNa C k = b
    · rw [if_pos h2, decide_eq_true h2]; rfl
    · rw [if_neg h2, decide_eq_false h2]; rfl
  · rw [if_neg h1, decide_eq_false h1]; rfl
def zsc (C : ZC) (o m s : Int32) (r : Int64) (k : Nat) : Bool := (decide (mOw C k = o) && decide (mNa C k = m)) && (decide (mSz C k = s) && decide (mPa C k = r))
theorem c_isToldM (o m s : Int32) (r : Int64) (hM : mTo C = nI mn) (hmn : mn ≤ 80) (hn : 100 < n) : fx_M_isTold n C o m s r = some (b2i (zany (zsc C o m s r) mn), C) := by
  unfold fx_M_isTold fx_M_isTold_L3
  have stp : ∀ k, k < mn → st_M_isTold_L3 n o m s r (nI k) C = if zsc C o m s r k = true then some (.inr (47, nI k, C)) else some (.inl (nI (k + 1), C)) := fun k hk => by
    have hz : ¬ zoob (nI k) 80 := by rw [zoob_nI (by omega)]; omega
    have ecl : (nI k).toNatClampNeg = k := nI_clamp (by omega)
    unfold st_M_isTold_L3 zsc
    rw [hM, if_neg (nI_ge hk (by omega)), c_isOf (by omega), zbind_some, b2i_if0, nI_1, show mSz C (nI k).toNatClampNeg = mSz C k by rw [ecl], show mPa C (nI k).toNatClampNeg = mPa C k by rw [ecl]]
    cases decide (mOw C k = o) && decide (mNa C k = m) with
    | false => rw [if_neg (by decide), Bool.false_and, if_neg (by decide)]
    | true =>
      rw [if_pos rfl, if_neg hz, Bool.true_and]
      by_cases q3 : mSz C k = s
      · rw [if_pos q3, if_neg hz, decide_eq_true q3, Bool.true_and]
        by_cases q4 : mPa C k = r
        · rw [if_pos ((zcmp0 _ _).mpr q4), decide_eq_true q4, if_pos rfl]
        · rw [if_neg (fun q => q4 ((zcmp0 _ _).mp q)), decide_eq_false q4, if_neg (by decide)]
      · rw [if_neg q3, decide_eq_false q3, Bool.false_and, if_neg (by decide)]
  rcases zl_ret (step := fun (st : Int32 × ZC) => st_M_isTold_L3 n o m s r st.1 st.2) (zsc C o m s r) mn C (fun v => (47, v, C)) (fun v => (55, v, C)) stp (by
    show st_M_isTold_L3 n o m s r (nI mn) C = _
    unfold st_M_isTold_L3
    rw [hM, if_pos (nI_le (Nat.le_refl _) (by omega))]) (n := n) (by omega) with ⟨h, v, e⟩ | ⟨h, v, e⟩
  · rw [e, zbL2_some, if_pos rfl, h]; rfl
  · rw [e, zbL2_some, if_neg (by decide), if_pos rfl, h]; rfl
theorem zlow_lt (row : Int64) {c : Nat} (hc : c < 7) : (zlow row c).toBitVec.toNat < 2 ^ (8 * c) := by
  unfold zlow
  rw [zlow_nat row hc]
  exact Nat.mod_lt _ (Nat.two_pow_pos _)
theorem zlow_byte (row : Int64) {c k : Nat} (hc : c < 7) (hk : k < c) : zby (zlow row c) k = zby row k := zlow_by row hc hk
theorem zs_same (hM : zRM C Q tn mn) (o m : Int32) {c : Nat} (hc : c ≤ 4) (row : Int64) : zany (zsc C o m (nI c) (zlow row c)) mn = zany (zsm Q o m c row) mn := by
  obtain ⟨m1, m2, m3, m4, m5, m6, m7, m8⟩ := hM
  refine zany_congr fun k hk => ?_
  unfold zsc zsm
  rw [m4, m5, m6, Bool.and_assoc]
  congr 1
  congr 1
  by_cases q : qMa Q k = nI c
  · rw [decide_eq_true q, Bool.true_and, Bool.true_and]
    obtain ⟨c', e1, e2, -, -, e5, e6⟩ := m8 k hk
    have : c' = c := by
      rw [e1, nI_eq (by omega) (by omega)] at q
      exact q
    subst this
    rw [Bool.eq_iff_iff, decide_eq_true_eq, zall_iff]
    constructor
    · intro h i hi
      rw [decide_eq_true_eq, (e6 i hi).1, h, zlow_byte row (by omega) hi]
    · intro h
      refine zlow_eq e5 (zlow_lt row (by omega)) fun i hi => ?_
      have h1 := h i hi
      rw [decide_eq_true_eq, (e6 i hi).1] at h1
      have b1 := zby_lt (mPa C k) i
      have b2 := zby_lt row i
      rw [nI_eq (by omega) (by omega)] at h1
      rw [h1, zlow_byte row (by omega) hi]
  · rw [decide_eq_false q, Bool.false_and, Bool.false_and]
theorem c_isName (a : Int32) : fx_X_isName n a = some (if a < 0 then 0 else if (10 : Int32) ≤ a then 0 else 1) := by
  unfold fx_X_isName
  split
  · rfl
  · split <;> rfl
theorem c_isFullM (hM : mTo C = nI mn) (hmn : mn ≤ 80) : fx_M_isFull n C = some (b2i (decide (80 ≤ mn)), C) := by
  unfold fx_M_isFull
  rw [hM, nL80]
  by_cases h : mn < 80
  · rw [if_pos (nI_lt h (by omega)), decide_eq_false (by omega)]; rfl
  · rw [if_neg (nI_nlt (by omega) (by omega)), decide_eq_true (by omega)]; rfl
theorem c_addM (o m s a6 : Int32) (r : Int64) (hM : mTo C = nI mn) (hmn : mn < 80) (h6 : a6 = 0 ∨ a6 = 1) : fx_M_add n C o m s r a6 = some (nI mn, mTo' (mVa' (mPa' (mSz' (mNa' (mOw' C (upd (mOw C) mn o)) (upd (mNa C) mn m)) (upd (mSz C) mn s)) (vp_updL (mPa C) mn r)) (upd (mVa C) mn a6)) (nI (mn + 1))) := by
  have h1 : ¬ zoob (nI mn) 80 := by rw [zoob_nI (by omega)]; omega
  unfold fx_M_add
  rw [hM, if_pos (show nI mn < 80 from nI_lt (b := 80) hmn (by omega)), if_neg h1, zlet_eq, if_neg h1, zlet_eq, if_neg h1, zlet_eq, if_neg h1, zlet_eq, if_neg h1, zlet_eq, zlet_eq, nI_clamp (by omega), vnar01 h6]
  show some (nI mn, mTo' _ (mTo C + 1)) = _
  rw [hM, nI_1]
end
