/-! PURE ROWS: which fit -/
def zsz (C : ZC) (m : Nat) : Nat := (mSz C m).toNatClampNeg
def zpm (C : ZC) (m i : Nat) : Nat := zby (mPa C m) (if i < zsz C m then i else zsz C m - 1)
def zub (v p : Nat) : Bool := (decide (v = 3) && decide (p < 2)) || ((decide (v = 4) && decide (p = 1)) || (decide (v = 5) && decide (p = 2)))
def zgo (C : ZC) (ph v p : Nat) : Bool := if p ≤ 2 then (decide (1 < ph) && zub v p) else (decide (v = 255) || zbt (tUp C v) p)
def ztk (C : ZC) (ph nv m : Nat) : Bool := if ph = 3 then (decide (mVa C m = 1) && decide (zsz C m - 1 ≤ nv)) else (decide (mVa C m = 0) && decide (zsz C m = nv))
def zft (C : ZC) (ph nv : Nat) (row : Int64) (m : Nat) : Bool := ztk C ph nv m && zall (fun i => zgo C ph (zby row i) (zpm C m i)) nv
/-- values that are good -/
def zvl (tn : Nat) (row : Int64) (k : Nat) : Bool := decide (zby row k = 255) || (decide (2 < zby row k) && decide (zby row k < 8 + tn))
section
variable {n : Nat} {C : ZC} {Q : ZQ} {tn mn : Nat}
theorem c_isPrim {p : Nat} (hp : p < 2 ^ 31) : fx_T_isPrimitive n (nI p) = some (b2i (decide (p ≤ 2))) := by
  unfold fx_T_isPrimitive
  rw [if_neg (nI_pos hp)]
  by_cases h : p ≤ 2
  · rw [if_neg (show ¬ (2 : Int32) < nI p from nI_nlt (b := p) (a := 2) h (by omega)), decide_eq_true h]; rfl
  · rw [if_pos (show (2 : Int32) < nI p from nI_lt (a := 2) (by omega) hp), decide_eq_false h]; rfl
theorem nI_dec {a b : Nat} (ha : a < 2 ^ 31) (hb : b < 2 ^ 31) {α : Type} (x y : α) : (if nI a = nI b then x else y) = if a = b then x else y := by
  by_cases h : a = b
  · rw [if_pos (by rw [h]), if_pos h]
  · rw [if_neg (by rw [nI_eq ha hb]; exact h), if_neg h]
theorem c_unbox {v p : Nat} (hv : v < 256) (hp : p ≤ 2) : fx_H_unboxesTo n (nI v) (nI p) = some (b2i (zub v p)) := by
  unfold fx_H_unboxesTo zub
  rcases (show p = 0 ∨ p = 1 ∨ p = 2 by omega) with rfl | rfl | rfl
  all_goals
    by_cases h3 : v = 3
    · subst h3; rfl
    · rw [if_neg (show ¬ nI v = 3 from fun q => h3 ((nI_eq (by omega) (by omega)).mp q))]
      by_cases h4 : v = 4
      · subst h4; rfl
      · rw [if_neg (show ¬ nI v = 4 from fun q => h4 ((nI_eq (by omega) (by omega)).mp q))]
        by_cases h5 : v = 5
        · subst h5; rfl
        · rw [if_neg (show ¬ nI v = 5 from fun q => h5 ((nI_eq (by omega) (by omega)).mp q)), decide_eq_false h3, decide_eq_false h4, decide_eq_false h5]; rfl
theorem c_goesTo {ph v p : Nat} (hT : tTo C = nI tn) (ht : tn ≤ 24) (hP : hPh C = nI ph) (hph : ph < 5) (hv : v = 255 ∨ v < 8 + tn) (hp : p < 8 + tn) : fx_H_goesTo n C (nI v) (nI p) = some (b2i (zgo C ph v p), C) := by
  unfold fx_H_goesTo zgo
  rw [c_isPrim (by omega), zbind1_some, b2i_if0]
  by_cases h : p ≤ 2
  · rw [decide_eq_true h, if_pos rfl, if_pos h, hP]
    by_cases h1 : ph ≤ 1
    · rw [if_pos (show nI ph ≤ 1 from nI_le (b := 1) h1 (by omega)), decide_eq_false (by omega)]; rfl
    · rw [if_neg (show ¬ nI ph ≤ 1 from nI_ge (a := 1) (by omega) (by omega)), c_unbox (by omega) h, zbind1_some, b2i_if', decide_eq_true (by omega), Bool.true_and]
  · rw [decide_eq_false h, if_neg (by decide), if_neg h]
    by_cases h2 : v = 255
    · subst h2
      rfl
    · rw [if_neg (show ¬ nI v = 255 from fun q => h2 ((nI_eq (by omega) (by omega)).mp q)), c_isSubN hT ht (by omega) hp, zbind_some, b2i_if', decide_eq_false h2, Bool.false_or]
theorem zM_sz (hM : zRM C Q tn mn) {m : Nat} (hm : m < mn) : mSz C m = nI (zsz C m) ∧ qMa Q m = nI (zsz C m) ∧ zsz C m ≤ 4 ∧ (mVa C m = 0 ∨ mVa C m = 1) ∧ (mVa C m = 1 → 1 ≤ zsz C m) ∧ ∀ k, k < zsz C m → qPa Q (4 * m + k) = nI (zby (mPa C m) k) ∧ zby (mPa C m) k < 8 + tn := by
  obtain ⟨m1, m2, m3, m4, m5, m6, m7, m8⟩ := hM
  obtain ⟨c, a1, a2, a3, a4, a5, a6⟩ := m8 m hm
  have e : zsz C m = c := by
    unfold zsz
    rw [m6, a1, nI_clamp (by omega)]
  rw [e, m6, m7]
  exact ⟨a1, a1, a2, a3, a4, a6⟩
theorem zpm_lt (hM : zRM C Q tn mn) {m i : Nat} (hm : m < mn) (h1 : 1 ≤ zsz C m) : zpm C m i < 8 + tn := by
  obtain ⟨-, -, -, -, -, h⟩ := zM_sz hM hm
  unfold zpm
  split
  · exact (h i (by assumption)).2
  · exact (h _ (by omega)).2
theorem c_param (hM : zRM C Q tn mn) {m i : Nat} (hm : m < mn) (h1 : 1 ≤ zsz C m) (hi : i < 8) : fx_M_parameterFor n C (nI m) (nI i) = some (nI (zpm C m i), C) := by
  obtain ⟨a1, a2, a3, -, -, -⟩ := zM_sz hM hm
  have hmn := hM.2.2.1
  have hz : ¬ zoob (nI m) 80 := by rw [zoob_nI (by omega)]; omega
  have ecl : (nI m).toNatClampNeg = m := nI_clamp (by omega)
  unfold fx_M_parameterFor
  rw [if_neg hz, if_neg hz, show mSz C (nI m).toNatClampNeg = nI (zsz C m) by rw [ecl]; exact a1, show mPa C (nI m).toNatClampNeg = mPa C m by rw [ecl], show nI (zsz C m) - 1 = nI (zsz C m - 1) from pk_sub (b := 1) h1]
  unfold zpm
  by_cases h : i < zsz C m
  · rw [if_neg (show ¬ nI (zsz C m - 1) < nI i from nI_nlt (by omega) (by omega)), c_byteAt _ (by omega), zbind1_some, if_pos h]
  · rw [if_neg h]
    by_cases h2 : zsz C m - 1 < i
    · rw [if_pos (nI_lt h2 (by omega)), c_byteAt _ (by omega), zbind1_some]
    · rw [if_neg (show ¬ nI (zsz C m - 1) < nI i from nI_nlt (by omega) (by omega)), c_byteAt _ (by omega), zbind1_some, show i = zsz C m - 1 by omega]
theorem q_param (hM : zRM C Q tn mn) {m i : Nat} (hm : m < mn) (h1 : 1 ≤ zsz C m) (hi : i < 8) : fx_Q_parameterAt n Q (nI m) (nI i) = some (nI (zpm C m i), Q) := by
  obtain ⟨a1, a2, a3, -, -, a6⟩ := zM_sz hM hm
  have hmn := hM.2.2.1
  have hz : ¬ zoob (nI m) 80 := by rw [zoob_nI (by omega)]; omega
  have ecl : (nI m).toNatClampNeg = m := nI_clamp (by omega)
  unfold fx_Q_parameterAt
  rw [if_neg hz, show qMa Q (nI m).toNatClampNeg = nI (zsz C m) by rw [ecl]; exact a2]
  unfold zpm
  by_cases h : i < zsz C m
  · have ei : (4 : Int32) * nI m + nI i = nI (4 * m + i) := by rw [nL4, pk_mul, nI_add]
    rw [if_neg (nI_ge h (by omega)), ei, if_neg (by rw [zoob_nI (by omega)]; omega), nI_clamp (n := 4 * m + i) (by omega), (a6 i h).1, if_pos h]
  · have ei : (4 : Int32) * nI m + nI (zsz C m - 1) = nI (4 * m + (zsz C m - 1)) := by rw [nL4, pk_mul, nI_add]
    rw [if_pos (nI_le (by omega) (by omega)), if_neg hz, show nI (zsz C m) - 1 = nI (zsz C m - 1) from pk_sub (b := 1) h1, ei, if_neg (by rw [zoob_nI (by omega)]; omega), nI_clamp (n := 4 * m + (zsz C m - 1)) (by omega), (a6 _ (by omega)).1, if_neg h]
theorem c_takes (hM : zRM C Q tn mn) {m ph nv : Nat} (hm : m < mn) (hP : hPh C = nI ph) (hph : ph < 5) (hnv : nv < 8) : fx_H_takesSoMany n C (nI m) (nI nv) = some (b2i (ztk C ph nv m), C) := by
  obtain ⟨a1, a2, a3, a4, a5, -⟩ := zM_sz hM hm
  have hmn := hM.2.2.1
  have hz : ¬ zoob (nI m) 80 := by rw [zoob_nI (by omega)]; omega
  have ecl : (nI m).toNatClampNeg = m := nI_clamp (by omega)
  unfold fx_H_takesSoMany ztk
  rw [hP, show mSz C (nI m).toNatClampNeg = nI (zsz C m) by rw [ecl]; exact a1, show mVa C (nI m).toNatClampNeg = mVa C m by rw [ecl]]
  by_cases h3 : ph = 3
  · rw [if_pos (show nI ph = 3 by rw [h3]; rfl), if_pos h3, if_neg hz]
    rcases a4 with q | q
    · rw [if_pos q, q]; rfl
    · rw [if_neg (by rw [q]; exact i01), if_neg hz, show nI (zsz C m) - 1 = nI (zsz C m - 1) from pk_sub (b := 1) (a5 q), decide_eq_true q, Bool.true_and]
      by_cases h : zsz C m - 1 ≤ nv
      · rw [if_neg (nI_nlt h (by omega)), decide_eq_true h]; rfl
      · rw [if_pos (nI_lt (by omega) (by omega)), decide_eq_false h]; rfl
  · rw [if_neg (show ¬ nI ph = 3 from fun q => h3 ((nI_eq (by omega) (by omega)).mp q)), if_neg h3, if_neg hz]
    rcases a4 with q | q
    · rw [if_pos q, if_neg hz, decide_eq_true q, Bool.true_and]
      by_cases h : zsz C m = nv
      · rw [if_pos (by rw [h]), decide_eq_true h]; rfl
      · rw [if_neg (fun q => h ((nI_eq (by omega) (by omega)).mp q.symm)), decide_eq_false h]; rfl
    · rw [if_neg (by rw [q]; exact i01), q]; rfl
theorem ztk_pos (hM : zRM C Q tn mn) {m ph nv i : Nat} (hm : m < mn) (h : ztk C ph nv m = true) (hi : i < nv) : 1 ≤ zsz C m := by
  obtain ⟨-, -, -, -, a5, -⟩ := zM_sz hM hm
  unfold ztk at h
  split at h
  · rw [Bool.and_eq_true] at h
    exact a5 (of_decide_eq_true h.1)
  · rw [Bool.and_eq_true] at h
    have := of_decide_eq_true h.2
    omega
theorem zvl_ok {row : Int64} {k : Nat} (h : zvl tn row k = true) : zby row k = 255 ∨ zby row k < 8 + tn := by
  unfold zvl at h
  rw [Bool.or_eq_true, Bool.and_eq_true] at h
  rcases h with h | h
  · exact Or.inl (of_decide_eq_true h)
  · exact Or.inr (of_decide_eq_true h.2)
theorem c_fits (hT : tTo C = nI tn) (ht : tn ≤ 24) (hM : zRM C Q tn mn) {m ph nv : Nat} (row : Int64) (hm : m < mn) (hP : hPh C = nI ph) (hph : ph < 5) (hnv : nv ≤ 6) (hv : ∀ k, k < nv → zvl tn row k = true) (hn : 100 < n) : fx_H_fits n C (nI m) (nI nv) row = some (b2i (zft C ph nv row m), C) := by
  unfold fx_H_fits fx_H_fits_L14 zft
  rw [c_takes hM hm hP hph (by omega), zbind_some, b2i_if0]
  cases htk : ztk C ph nv m with
  | false => rfl
  | true =>
    rw [if_pos rfl, Bool.true_and]
    have stp : ∀ k, k < nv → st_H_fits_L14 n (nI m) (nI nv) row (nI k) C = if (!(zgo C ph (zby row k) (zpm C m k))) = true then some (.inr (43, nI k, C)) else some (.inl (nI (k + 1), C)) := fun k hk => by
      have h1 := ztk_pos hM hm htk hk
      unfold st_H_fits_L14
      rw [if_neg (nI_ge hk (by omega)), c_byteAt row (by omega), zbind1_some, c_param hM hm h1 (by omega), zbind_some, c_goesTo hT ht hP hph (zvl_ok (hv k hk)) (zpm_lt hM hm h1), zbind_some, b2i_if0, nI_1]
      cases zgo C ph (zby row k) (zpm C m k) <;> rfl
    rcases zl_ret (step := fun (st : Int32 × ZC) => st_H_fits_L14 n (nI m) (nI nv) row st.1 st.2) (fun k => !(zgo C ph (zby row k) (zpm C m k))) nv C (fun v => (43, v, C)) (fun v => (51, v, C)) stp (by
      show st_H_fits_L14 n (nI m) (nI nv) row (nI nv) C = _
      unfold st_H_fits_L14
      rw [if_pos (nI_le (Nat.le_refl _) (by omega))]) (n := n) (by omega) with ⟨h, v, e⟩ | ⟨h, v, e⟩
    · rw [e, zbL2_some, if_pos rfl]
      unfold zall
      rw [h]; rfl
    · rw [e, zbL2_some, if_neg (by decide), if_pos rfl]
      unfold zall
      rw [h]; rfl
/-! the reference -/
/-- only the marks differ -/
def zIo (Q S : ZQ) : Prop := ∃ f : Nat → Int32, S = qIo' Q f ∧ ∀ u, f u = 0 ∨ f u = 1
theorem zIo.T {S : ZQ} (h : zIo Q S) (hT : zRT C Q tn) : zRT C S tn := by
  obtain ⟨f, rfl, hf⟩ := h
  exact hT.io hf
theorem zIo.M {S : ZQ} (h : zIo Q S) (hM : zRM C Q tn mn) : zRM C S tn mn := by
  obtain ⟨f, rfl, hf⟩ := h
  exact hM
theorem zIo.tr {S R : ZQ} (h : zIo Q S) (h2 : zIo S R) : zIo Q R := by
  obtain ⟨f, rfl, hf⟩ := h
  obtain ⟨g, rfl, hg⟩ := h2
  exact ⟨g, rfl, hg⟩
theorem zIo.rf (hT : zRT C Q tn) : zIo Q Q := ⟨qIo Q, rfl, hT.2.2.2.2.2.2.2.2⟩
theorem q_under (hT : zRT C Q tn) {t u : Nat} (ht : t < 8 + tn) (hu : u < 8 + tn) (hn : 100 < n) : ∃ S, fx_Q_isUnder n Q (nI t) (nI u) = some (b2i (zbt (tUp C t) u), S) ∧ zIo Q S := by
  have h24 := hT.2.2.1.1
  obtain ⟨f, e, hf⟩ := q_isUnder (n := n) (S := Q) (up := tUp C) (t := t) (u := u) hT.2.1 hT.2.2.1 hT.2.2.2.2.2.2.2.1 hT.2.2.2.2.2.2.2.2 ht (by omega) (by omega)
  exact ⟨_, e, f, rfl, hf⟩
theorem q_goes (hT : zRT C Q tn) {ph v p : Nat} (hv : v = 255 ∨ v < 8 + tn) (hp : p < 8 + tn) (hn : 100 < n) : ∃ S, fx_Q_goes n Q (nI v) (nI p) (b2i (decide (1 < ph))) = some (b2i (zgo C ph v p), S) ∧ zIo Q S := by
  have h24 := hT.2.2.1.1
  unfold fx_Q_goes zgo
  by_cases h : p ≤ 2
  · refine ⟨Q, ?_, zIo.rf hT⟩
    rw [if_pos (show nI p ≤ 2 from nI_le (b := 2) h (by omega)), if_pos h, b2i_if0]
    cases decide (1 < ph) with
    | false => rfl
    | true =>
      rw [if_pos rfl, Bool.true_and]
      unfold jx_Q_goes_41 jx_Q_goes_51 zub
      rcases (show p = 0 ∨ p = 1 ∨ p = 2 by omega) with rfl | rfl | rfl
      all_goals
        by_cases h3 : v = 3
        · subst h3; rfl
        · rw [if_neg (show ¬ nI v = 3 from fun q => h3 ((nI_eq (by omega) (by omega)).mp q))]
          by_cases h4 : v = 4
          · subst h4; rfl
          · rw [if_neg (show ¬ nI v = 4 from fun q => h4 ((nI_eq (by omega) (by omega)).mp q))]
            by_cases h5 : v = 5
            · subst h5; rfl
            · rw [if_neg (show ¬ nI v = 5 from fun q => h5 ((nI_eq (by omega) (by omega)).mp q)), decide_eq_false h3, decide_eq_false h4, decide_eq_false h5]; rfl
  · rw [if_neg (show ¬ nI p ≤ 2 from nI_ge (a := 2) (by omega) (by omega)), if_neg h]
    by_cases h2 : v = 255
    · subst h2
      exact ⟨Q, rfl, zIo.rf hT⟩
    · obtain ⟨S, e, hS⟩ := q_under (n := n) hT (t := v) (u := p) (by omega) hp hn
      refine ⟨S, ?_, hS⟩
      rw [if_neg (show ¬ nI v = 255 from fun q => h2 ((nI_eq (by omega) (by omega)).mp q)), e, zbind_some, b2i_if', decide_eq_false h2, Bool.false_or]
theorem q_fits (hT : zRT C Q tn) (hM : zRM C Q tn mn) {m ph nv : Nat} (row : Int64) (hm : m < mn) (hph1 : 1 ≤ ph) (hph : ph ≤ 3) (hnv : nv ≤ 6) (hv : ∀ k, k < nv → zvl tn row k = true) (hq : ∀ k, k < nv → qVl Q k = nI (zby row k)) (hn : 100 < n) : ∃ S, fx_Q_fits n Q (nI m) (nI nv) (nI ph) = some (b2i (zft C ph nv row m), S) ∧ zIo Q S := by
  obtain ⟨a1, a2, a3, a4, a5, -⟩ := zM_sz hM hm
  have hmn := hM.2.2.1
  have h24 := hT.2.2.1.1
  have hz : ¬ zoob (nI m) 80 := by rw [zoob_nI (by omega)]; omega
  have ecl : (nI m).toNatClampNeg = m := nI_clamp (by omega)
  have loop : ztk C ph nv m = true → ∃ v S, fx_Q_fits_L59 n (nI m) (nI nv) (nI ph) 1 0 Q = some (106, b2i (zall (fun i => zgo C ph (zby row i) (zpm C m i)) nv), v, S) ∧ zIo Q S := by
    intro htk
    unfold fx_Q_fits_L59
    obtain ⟨v, S', h1, e⟩ := zl_all (step := fun (st : Int32 × Int32 × ZQ) => st_Q_fits_L59 n (nI m) (nI nv) (nI ph) st.1 st.2.1 st.2.2) (fun b v S => (106, b, v, S)) (fun S => zIo Q S) (fun i => zgo C ph (zby row i) (zpm C m i)) nv (fun b S hS => by
      show st_Q_fits_L59 n (nI m) (nI nv) (nI ph) (b2i b) (nI nv) S = _
      unfold st_Q_fits_L59
      rw [if_pos (nI_le (Nat.le_refl _) (by omega))]) (fun k S hk hS => by
      show st_Q_fits_L59 n (nI m) (nI nv) (nI ph) 0 (nI k) S = _
      unfold st_Q_fits_L59
      rw [if_neg (nI_ge hk (by omega)), if_pos rfl]) (fun k S hk hS => by
      have hp1 := ztk_pos hM hm htk hk
      obtain ⟨S2, e2, hS2⟩ := q_goes (n := n) (hS.T hT) (ph := ph) (zvl_ok (hv k hk)) (zpm_lt hM hm hp1 (i := k)) hn
      refine ⟨S2, hS.tr hS2, ?_⟩
      show st_Q_fits_L59 n (nI m) (nI nv) (nI ph) 1 (nI k) S = _
      unfold st_Q_fits_L59
      have evl : qVl S (nI k).toNatClampNeg = nI (zby row k) := by
        obtain ⟨f, rfl, -⟩ := hS
        rw [nI_clamp (by omega)]
        exact hq k hk
      rw [if_neg (nI_ge hk (by omega)), if_neg i01, if_neg (by rw [zoob_nI (by omega)]; omega), q_param (hS.M hM) hm hp1 (by omega), zbind_some, evl]
      by_cases hh : ph ≤ 1
      · rw [decide_eq_false (by omega), show b2i false = 0 from rfl] at e2
        rw [if_pos (show nI ph ≤ 1 from nI_le (b := 1) hh (by omega)), e2, zbind_some, nI_1]
      · rw [decide_eq_true (by omega), show b2i true = 1 from rfl] at e2
        rw [if_neg (show ¬ nI ph ≤ 1 from nI_ge (a := 1) (by omega) (by omega)), e2, zbind_some, nI_1]) (n := n) (by omega) true Q (zIo.rf hT)
    rw [Bool.true_and] at e
    exact ⟨v, S', e, h1⟩
  unfold fx_Q_fits
  rw [if_neg hz, if_neg hz, show qMa Q (nI m).toNatClampNeg = nI (zsz C m) by rw [ecl]; exact a2, show qVa Q (nI m).toNatClampNeg = mVa C m by rw [ecl, hM.2.2.2.2.2.2.1]]
  unfold jx_Q_fits_24 zft
  by_cases h3 : ph = 3
  · subst h3
    rw [if_pos (show nI 3 = 3 from rfl)]
    rcases a4 with q | q
    · refine ⟨Q, ?_, zIo.rf hT⟩
      rw [if_neg (show ¬ mVa C m = 1 by rw [q]; decide)]
      unfold ztk
      rw [if_pos rfl, q]; rfl
    · rw [if_pos q, if_pos (show (3 : Int32) ≤ nI 3 from Int32.le_refl _), show nI (zsz C m) - 1 = nI (zsz C m - 1) from pk_sub (b := 1) (a5 q)]
      by_cases h : zsz C m - 1 ≤ nv
      · have htk : ztk C 3 nv m = true := by
          unfold ztk
          rw [if_pos rfl, decide_eq_true q, decide_eq_true h]; rfl
        obtain ⟨v, S, e, hS⟩ := loop htk
        refine ⟨S, ?_, hS⟩
        rw [if_pos (nI_le h (by omega)), e, zbL3_some, if_pos rfl, if_pos (b2i_01 _), htk, Bool.true_and]
      · refine ⟨Q, ?_, zIo.rf hT⟩
        rw [if_neg (nI_ge (by omega) (by omega))]
        unfold ztk
        rw [if_pos rfl, decide_eq_false h, Bool.and_false]; rfl
  · rw [if_neg (show ¬ nI ph = 3 from fun q => h3 ((nI_eq (by omega) (by omega)).mp q))]
    rcases a4 with q | q
    · rw [if_pos q, if_neg (show ¬ (3 : Int32) ≤ nI ph from nI_ge (b := 3) (by omega) (by omega))]
      by_cases h : zsz C m = nv
      · have htk : ztk C ph nv m = true := by
          unfold ztk
          rw [if_neg h3, decide_eq_true q, decide_eq_true h]; rfl
        obtain ⟨v, S, e, hS⟩ := loop htk
        refine ⟨S, ?_, hS⟩
        rw [if_pos (by rw [h]), e, zbL3_some, if_pos rfl, if_pos (b2i_01 _), htk, Bool.true_and]
      · refine ⟨Q, ?_, zIo.rf hT⟩
        rw [if_neg (fun q => h ((nI_eq (by omega) (by omega)).mp q))]
        unfold ztk
        rw [if_neg h3, decide_eq_false h, Bool.and_false]; rfl
    · refine ⟨Q, ?_, zIo.rf hT⟩
      rw [if_neg (show ¬ mVa C m = 0 by rw [q]; decide)]
      unfold ztk
      rw [if_neg h3, q]; rfl
end
