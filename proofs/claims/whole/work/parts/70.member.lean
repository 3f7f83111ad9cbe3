/-! PURE ROWS: loops of two kinds -/
theorem zall_succ (P : Nat → Bool) (N : Nat) : zall P (N + 1) = (zall P N && P N) := by
  unfold zall
  rw [show zany (fun k => !(P k)) (N + 1) = (zany (fun k => !(P k)) N || !(P N)) from rfl, Bool.not_or, Bool.not_not]
theorem zl_all {σ ρ : Type} {step : Int32 × Int32 × σ → Option ((Int32 × Int32 × σ) ⊕ ρ)} (mk : Int32 → Int32 → σ → ρ) (I : σ → Prop) (P : Nat → Bool) (c : Nat)
    (hend : ∀ b S, I S → step (b2i b, nI c, S) = some (.inr (mk (b2i b) (nI c) S))) (hstop : ∀ k S, k < c → I S → step (0, nI k, S) = some (.inr (mk 0 (nI k) S)))
    (hgo : ∀ k S, k < c → I S → ∃ S', I S' ∧ step (1, nI k, S) = some (.inl (b2i (P k), nI (k + 1), S'))) {n : Nat} (hn : c < n) (b0 : Bool) (S0 : σ) (h0 : I S0) :
    ∃ v S', I S' ∧ zloop step n (b2i b0, 0, S0) = some (mk (b2i (b0 && zall P c)) v S') := by
  have key : ∀ (d k : Nat) (b : Bool) (S : σ) (n : Nat), k + d = c → d < n → I S → ∃ v S' b', I S' ∧ (b' = true ↔ b = true ∧ ∀ j, k ≤ j → j < c → P j = true) ∧ zloop step n (b2i b, nI k, S) = some (mk (b2i b') v S') := by
    intro d
    induction d with
    | zero =>
      intro k b S n hk hn hS
      have : k = c := by omega
      subst this
      cases n with
      | zero => omega
      | succ n =>
        rw [zloop_succ, hend b S hS]
        exact ⟨_, S, b, hS, ⟨fun q => ⟨q, fun j h1 h2 => by omega⟩, fun q => q.1⟩, rfl⟩
    | succ d ih =>
      intro k b S n hk hn hS
      cases n with
      | zero => omega
      | succ n =>
        rw [zloop_succ]
        cases b with
        | false =>
          rw [show b2i false = 0 from rfl, hstop k S (by omega) hS]
          exact ⟨_, S, false, hS, ⟨fun q => (by cases q), fun q => (by cases q.1)⟩, rfl⟩
        | true =>
          obtain ⟨S1, h1, e1⟩ := hgo k S (by omega) hS
          rw [show b2i true = 1 from rfl, e1]
          obtain ⟨v, S', b', h2, h3, e2⟩ := ih (k + 1) (P k) S1 n (by omega) (by omega) h1
          refine ⟨v, S', b', h2, ?_, e2⟩
          rw [h3]
          constructor
          · rintro ⟨q1, q2⟩
            refine ⟨rfl, fun j g1 g2 => ?_⟩
            rcases Nat.lt_or_ge k j with g | g
            · exact q2 j g g2
            · rw [show j = k by omega]; exact q1
          · rintro ⟨-, q⟩
            exact ⟨q k (Nat.le_refl _) (by omega), fun j g1 g2 => q j (by omega) g2⟩
  obtain ⟨v, S', b', h1, h2, e⟩ := key c 0 b0 S0 n (by omega) hn h0
  refine ⟨v, S', h1, ?_⟩
  have : b' = (b0 && zall P c) := by
    rw [Bool.eq_iff_iff, h2, Bool.and_eq_true, zall_iff]
    exact ⟨fun q => ⟨q.1, fun k hk => q.2 k (by omega) hk⟩, fun q => ⟨q.1, fun j _ g => q.2 j g⟩⟩
  rw [← this]
  exact e
theorem zl_ret {σ ρ : Type} {step : Int32 × σ → Option ((Int32 × σ) ⊕ ρ)} (P : Nat → Bool) (c : Nat) (S : σ) (rf rt : Int32 → ρ) (hgo : ∀ k, k < c → step (nI k, S) = if P k = true then some (.inr (rf (nI k))) else some (.inl (nI (k + 1), S))) (hend : step (nI c, S) = some (.inr (rt (nI c)))) {n : Nat} (hn : c < n) :
    (zany P c = true ∧ ∃ v, zloop step n (0, S) = some (rf v)) ∨ (zany P c = false ∧ ∃ v, zloop step n (0, S) = some (rt v)) := by
  rcases zl_first P c with ⟨k, h1, h2, h3⟩ | h
  · refine Or.inl ⟨zany_t h1 h2, nI k, ?_⟩
    exact zl_scan (step := step) (st := fun k => (nI k, S)) k (n := n) (by omega) (fun j hj => by rw [hgo j (by omega), h3 j hj, if_neg (by decide)]) (by rw [hgo k h1, h2, if_pos rfl])
  · refine Or.inr ⟨zany_f h, nI c, ?_⟩
    exact zl_scan (step := step) (st := fun k => (nI k, S)) c (n := n) (by omega) (fun j hj => by rw [hgo j hj, h j hj, if_neg (by decide)]) hend
theorem xT_dec {tn b : Nat} (ht : tn ≤ 24) (hb : b < 2 ^ 31) : xT tn (nI b) = decide (b < 8 + tn) := by
  by_cases h : b < 8 + tn
  · rw [xT_in ht h, decide_eq_true h]
  · rw [xT_ge ht (nI_le (by omega) hb), decide_eq_false h]
/-! member -/
def zpar (tn : Nat) (row : Int64) (k : Nat) : Bool := decide (zby row k < 8 + tn)
section
variable {n : Nat} {C : ZC} {Q : ZQ} {tn mn : Nat}
theorem c_areParams {c : Nat} (row : Int64) (hT : tTo C = nI tn) (ht : tn ≤ 24) (hc : c ≤ 4) (hn : 64 < n) : fx_X_areParameters n C (nI c) row = some (b2i (zall (zpar tn row) c), C) := by
  unfold fx_X_areParameters fx_X_areParameters_L14
  rw [if_neg (nI_pos (by omega)), if_pos (show nI c ≤ 4 from nI_le (b := 4) hc (by omega))]
  have stp : ∀ k, k < c → st_X_areParameters_L14 n (nI c) row (nI k) C = if (!(zpar tn row k)) = true then some (.inr (36, nI k, C)) else some (.inl (nI (k + 1), C)) := fun k hk => by
    unfold st_X_areParameters_L14
    rw [if_neg (nI_ge hk (by omega)), c_byteAt row (by omega), zbind1_some, c_exists hT ht, zbind_some, b2i_if0, xT_dec ht (by have := zby_lt row k; omega), nI_1]
    show (if zpar tn row k = true then _ else _) = _
    cases zpar tn row k <;> rfl
  rcases zl_ret (step := fun (st : Int32 × ZC) => st_X_areParameters_L14 n (nI c) row st.1 st.2) (fun k => !(zpar tn row k)) c C (fun v => (36, v, C)) (fun v => (44, v, C)) stp (by
    show st_X_areParameters_L14 n (nI c) row (nI c) C = _
    unfold st_X_areParameters_L14
    rw [if_pos (nI_le (Nat.le_refl _) (by omega))]) (n := n) (by omega) with ⟨h, v, e⟩ | ⟨h, v, e⟩
  · rw [e, zbL2_some, if_pos rfl]
    unfold zall
    rw [h]; rfl
  · rw [e, zbL2_some, if_neg (by decide), if_pos rfl]
    unfold zall
    rw [h]; rfl
theorem q_L46f (a1 a2 a3 a6 : Int32) (row : Int64) (hn : 64 < n) : ∃ v, fx_Q_member_L46 n a1 a2 a3 row a6 0 0 Q = some (76, 0, v, Q) := by
  unfold fx_Q_member_L46
  refine ⟨0, zl_scan (step := fun (st : Int32 × Int32 × ZQ) => st_Q_member_L46 n a1 a2 a3 row a6 st.1 st.2.1 st.2.2) (st := fun _ => ((0 : Int32), (0 : Int32), Q)) 0 (by omega) (fun k hk => by omega) ?_⟩
  show st_Q_member_L46 n a1 a2 a3 row a6 0 0 Q = _
  unfold st_Q_member_L46
  by_cases h : a3 ≤ 0
  · rw [if_pos h]
  · rw [if_neg h, if_pos rfl]
theorem q_L46 {c : Nat} (a1 a2 a6 : Int32) (row : Int64) (hT : qTy Q = nI (8 + tn)) (ht : tn ≤ 24) (hc : c ≤ 4) (hn : 64 < n) : ∃ v, fx_Q_member_L46 n a1 a2 (nI c) row a6 1 0 Q = some (76, b2i (zall (zpar tn row) c), v, Q) := by
  unfold fx_Q_member_L46
  obtain ⟨v, S', h1, e⟩ := zl_all (step := fun (st : Int32 × Int32 × ZQ) => st_Q_member_L46 n a1 a2 (nI c) row a6 st.1 st.2.1 st.2.2) (fun b v S => (76, b, v, S)) (fun S => S = Q) (zpar tn row) c (fun b S hS => by
    show st_Q_member_L46 n a1 a2 (nI c) row a6 (b2i b) (nI c) S = _
    unfold st_Q_member_L46
    rw [if_pos (nI_le (Nat.le_refl _) (by omega))]) (fun k S hk hS => by
    show st_Q_member_L46 n a1 a2 (nI c) row a6 0 (nI k) S = _
    unfold st_Q_member_L46
    rw [if_neg (nI_ge hk (by omega)), if_pos rfl]) (fun k S hk hS => by
    refine ⟨Q, rfl, ?_⟩
    subst hS
    show st_Q_member_L46 n a1 a2 (nI c) row a6 1 (nI k) S = _
    unfold st_Q_member_L46
    rw [if_neg (nI_ge hk (by omega)), if_neg i01, q_byteOf row (by omega), zbind1_some, q_isType hT ht, zbind_some, xT_dec ht (by have := zby_lt row k; omega), nI_1]
    rfl) (n := n) (by omega) true Q rfl
  subst h1
  rw [Bool.true_and] at e
  exact ⟨v, e⟩
/-- is there one with the same parameters -/
def zsm (Q : ZQ) (o m : Int32) (c : Nat) (row : Int64) (k : Nat) : Bool := decide (qOw Q k = o) && (decide (qNa Q k = m) && (decide (qMa Q k = nI c) && zall (fun i => decide (qPa Q (4 * k + i) = nI (zby row i))) c))
theorem q_L157 {c m : Nat} {b : Bool} (a1 a2 a6 v8 : Int32) (row : Int64) (hc : c ≤ 4) (hm : m < 80) (hn : 64 < n) : ∃ v, fx_Q_member_L157 n a1 a2 (nI c) row a6 v8 (nI m) (b2i b) 0 Q = some (203, b2i (b && zall (fun i => decide (qPa Q (4 * m + i) = nI (zby row i))) c), v, Q) := by
  unfold fx_Q_member_L157
  obtain ⟨v, S', h1, e⟩ := zl_all (step := fun (st : Int32 × Int32 × ZQ) => st_Q_member_L157 n a1 a2 (nI c) row a6 v8 (nI m) st.1 st.2.1 st.2.2) (fun b v S => (203, b, v, S)) (fun S => S = Q) (fun i => decide (qPa Q (4 * m + i) = nI (zby row i))) c (fun b S hS => by
    show st_Q_member_L157 n a1 a2 (nI c) row a6 v8 (nI m) (b2i b) (nI c) S = _
    unfold st_Q_member_L157
    rw [if_pos (nI_le (Nat.le_refl _) (by omega))]) (fun k S hk hS => by
    show st_Q_member_L157 n a1 a2 (nI c) row a6 v8 (nI m) 0 (nI k) S = _
    unfold st_Q_member_L157
    rw [if_neg (nI_ge hk (by omega)), if_pos rfl]) (fun k S hk hS => by
    refine ⟨Q, rfl, ?_⟩
    subst hS
    show st_Q_member_L157 n a1 a2 (nI c) row a6 v8 (nI m) 1 (nI k) S = _
    unfold st_Q_member_L157
    have ei : (4 : Int32) * nI m + nI k = nI (4 * m + k) := by rw [nL4, pk_mul, nI_add]
    rw [if_neg (nI_ge hk (by omega)), if_neg i01, ei, if_neg (by rw [zoob_nI (by omega)]; omega), q_byteOf row (by omega), zbind1_some, nI_clamp (n := 4 * m + k) (by omega), nI_1]
    by_cases h : qPa S (4 * m + k) = nI (zby row k)
    · rw [if_pos h, decide_eq_true h]; rfl
    · rw [if_neg h, decide_eq_false h]; rfl) (n := n) (by omega) b Q rfl
  subst h1
  exact ⟨v, e⟩
theorem q_L105 {c : Nat} (a1 a2 a6 : Int32) (row : Int64) (hM : qMe Q = nI mn) (hmn : mn ≤ 80) (hc : c ≤ 4) (hn : 100 < n) : ∃ v, fx_Q_member_L105 n a1 a2 (nI c) row a6 0 0 Q = some (226, b2i (zany (zsm Q a1 a2 c row) mn), v, Q) := by
  unfold fx_Q_member_L105
  refine ⟨nI mn, ?_⟩
  refine zl_scan (step := fun (st : Int32 × Int32 × ZQ) => st_Q_member_L105 n a1 a2 (nI c) row a6 st.1 st.2.1 st.2.2) (st := fun k => (b2i (zany (zsm Q a1 a2 c row) k), nI k, Q)) mn (n := n) (by omega) (fun k hk => ?_) ?_
  · show st_Q_member_L105 n a1 a2 (nI c) row a6 (b2i (zany (zsm Q a1 a2 c row) k)) (nI k) Q = _
    have hz : ¬ zoob (nI k) 80 := by rw [zoob_nI (by omega)]; omega
    have ecl : (nI k).toNatClampNeg = k := nI_clamp (by omega)
    have j : ∀ b : Bool, jx_Q_member_L105_152 n (b2i b) a1 a2 (nI c) row a6 (b2i (zany (zsm Q a1 a2 c row) k)) (nI k) Q = some (.inl (b2i (zany (zsm Q a1 a2 c row) k || (b && zall (fun i => decide (qPa Q (4 * k + i) = nI (zby row i))) c)), nI (k + 1), Q)) := fun b => by
      unfold jx_Q_member_L105_152
      obtain ⟨v, e⟩ := q_L157 (n := n) (Q := Q) (b := b) a1 a2 a6 (b2i (zany (zsm Q a1 a2 c row) k)) row hc (show k < 80 by omega) (by omega)
      rw [e, zbL3_some, if_pos rfl, b2i_if0, b2i_if0, nI_1]
      cases zany (zsm Q a1 a2 c row) k <;> cases (b && zall (fun i => decide (qPa Q (4 * k + i) = nI (zby row i))) c) <;> rfl
    unfold st_Q_member_L105
    rw [hM, if_neg (nI_ge hk (by omega)), if_neg hz]
    have e1 : qOw Q (nI k).toNatClampNeg = qOw Q k := by rw [ecl]
    have e2 : qNa Q (nI k).toNatClampNeg = qNa Q k := by rw [ecl]
    have e3 : qMa Q (nI k).toNatClampNeg = qMa Q k := by rw [ecl]
    rw [e1, show zany (zsm Q a1 a2 c row) (k + 1) = (zany (zsm Q a1 a2 c row) k || zsm Q a1 a2 c row k) from rfl]
    unfold jx_Q_member_L105_151
    have jf := j false
    have jt := j true
    rw [Bool.false_and] at jf
    rw [Bool.true_and] at jt
    rw [show b2i false = 0 from rfl] at jf
    rw [show b2i true = 1 from rfl] at jt
    show _ = some (Sum.inl (b2i (zany (zsm Q a1 a2 c row) k || (decide (qOw Q k = a1) && (decide (qNa Q k = a2) && (decide (qMa Q k = nI c) && zall (fun i => decide (qPa Q (4 * k + i) = nI (zby row i))) c)))), nI (k + 1), Q))
    by_cases q1 : qOw Q k = a1
    · rw [if_pos q1, if_neg hz, e2, decide_eq_true q1, Bool.true_and]
      by_cases q2 : qNa Q k = a2
      · rw [if_pos q2, if_neg hz, e3, decide_eq_true q2, Bool.true_and]
        by_cases q3 : qMa Q k = nI c
        · rw [if_pos q3, decide_eq_true q3, Bool.true_and, jt]
        · rw [if_neg q3, decide_eq_false q3, Bool.false_and, jf]
      · rw [if_neg q2, decide_eq_false q2, Bool.false_and, jf]
    · rw [if_neg q1, decide_eq_false q1, Bool.false_and, jf]
  · show st_Q_member_L105 n a1 a2 (nI c) row a6 _ (nI mn) Q = _
    unfold st_Q_member_L105
    rw [hM, if_pos (nI_le (Nat.le_refl _) (by omega))]
end
