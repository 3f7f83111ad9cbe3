/-! PURE ROWS: calls that are kept -/
def zCK (C : ZC) (h : Int32) (D : ZQK) : ZC := (C.1, C.2.1, C.2.2.1, (h, D), C.2.2.2.2)
def zQK (Q : ZQ) (D : ZQK) : ZQ := (Q.1, Q.2.1, Q.2.2.1, D, Q.2.2.2.2)
def kmv (D : ZQK) (i j : Nat) : ZQK := (upd D.1 j (D.1 i), upd D.2.1 j (D.2.1 i), upd D.2.2.1 j (D.2.2.1 i), vp_updL D.2.2.2.1 j (D.2.2.2.1 i), upd D.2.2.2.2 j (D.2.2.2.2 i))
def kpt (D : ZQK) (j : Nat) (t m z : Int32) (r : Int64) (o : Int32) : ZQK := (upd D.1 j t, upd D.2.1 j m, upd D.2.2.1 j z, vp_updL D.2.2.2.1 j r, upd D.2.2.2.2 j o)
section
variable {n : Nat} {C : ZC} {Q : ZQ} {D : ZQK}
theorem c_move {i j : Nat} {h : Int32} (hi : i < 100) (hj : j < 100) : fx_K_move n (zCK C h D) (nI i) (nI j) = some (zCK C h (kmv D i j)) := by
  have h1 : ¬ zoob (nI i) 100 := by rw [zoob_nI (by omega)]; omega
  have h2 : ¬ zoob (nI j) 100 := by rw [zoob_nI (by omega)]; omega
  unfold fx_K_move
  rw [if_neg h1, if_neg h2, zlet_eq, if_neg h1, if_neg h2, zlet_eq, if_neg h1, if_neg h2, zlet_eq, if_neg h1, if_neg h2, zlet_eq, if_neg h1, if_neg h2, zlet_eq, nI_clamp (by omega), nI_clamp (by omega)]
  rfl
theorem q_move {i j : Nat} (hi : i < 100) (hj : j < 100) : fx_Q_move n (zQK Q D) (nI i) (nI j) = some (zQK Q (kmv D i j)) := by
  have h1 : ¬ zoob (nI i) 100 := by rw [zoob_nI (by omega)]; omega
  have h2 : ¬ zoob (nI j) 100 := by rw [zoob_nI (by omega)]; omega
  unfold fx_Q_move
  rw [if_neg h1, if_neg h2, zlet_eq, if_neg h1, if_neg h2, zlet_eq, if_neg h1, if_neg h2, zlet_eq, if_neg h1, if_neg h2, zlet_eq, if_neg h1, if_neg h2, zlet_eq, nI_clamp (by omega), nI_clamp (by omega)]
  rfl
def kln (nm : Int32) (D : ZQK) : Nat → Nat × ZQK
  | 0 => (0, D)
  | i + 1 => if (kln nm D i).2.2.1 i = nm then kln nm D i else ((kln nm D i).1 + 1, kmv (kln nm D i).2 i (kln nm D i).1)
theorem kln_le (nm : Int32) (D : ZQK) : ∀ i, (kln nm D i).1 ≤ i := by
  intro i
  induction i with
  | zero => exact Nat.le_refl _
  | succ i ih =>
    unfold kln
    split
    · omega
    · show (kln nm D i).1 + 1 ≤ i + 1
      omega
theorem kln_y {nm : Int32} {D : ZQK} {i : Nat} (h : (kln nm D i).2.2.1 i = nm) : kln nm D (i + 1) = kln nm D i := by
  show (if _ then _ else _) = _
  rw [if_pos h]
theorem kln_n {nm : Int32} {D : ZQK} {i : Nat} (h : ¬ (kln nm D i).2.2.1 i = nm) : kln nm D (i + 1) = ((kln nm D i).1 + 1, kmv (kln nm D i).2 i (kln nm D i).1) := by
  show (if _ then _ else _) = _
  rw [if_neg h]
theorem c_letGoName {kn : Nat} (nm : Int32) (hk : kn ≤ 100) (hn : 100 < n) : fx_K_letGoName n (zCK C (nI kn) D) nm = some (zCK C (nI (kln nm D kn).1) (kln nm D kn).2) := by
  unfold fx_K_letGoName fx_K_letGoName_L4
  have e := zl_scan (step := fun (st : Int32 × Int32 × ZC) => st_K_letGoName_L4 n nm st.1 st.2.1 st.2.2) (r := (37, nI (kln nm D kn).1, nI kn, zCK C (nI kn) (kln nm D kn).2)) (st := fun i => (nI (kln nm D i).1, nI i, zCK C (nI kn) (kln nm D i).2)) kn (n := n) (by omega) (fun i hi => ?_) ?_
  · rw [show zloop (fun (st : Int32 × Int32 × ZC) => st_K_letGoName_L4 n nm st.1 st.2.1 st.2.2) n ((0 : Int32), (0 : Int32), zCK C (nI kn) D) = _ from e, zbL3_some, if_pos rfl, zlet_eq]
    rfl
  · show st_K_letGoName_L4 n nm (nI (kln nm D i).1) (nI i) (zCK C (nI kn) (kln nm D i).2) = _
    have := kln_le nm D i
    unfold st_K_letGoName_L4
    rw [show kHe (zCK C (nI kn) (kln nm D i).2) = nI kn from rfl, if_neg (nI_ge hi (by omega)), if_neg (by rw [zoob_nI (by omega)]; omega), show kNa (zCK C (nI kn) (kln nm D i).2) (nI i).toNatClampNeg = (kln nm D i).2.2.1 i by rw [nI_clamp (by omega)]; rfl]
    by_cases q : (kln nm D i).2.2.1 i = nm
    · rw [if_pos q, kln_y q, nI_1]
    · rw [if_neg q, kln_n q, c_move (by omega) (by omega), zbind1_some, nI_1, nI_1]
  · show st_K_letGoName_L4 n nm (nI (kln nm D kn).1) (nI kn) (zCK C (nI kn) (kln nm D kn).2) = _
    unfold st_K_letGoName_L4
    rw [show kHe (zCK C (nI kn) (kln nm D kn).2) = nI kn from rfl, if_pos (nI_le (Nat.le_refl _) (by omega))]
theorem q_letGo {kn : Nat} (nm : Int32) (hq : qKe Q = nI kn) (hk : kn ≤ 100) (hn : 100 < n) : fx_Q_letGo n (zQK Q D) nm = some (qKe' (zQK Q (kln nm D kn).2) (nI (kln nm D kn).1)) := by
  unfold fx_Q_letGo fx_Q_letGo_L4
  have e := zl_scan (step := fun (st : Int32 × Int32 × ZQ) => st_Q_letGo_L4 n nm st.1 st.2.1 st.2.2) (r := (40, nI (kln nm D kn).1, nI kn, zQK Q (kln nm D kn).2)) (st := fun i => (nI (kln nm D i).1, nI i, zQK Q (kln nm D i).2)) kn (n := n) (by omega) (fun i hi => ?_) ?_
  · rw [show zloop (fun (st : Int32 × Int32 × ZQ) => st_Q_letGo_L4 n nm st.1 st.2.1 st.2.2) n ((0 : Int32), (0 : Int32), zQK Q D) = _ from e, zbL3_some, if_pos rfl, zlet_eq]
  · show st_Q_letGo_L4 n nm (nI (kln nm D i).1) (nI i) (zQK Q (kln nm D i).2) = _
    have := kln_le nm D i
    unfold st_Q_letGo_L4
    rw [show qKe (zQK Q (kln nm D i).2) = nI kn from hq, if_neg (nI_ge hi (by omega)), if_neg (by rw [zoob_nI (by omega)]; omega), show qKn (zQK Q (kln nm D i).2) (nI i).toNatClampNeg = (kln nm D i).2.2.1 i by rw [nI_clamp (by omega)]; rfl]
    by_cases q : (kln nm D i).2.2.1 i = nm
    · rw [if_pos q, kln_y q, nI_1]
    · rw [if_neg q, kln_n q, q_move (by omega) (by omega), zbind1_some, nI_1, nI_1]
  · show st_Q_letGo_L4 n nm (nI (kln nm D kn).1) (nI kn) (zQK Q (kln nm D kn).2) = _
    unfold st_Q_letGo_L4
    rw [show qKe (zQK Q (kln nm D kn).2) = nI kn from hq, if_pos (nI_le (Nat.le_refl _) (by omega))]
def klf (D : ZQK) : Nat → ZQK
  | 0 => D
  | k + 1 => kmv (klf D k) (k + 1) k
theorem c_letGoFirst (hn : 100 < n) : fx_K_letGoFirst n (zCK C (nI 100) D) = some (zCK C (nI 99) (klf D 99)) := by
  unfold fx_K_letGoFirst fx_K_letGoFirst_L2
  have e := zl_scan (step := fun (st : Int32 × ZC) => st_K_letGoFirst_L2 n st.1 st.2) (r := (24, nI 100, zCK C (nI 100) (klf D 99))) (st := fun k => (nI (1 + k), zCK C (nI 100) (klf D k))) 99 (n := n) (by omega) (fun k hk => ?_) ?_
  · rw [show zloop (fun (st : Int32 × ZC) => st_K_letGoFirst_L2 n st.1 st.2) n ((1 : Int32), zCK C (nI 100) D) = _ from e, zbL2_some, if_pos rfl, zlet_eq]
    show some (zCK C (nI 100 - 1) (klf D 99)) = _
    rw [show nI 100 - 1 = nI 99 from nI_pred 99]
  · show st_K_letGoFirst_L2 n (nI (1 + k)) (zCK C (nI 100) (klf D k)) = _
    unfold st_K_letGoFirst_L2
    rw [show kHe (zCK C (nI 100) (klf D k)) = nI 100 from rfl, if_neg (nI_ge (by omega) (by omega)), show nI (1 + k) - 1 = nI k by rw [Nat.add_comm]; exact nI_pred k, c_move (by omega) (by omega), zbind1_some, nI_1, Nat.add_comm 1 k]
    show some (Sum.inl (nI (k + 1 + 1), _)) = some (Sum.inl (nI (1 + (k + 1)), _))
    rw [Nat.add_comm 1 (k + 1)]
    rfl
  · show st_K_letGoFirst_L2 n (nI (1 + 99)) (zCK C (nI 100) (klf D 99)) = _
    unfold st_K_letGoFirst_L2
    rw [show kHe (zCK C (nI 100) (klf D 99)) = nI 100 from rfl, if_pos (nI_le (by omega) (by omega))]
/-- kept anew: as many as before and one, or 100 -/
def kkn (kn : Nat) : Nat := if kn < 100 then kn else 99
def kkD (kn : Nat) (D : ZQK) : ZQK := if kn < 100 then D else klf D 99
theorem kkn_lt (kn : Nat) : kkn kn < 100 := by unfold kkn; split <;> omega
theorem c_keep13 {kn : Nat} (hk : kn < 100) (t m z o : Int32) (r : Int64) : jx_K_keep_13 n t m z r o (zCK C (nI kn) D) = some (nI kn, zCK C (nI (kn + 1)) (kpt D kn t m z r o)) := by
  have h1 : ¬ zoob (nI kn) 100 := by rw [zoob_nI (by omega)]; omega
  unfold jx_K_keep_13
  rw [show kHe (zCK C (nI kn) D) = nI kn from rfl, if_neg h1, zlet_eq, if_neg h1, zlet_eq, if_neg h1, zlet_eq, if_neg h1, zlet_eq, if_neg h1, zlet_eq, zlet_eq, nI_clamp (by omega)]
  show some (nI kn, zCK C (nI kn + 1) _) = _
  rw [nI_1]
  rfl
theorem c_keep {kn : Nat} (hk : kn ≤ 100) (hn : 100 < n) (t m z o : Int32) (r : Int64) : fx_K_keep n (zCK C (nI kn) D) t m z r o = some (nI (kkn kn), zCK C (nI (kkn kn + 1)) (kpt (kkD kn D) (kkn kn) t m z r o)) := by
  unfold fx_K_keep
  rw [show kHe (zCK C (nI kn) D) = nI kn from rfl, nL100]
  by_cases h : kn < 100
  · rw [if_pos (nI_lt h (by omega)), c_keep13 h]
    unfold kkn kkD
    rw [if_pos h, if_pos h]
  · have : kn = 100 := by omega
    subst this
    rw [if_neg (nI_nlt (by omega) (by omega)), c_letGoFirst hn, zbind1_some, c_keep13 (by omega)]
    rfl
theorem q_keep45 {kn : Nat} (hq : qKe Q = nI kn) (hk : kn < 100) (t m z o : Int32) (r : Int64) : jx_Q_keep_45 n t m z r o (zQK Q D) = some (qKe' (zQK Q (kpt D kn t m z r o)) (nI (kn + 1))) := by
  have h1 : ¬ zoob (nI kn) 100 := by rw [zoob_nI (by omega)]; omega
  unfold jx_Q_keep_45
  have e0 : qKe (zQK Q D) = nI kn := hq
  rw [if_neg (by rw [e0]; exact h1), zlet_eq, if_neg (by show ¬ zoob (qKe (zQK Q D)) 100; rw [e0]; exact h1), zlet_eq, if_neg (by show ¬ zoob (qKe (zQK Q D)) 100; rw [e0]; exact h1), zlet_eq, if_neg (by show ¬ zoob (qKe (zQK Q D)) 100; rw [e0]; exact h1), zlet_eq, if_neg (by show ¬ zoob (qKe (zQK Q D)) 100; rw [e0]; exact h1), zlet_eq, zlet_eq]
  show some (qKe' (zQK Q (kpt D (qKe Q).toNatClampNeg t m z r o)) (qKe Q + 1)) = _
  rw [hq, nI_clamp (by omega), nI_1]
theorem q_keep {kn : Nat} (hq : qKe Q = nI kn) (hk : kn ≤ 100) (hn : 100 < n) (t m z o : Int32) (r : Int64) : fx_Q_keep n (zQK Q D) t m z r o = some (qKe' (zQK Q (kpt (kkD kn D) (kkn kn) t m z r o)) (nI (kkn kn + 1))) := by
  unfold fx_Q_keep
  rw [show qKe (zQK Q D) = nI kn from hq, nL100]
  by_cases h : kn < 100
  · rw [if_neg (by rw [nI_eq (by omega) (by omega)]; omega), q_keep45 hq h]
    unfold kkn kkD
    rw [if_pos h, if_pos h]
  · have : kn = 100 := by omega
    subst this
    rw [if_pos rfl]
    unfold fx_Q_keep_L12
    have e := zl_scan (step := fun (st : Int32 × ZQ) => st_Q_keep_L12 n t m z r o st.1 st.2) (r := (35, nI 100, zQK Q (klf D 99))) (st := fun k => (nI (1 + k), zQK Q (klf D k))) 99 (n := n) (by omega) (fun k hk => ?_) ?_
    · rw [show zloop (fun (st : Int32 × ZQ) => st_Q_keep_L12 n t m z r o st.1 st.2) n ((1 : Int32), zQK Q D) = _ from e, zbL2_some, if_pos rfl, zlet_eq]
      have e3 : qKe (zQK Q (klf D 99)) - 1 = nI 99 := by
        show qKe Q - 1 = nI 99
        rw [hq]; exact nI_pred 99
      rw [e3]
      show jx_Q_keep_45 n t m z r o (zQK (qKe' Q (nI 99)) (klf D 99)) = _
      rw [q_keep45 (Q := qKe' Q (nI 99)) rfl (by omega)]
      rfl
    · show st_Q_keep_L12 n t m z r o (nI (1 + k)) (zQK Q (klf D k)) = _
      unfold st_Q_keep_L12
      rw [nL100, if_neg (nI_ge (by omega) (by omega)), show nI (1 + k) - 1 = nI k by rw [Nat.add_comm]; exact nI_pred k, Nat.add_comm 1 k, q_move (by omega) (by omega), zbind1_some, nI_1]
      show some (Sum.inl (nI (k + 1 + 1), _)) = some (Sum.inl (nI (1 + (k + 1)), _))
      rw [Nat.add_comm 1 (k + 1)]
      rfl
    · show st_Q_keep_L12 n t m z r o (nI (1 + 99)) (zQK Q (klf D 99)) = _
      unfold st_Q_keep_L12
      rw [nL100, if_pos (nI_le (by omega) (by omega))]
/-- where a call is kept -/
def khit (D : ZQK) (t m z : Int32) (r : Int64) (k : Nat) : Bool := decide (D.1 k = t) && (decide (D.2.1 k = m) && (decide (D.2.2.1 k = z) && decide (D.2.2.2.1 k = r)))
theorem c_find_st {kn k : Nat} {t m z : Int32} {r : Int64} (hk : k < kn) (hk100 : kn ≤ 100) : st_K_find_L3 n t m z r (nI k) (zCK C (nI kn) D) = if khit D t m z r k = true then some (.inr (58, nI k, zCK C (nI kn) D)) else some (.inl (nI (k + 1), zCK C (nI kn) D)) := by
  have h1 : ¬ zoob (nI k) 100 := by rw [zoob_nI (by omega)]; omega
  have e1 : (nI k).toNatClampNeg = k := nI_clamp (by omega)
  have a1 : kTy (zCK C (nI kn) D) (nI k).toNatClampNeg = D.1 k := by rw [e1]; rfl
  have a2 : kNa (zCK C (nI kn) D) (nI k).toNatClampNeg = D.2.1 k := by rw [e1]; rfl
  have a3 : kSz (zCK C (nI kn) D) (nI k).toNatClampNeg = D.2.2.1 k := by rw [e1]; rfl
  have a4 : kCl (zCK C (nI kn) D) (nI k).toNatClampNeg = D.2.2.2.1 k := by rw [e1]; rfl
  unfold st_K_find_L3 khit
  rw [show kHe (zCK C (nI kn) D) = nI kn from rfl, if_neg (nI_ge hk (by omega)), if_neg h1, a1, nI_1]
  by_cases q1 : D.1 k = t
  · rw [if_pos q1, if_neg h1, a2, decide_eq_true q1, Bool.true_and]
    by_cases q2 : D.2.1 k = m
    · rw [if_pos q2, if_neg h1, a3, decide_eq_true q2, Bool.true_and]
      by_cases q3 : D.2.2.1 k = z
      · rw [if_pos q3, if_neg h1, a4, decide_eq_true q3, Bool.true_and]
        by_cases q4 : D.2.2.2.1 k = r
        · rw [if_pos ((zcmp0 _ _).mpr q4), decide_eq_true q4, if_pos rfl]
        · rw [if_neg (fun q => q4 ((zcmp0 _ _).mp q)), decide_eq_false q4, if_neg (by decide)]
      · rw [if_neg q3, decide_eq_false q3, Bool.false_and, if_neg (by decide)]
    · rw [if_neg q2, decide_eq_false q2, Bool.false_and, if_neg (by decide)]
  · rw [if_neg q1, decide_eq_false q1, Bool.false_and, if_neg (by decide)]
theorem c_find {kn : Nat} (t m z : Int32) (r : Int64) (hk : kn ≤ 100) (hn : 100 < n) : (∃ k, k < kn ∧ khit D t m z r k = true ∧ (∀ j, j < k → khit D t m z r j = false) ∧ fx_K_find n (zCK C (nI kn) D) t m z r = some (nI k, zCK C (nI kn) D)) ∨ ((∀ j, j < kn → khit D t m z r j = false) ∧ fx_K_find n (zCK C (nI kn) D) t m z r = some (-1, zCK C (nI kn) D)) := by
  unfold fx_K_find fx_K_find_L3
  rcases zl_first (khit D t m z r) kn with ⟨k, h1, h2, h3⟩ | h
  · refine Or.inl ⟨k, h1, h2, h3, ?_⟩
    have e := zl_scan (step := fun (st : Int32 × ZC) => st_K_find_L3 n t m z r st.1 st.2) (r := (58, nI k, zCK C (nI kn) D)) (st := fun k => (nI k, zCK C (nI kn) D)) k (n := n) (by omega) (fun j hj => by
      show st_K_find_L3 n t m z r (nI j) (zCK C (nI kn) D) = _
      rw [c_find_st (by omega) hk, h3 j hj, if_neg (by decide)]) (by
      show st_K_find_L3 n t m z r (nI k) (zCK C (nI kn) D) = _
      rw [c_find_st h1 hk, h2, if_pos rfl])
    rw [show zloop (fun (st : Int32 × ZC) => st_K_find_L3 n t m z r st.1 st.2) n ((0 : Int32), zCK C (nI kn) D) = _ from e, zbL2_some, if_pos rfl]
  · refine Or.inr ⟨h, ?_⟩
    have e := zl_scan (step := fun (st : Int32 × ZC) => st_K_find_L3 n t m z r st.1 st.2) (r := (67, nI kn, zCK C (nI kn) D)) (st := fun k => (nI k, zCK C (nI kn) D)) kn (n := n) (by omega) (fun j hj => by
      show st_K_find_L3 n t m z r (nI j) (zCK C (nI kn) D) = _
      rw [c_find_st hj hk, h j hj, if_neg (by decide)]) (by
      show st_K_find_L3 n t m z r (nI kn) (zCK C (nI kn) D) = _
      unfold st_K_find_L3
      rw [show kHe (zCK C (nI kn) D) = nI kn from rfl, if_pos (nI_le (Nat.le_refl _) (by omega))])
    rw [show zloop (fun (st : Int32 × ZC) => st_K_find_L3 n t m z r st.1 st.2) n ((0 : Int32), zCK C (nI kn) D) = _ from e, zbL2_some, if_neg (by decide), if_pos rfl]
end
