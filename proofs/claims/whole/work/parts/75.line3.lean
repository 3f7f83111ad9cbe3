/-! PURE ROWS: the reference's line, by a pile -/
def zPl (p : Nat → Int32) (P : List Nat) : Prop := ∀ (k : Nat) (x : Nat), P[k]? = some x → p (P.length - 1 - k) = nI x
theorem zPl_push {p : Nat → Int32} {P : List Nat} {x : Nat} (h : zPl p P) : zPl (upd p P.length (nI x)) (x :: P) := by
  intro k y hy
  cases k with
  | zero =>
    cases hy
    rw [List.length_cons, show P.length + 1 - 1 - 0 = P.length by omega, zupd_at]
  | succ k =>
    have hk : k < P.length := (List.getElem?_eq_some_iff.mp (show P[k]? = some y from hy)).1
    rw [List.length_cons, show P.length + 1 - 1 - (k + 1) = P.length - 1 - k by omega, zupd_ne _ _ (by omega)]
    exact h k y hy
theorem zPl_pop {p : Nat → Int32} {P : List Nat} {x : Nat} (h : zPl p (x :: P)) : p P.length = nI x ∧ zPl p P := by
  refine ⟨?_, fun k y hy => ?_⟩
  · have := h 0 x rfl
    rw [List.length_cons, show P.length + 1 - 1 - 0 = P.length by omega] at this
    exact this
  · have hk : k < P.length := (List.getElem?_eq_some_iff.mp hy).1
    have := h (k + 1) y hy
    rw [List.length_cons, show P.length + 1 - 1 - (k + 1) = P.length - 1 - k by omega] at this
    exact this
def zv4 (c j : Nat) : Int32 := if j < c then nI (c - 1 - j) else -1
theorem zv4_0 (c : Nat) (hc : c < 2 ^ 31) : nI c - 1 = zv4 c 0 := by
  unfold zv4
  by_cases h : 0 < c
  · rw [if_pos h, Nat.sub_zero]
    obtain ⟨k, rfl⟩ : ∃ k, c = k + 1 := ⟨c - 1, by omega⟩
    exact nI_pred k
  · rw [if_neg h, show c = 0 by omega]
    rfl
theorem zv4_s {c j : Nat} (hj : j < c) : nI (c - 1 - j) + (-1) = zv4 c (j + 1) := by
  unfold zv4
  by_cases h : j + 1 < c
  · rw [if_pos h]
    obtain ⟨k, hk⟩ : ∃ k, c - 1 - j = k + 1 := ⟨c - 2 - j, by omega⟩
    rw [hk, pk_m1, show c - 1 - (j + 1) = k by omega]
  · rw [if_neg h, show c - 1 - j = 0 by omega]
    rfl
/-- the pile while a row of faces is put on it, the last first -/
def zpp (fa : Nat → Int32) (y c len : Nat) (p : Nat → Int32) : Nat → Nat → Int32
  | 0 => p
  | j + 1 => upd (zpp fa y c len p j) (len + j) (fa (32 * y + (c - 1 - j)))
theorem zpp_pl {tn : Nat} {ab fc fa : Nat → Int32} (hw : zWT tn ab fc fa) {y c : Nat} {p : Nat → Int32} {P : List Nat} (hc : fc y = nI c) (hc24 : c ≤ 24) (h : zPl p P) : ∀ j, j ≤ c → zPl (zpp fa y c P.length p j) ((zfl fc fa y).drop (c - j) ++ P) := by
  have h24 := hw.1
  have hl : (zfl fc fa y).length = c := by rw [zfl_len, hc, nI_clamp (by omega)]
  intro j
  induction j with
  | zero =>
    intro _
    rw [Nat.sub_zero, List.drop_of_length_le (by omega), List.nil_append]
    exact h
  | succ j ih =>
    intro hj
    have hlt : c - 1 - j < (zfl fc fa y).length := by omega
    have hk : c - 1 - j < (fc y).toNatClampNeg := by rw [hc, nI_clamp (by omega)]; omega
    obtain ⟨f, e, -, f2⟩ := hw.2.2.2.1 y (c - 1 - j) hk
    have hget : (zfl fc fa y)[c - 1 - j] = f := by
      have := zfl_get (fa := fa) hk
      rw [List.getElem?_eq_getElem hlt, e, nI_clamp (by omega)] at this
      exact Option.some.inj this
    have hdrop : (zfl fc fa y).drop (c - (j + 1)) = f :: (zfl fc fa y).drop (c - j) := by
      rw [show c - (j + 1) = c - 1 - j by omega, List.drop_eq_getElem_cons hlt, hget, show c - 1 - j + 1 = c - j by omega]
    rw [hdrop, List.cons_append]
    have hlen : ((zfl fc fa y).drop (c - j) ++ P).length = P.length + j := by
      rw [List.length_append, List.length_drop]
      omega
    have := zPl_push (x := f) (ih (by omega))
    rw [hlen] at this
    show zPl (upd (zpp fa y c P.length p j) (P.length + j) (fa (32 * y + (c - 1 - j)))) _
    rw [e]
    exact this
section
variable {n : Nat} {Q : ZQ} {tn : Nat}
theorem q_push11 {y c len hi : Nat} {f p : Nat → Int32} (hy : y < 32) (hc24 : c ≤ 24) (hh : hi + c ≤ 1024) (hn : 100 < n) : ∃ v, fx_Q_standFaces_L11 n (nI y) (nI hi) (zv4 c 0) (zQL Q f len p) = some (41, nI (hi + c), v, zQL Q f len (zpp (qFa Q) y c hi p c)) := by
  unfold fx_Q_standFaces_L11
  refine ⟨_, zl_scan (step := fun (st : Int32 × Int32 × ZQ) => st_Q_standFaces_L11 n (nI y) st.1 st.2.1 st.2.2) (r := (41, nI (hi + c), zv4 c c, zQL Q f len (zpp (qFa Q) y c hi p c))) (st := fun j => (nI (hi + j), zv4 c j, zQL Q f len (zpp (qFa Q) y c hi p j))) c (n := n) (by omega) (fun j hj => ?_) ?_⟩
  · show st_Q_standFaces_L11 n (nI y) (nI (hi + j)) (zv4 c j) (zQL Q f len (zpp (qFa Q) y c hi p j)) = _
    unfold st_Q_standFaces_L11
    have e4 : zv4 c j = nI (c - 1 - j) := by unfold zv4; rw [if_pos hj]
    have ei : (32 : Int32) * nI y + nI (c - 1 - j) = nI (32 * y + (c - 1 - j)) := by rw [nL32, pk_mul, nI_add]
    rw [e4, if_neg (nI_pos (by omega)), ei, if_neg (by rw [zoob_nI (by omega)]; omega), if_neg (by rw [zoob_nI (by omega)]; omega), zlet_eq, nI_clamp (n := hi + j) (by omega), nI_clamp (n := 32 * y + (c - 1 - j)) (by omega), zv4_s hj, nI_1]
    rfl
  · show st_Q_standFaces_L11 n (nI y) (nI (hi + c)) (zv4 c c) _ = _
    unfold st_Q_standFaces_L11
    have e4 : zv4 c c = -1 := by unfold zv4; rw [if_neg (by omega)]
    rw [e4, if_pos (by decide)]
theorem q_push76 {y c len hi : Nat} {f p : Nat → Int32} (hy : y < 32) (hc24 : c ≤ 24) (hh : hi + c ≤ 1024) (hn : 100 < n) : ∃ v, fx_Q_standFaces_L76 n (nI y) (nI hi) (zv4 c 0) (zQL Q f len p) = some (108, nI (hi + c), v, zQL Q f len (zpp (qFa Q) y c hi p c)) := by
  unfold fx_Q_standFaces_L76
  refine ⟨_, zl_scan (step := fun (st : Int32 × Int32 × ZQ) => st_Q_standFaces_L76 n (nI y) st.1 st.2.1 st.2.2) (r := (108, nI (hi + c), zv4 c c, zQL Q f len (zpp (qFa Q) y c hi p c))) (st := fun j => (nI (hi + j), zv4 c j, zQL Q f len (zpp (qFa Q) y c hi p j))) c (n := n) (by omega) (fun j hj => ?_) ?_⟩
  · show st_Q_standFaces_L76 n (nI y) (nI (hi + j)) (zv4 c j) (zQL Q f len (zpp (qFa Q) y c hi p j)) = _
    unfold st_Q_standFaces_L76
    have e4 : zv4 c j = nI (c - 1 - j) := by unfold zv4; rw [if_pos hj]
    have ei : (32 : Int32) * nI y + nI (c - 1 - j) = nI (32 * y + (c - 1 - j)) := by rw [nL32, pk_mul, nI_add]
    rw [e4, if_neg (nI_pos (by omega)), ei, if_neg (by rw [zoob_nI (by omega)]; omega), if_neg (by rw [zoob_nI (by omega)]; omega), zlet_eq, nI_clamp (n := hi + j) (by omega), nI_clamp (n := 32 * y + (c - 1 - j)) (by omega), zv4_s hj, nI_1]
    rfl
  · show st_Q_standFaces_L76 n (nI y) (nI (hi + c)) (zv4 c c) _ = _
    unfold st_Q_standFaces_L76
    have e4 : zv4 c c = -1 := by unfold zv4; rw [if_neg (by omega)]
    rw [e4, if_pos (by decide)]
theorem q_stand {y : Nat} {L : List Nat} {f p : Nat → Int32} (hL : zLn f L) (hs : ∀ x ∈ L, x < 2 ^ 31) (hy : y < 2 ^ 31) (hl : L.length < 32) (hn : 100 < n) : fx_Q_stand n (zQL Q f L.length p) (nI y) = if y ∈ L then some (0, zQL Q f L.length p) else some (1, zQL Q (upd f L.length (nI y)) (L.length + 1) p) := by
  unfold fx_Q_stand fx_Q_stand_L2
  have stp : ∀ k, k < L.length → st_Q_stand_L2 n (nI y) (nI k) (zQL Q f L.length p) = if decide (f k = nI y) = true then some (.inr (20, nI k, zQL Q f L.length p)) else some (.inl (nI (k + 1), zQL Q f L.length p)) := fun k hk => by
    unfold st_Q_stand_L2
    rw [show qLm (zQL Q f L.length p) = nI L.length from rfl, if_neg (nI_ge hk (by omega)), if_neg (by rw [zoob_nI (by omega)]; omega), nI_clamp (by omega), nI_1]
    show (if f k = nI y then _ else _) = _
    by_cases q : f k = nI y
    · rw [if_pos q, decide_eq_true q, if_pos rfl]
    · rw [if_neg q, decide_eq_false q, if_neg (by decide)]
  have ha := zLn_any hL hs hy
  rcases zl_ret (step := fun (st : Int32 × ZQ) => st_Q_stand_L2 n (nI y) st.1 st.2) (fun k => decide (f k = nI y)) L.length (zQL Q f L.length p) (fun v => (20, v, zQL Q f L.length p)) (fun v => (28, v, zQL Q f L.length p)) stp (by
    show st_Q_stand_L2 n (nI y) (nI L.length) (zQL Q f L.length p) = _
    unfold st_Q_stand_L2
    rw [show qLm (zQL Q f L.length p) = nI L.length from rfl, if_pos (nI_le (Nat.le_refl _) (by omega))]) (n := n) (by omega) with ⟨h, v, e⟩ | ⟨h, v, e⟩
  · rw [ha] at h
    rw [e, zbL2_some, if_pos rfl, if_pos (of_decide_eq_true h)]
  · rw [ha] at h
    rw [e, zbL2_some, if_neg (by decide), if_pos rfl, if_neg (of_decide_eq_false h), show qLm (zQL Q f L.length p) = nI L.length from rfl, if_neg (by rw [zoob_nI (by omega)]; omega), zlet_eq, zlet_eq, nI_clamp (by omega)]
    show some ((1 : Int32), zQL Q (upd f L.length (nI y)) _ p) = _
    show some ((1 : Int32), qPi' (qLm' (qLi' Q (upd f L.length (nI y))) (nI L.length + 1)) p) = _
    rw [nI_1]
    rfl
theorem q_standFaces {t : Nat} {L : List Nat} {f p : Nat → Int32} (hw : zWT tn (qAb Q) (qFm Q) (qFa Q)) (hG : zGl tn L) (hL : zLn f L) (h8 : 8 ≤ t) (ht : t < 8 + tn) (hn : 2000 < n) :
    ∃ f' R p', fx_Q_standFaces n (zQL Q f L.length p) (nI t) = some (zQL Q f' R.length p') ∧ zST (zfl (qFm Q) (qFa Q)) (zfl (qFm Q) (qFa Q) t) L R ∧ zGl tn R ∧ zLn f' R := by
  have h24 := hw.1
  obtain ⟨c, hc, hc24, -⟩ := hw.2.2.1 t
  have hlen0 := hG.len
  have hfl : (zfl (qFm Q) (qFa Q) t).length = c := by rw [zfl_len, hc, nI_clamp (by omega)]
  unfold fx_Q_standFaces
  rw [if_neg (by rw [zoob_nI (by omega)]; omega), nI_clamp (by omega), show qFm (zQL Q f L.length p) t = nI c from hc, zv4_0 c (by omega)]
  obtain ⟨v, e⟩ := q_push11 (n := n) (Q := Q) (y := t) (c := c) (len := L.length) (hi := 0) (f := f) (p := p) (by omega) hc24 (by omega) (by omega)
  rw [show (0 : Int32) = nI 0 from rfl, e, zbL3_some, if_pos rfl]
  have hp0 := zpp_pl hw hc hc24 (p := p) (P := []) (fun k x h => by cases h) c (Nat.le_refl _)
  rw [Nat.sub_self, List.drop_zero, List.append_nil, List.length_nil] at hp0
  have key : zok (fx_Q_standFaces_L41 n (nI (0 + c)) (zQL Q f L.length (zpp (qFa Q) t c 0 p c))) (fun r => ∃ v f' R p', r = (111, v, zQL Q f' R.length p') ∧ zST (zfl (qFm Q) (qFa Q)) (zfl (qFm Q) (qFa Q) t) L R ∧ zGl tn R ∧ zLn f' R) := by
    unfold fx_Q_standFaces_L41
    refine zok_loop (Inv := fun st => ∃ (P M : List Nat) (f' p' : Nat → Int32), st.1 = nI P.length ∧ st.2 = zQL Q f' M.length p' ∧ zPl p' P ∧ zGl tn M ∧ zLn f' M ∧ (∀ R, zST (zfl (qFm Q) (qFa Q)) P M R → zST (zfl (qFm Q) (qFa Q)) (zfl (qFm Q) (qFa Q) t) L R) ∧ (∀ y ∈ P, 8 ≤ y ∧ y < 8 + tn) ∧ P.length ≤ 24 * (1 + M.length)) (μ := fun st => (24 - (qLm st.2).toNatClampNeg) * 25 + st.1.toNatClampNeg) ?_ n (nI (0 + c), zQL Q f L.length (zpp (qFa Q) t c 0 p c)) ⟨zfl (qFm Q) (qFa Q) t, L, f, zpp (qFa Q) t c 0 p c, by rw [hfl, Nat.zero_add], rfl, hp0, hG, hL, fun R h => h, fun y hy => zfl_in hw hy, by rw [hfl]; omega⟩ (by
      show (24 - (nI L.length).toNatClampNeg) * 25 + (nI (0 + c)).toNatClampNeg < n
      rw [nI_clamp (by omega), nI_clamp (by omega)]
      omega)
    rintro ⟨v2, T⟩ ⟨P, M, f', p', e1, e2, hP, hGM, hLM, hS, hPin, hPl⟩
    dsimp only at e1 e2
    subst e1 e2
    have hlenM := hGM.len
    show zok (st_Q_standFaces_L41 n (nI P.length) (zQL Q f' M.length p')) _
    unfold st_Q_standFaces_L41
    cases P with
    | nil =>
      rw [if_pos (show nI ([] : List Nat).length ≤ 0 from Int32.le_refl _)]
      refine ⟨_, rfl, fun s' q => (by cases q), fun r q => ?_⟩
      cases q
      exact ⟨_, f', M, p', rfl, hS M zST_nil, hGM, hLM⟩
    | cons y P =>
      obtain ⟨hy1, hP1⟩ := zPl_pop hP
      obtain ⟨y8, y2⟩ := hPin y List.mem_cons_self
      rw [List.length_cons] at hPl ⊢
      have hpl : P.length < 1024 := by omega
      rw [if_neg (show ¬ nI (P.length + 1) ≤ 0 from nI_ge (a := 0) (by omega) (by omega)), pk_m1]
      refine zok_oob (by rw [zoob_nI (by omega)]; omega) ?_
      have epi : qPi (zQL Q f' M.length p') (nI P.length).toNatClampNeg = nI y := by rw [nI_clamp (by omega)]; exact hy1
      rw [epi, q_stand hLM (fun x hx => by have := hGM.2 x hx; omega) (by omega) (by omega) (by omega)]
      by_cases hy : y ∈ M
      · rw [if_pos hy, zbind_some, if_pos rfl]
        refine ⟨_, rfl, fun s' q => ?_, fun r q => (by cases q)⟩
        cases q
        refine ⟨⟨P, M, f', p', rfl, rfl, hP1, hGM, hLM, fun R h => hS R ((zST_in hy).mpr h), fun z hz => hPin z (List.mem_cons_of_mem _ hz), by omega⟩, ?_⟩
        show (24 - (nI M.length).toNatClampNeg) * 25 + (nI P.length).toNatClampNeg < (24 - (nI M.length).toNatClampNeg) * 25 + (nI (P.length + 1)).toNatClampNeg
        rw [nI_clamp (by omega), nI_clamp (by omega), nI_clamp (by omega)]
        omega
      · have hGM2 := hGM.push hy y8 y2
        have hlen2 := hGM2.len
        rw [List.length_append, List.length_singleton] at hlen2
        obtain ⟨c2, hc2, hc224, -⟩ := hw.2.2.1 y
        have hfl2 : (zfl (qFm Q) (qFa Q) y).length = c2 := by rw [zfl_len, hc2, nI_clamp (by omega)]
        rw [if_neg hy, zbind_some, if_neg i01]
        refine zok_oob (by rw [zoob_nI (by omega)]; omega) ?_
        obtain ⟨v, e⟩ := q_push76 (n := n) (Q := Q) (y := y) (c := c2) (len := M.length + 1) (hi := P.length) (f := upd f' M.length (nI y)) (p := p') (by omega) hc224 (by omega) (by omega)
        rw [nI_clamp (n := y) (by omega), show qFm (zQL Q (upd f' M.length (nI y)) (M.length + 1) p') y = nI c2 from hc2, zv4_0 c2 (by omega), e, zbL3_some, if_pos rfl]
        have hp2 := zpp_pl hw hc2 hc224 hP1 c2 (Nat.le_refl _)
        rw [Nat.sub_self, List.drop_zero] at hp2
        refine ⟨_, rfl, fun s' q => ?_, fun r q => (by cases q)⟩
        cases q
        refine ⟨⟨zfl (qFm Q) (qFa Q) y ++ P, M ++ [y], upd f' M.length (nI y), zpp (qFa Q) y c2 P.length p' c2, ?_, ?_, hp2, hGM2, zLn_push hLM, fun R h => hS R ((zST_out hy).mpr h), fun z hz => ?_, ?_⟩, ?_⟩
        · show nI (P.length + c2) = nI (zfl (qFm Q) (qFa Q) y ++ P).length
          rw [List.length_append, hfl2, Nat.add_comm]
        · rw [List.length_append, List.length_singleton]
        · rcases List.mem_append.mp hz with g | g
          · exact zfl_in hw g
          · exact hPin z (List.mem_cons_of_mem _ g)
        · rw [List.length_append, List.length_append, List.length_singleton, hfl2]
          omega
        · show (24 - (nI (M.length + 1)).toNatClampNeg) * 25 + (nI (P.length + c2)).toNatClampNeg < (24 - (nI M.length).toNatClampNeg) * 25 + (nI (P.length + 1)).toNatClampNeg
          rw [nI_clamp (by omega), nI_clamp (by omega), nI_clamp (by omega), nI_clamp (by omega)]
          omega
  obtain ⟨r, e2, v2, f', R, p', rfl, h⟩ := key
  rw [e2, zbL2_some, if_pos rfl]
  exact ⟨f', R, p', rfl, h⟩
theorem q_line {t : Nat} (hw : zWT tn (qAb Q) (qFm Q) (qFa Q)) (h8 : 8 ≤ t) (ht : t < 8 + tn) (hn : 2000 < n) :
    ∃ f R p, fx_Q_lineUp n Q (nI t) = some (zQL Q f R.length p) ∧ zLine (zfl (qFm Q) (qFa Q)) (zch (qAb Q) 32 (nI t)) R ∧ zGl tn R ∧ zLn f R := by
  have h24 := hw.1
  obtain ⟨f0, e0, l0, g0⟩ := q_chain (n := n) (Q := Q) hw h8 ht (by omega)
  generalize zch (qAb Q) 32 (nI t) = L0 at *
  have hlen0 := g0.len
  unfold fx_Q_lineUp
  rw [zlet_eq, e0, zbL2_some, if_pos rfl, show qLm (zQL Q f0 L0.length (qPi Q)) = nI L0.length from rfl]
  have key : zok (fx_Q_lineUp_L48 n (nI L0.length) 0 (zQL Q f0 L0.length (qPi Q))) (fun r => ∃ v f R p, r = (69, v, zQL Q f R.length p) ∧ zLine (zfl (qFm Q) (qFa Q)) L0 R ∧ zGl tn R ∧ zLn f R) := by
    unfold fx_Q_lineUp_L48
    refine zok_loop (Inv := fun st => ∃ (i : Nat) (f : Nat → Int32) (R : List Nat) (p : Nat → Int32), st.1 = nI i ∧ i ≤ L0.length ∧ st.2 = zQL Q f R.length p ∧ zLineK (zfl (qFm Q) (qFa Q)) L0 R i ∧ zGl tn R ∧ zLn f R ∧ ∀ (k : Nat) (x : Nat), L0[k]? = some x → R[k]? = some x) (μ := fun st => L0.length - st.1.toNatClampNeg) ?_ n (0, zQL Q f0 L0.length (qPi Q)) ⟨0, f0, L0, qPi Q, rfl, by omega, rfl, zLineK.zero, g0, l0, fun _ _ h => h⟩ (by show L0.length - (0 : Int32).toNatClampNeg < n; omega)
    rintro ⟨v3, T⟩ ⟨i, f, R, p, e1, hi, e2, hS, hGl, hLn, hpre⟩
    dsimp only at e1 e2
    subst e1 e2
    have hlenR := hGl.len
    show zok (st_Q_lineUp_L48 n (nI L0.length) (nI i) (zQL Q f R.length p)) _
    unfold st_Q_lineUp_L48
    by_cases hic : L0.length ≤ i
    · rw [if_pos (nI_le hic (by omega))]
      refine ⟨_, rfl, fun s' q => (by cases q), fun r q => ?_⟩
      cases q
      have : i = L0.length := by omega
      subst this
      exact ⟨_, f, R, p, rfl, hS.done, hGl, hLn⟩
    · have hic : i < L0.length := by omega
      rw [if_neg (nI_ge hic (by omega))]
      refine zok_oob (by rw [zoob_nI (by omega)]; omega) ?_
      have hx := List.getElem?_eq_getElem hic
      have hxR := hpre i _ hx
      have hmem : L0[i] ∈ R := List.mem_of_getElem? hxR
      obtain ⟨x8, x2⟩ := hGl.2 _ hmem
      have ehl : qLi (zQL Q f R.length p) (nI i).toNatClampNeg = nI L0[i] := by rw [nI_clamp (by omega)]; exact hLn i _ hxR
      obtain ⟨f3, R3, p3, e3, s3, g3, l3⟩ := q_standFaces (n := n) (p := p) hw hGl hLn x8 x2 hn
      rw [ehl, e3, zbind1_some]
      refine ⟨_, rfl, fun s' q => ?_, fun r q => (by cases q)⟩
      cases q
      refine ⟨⟨i + 1, f3, R3, p3, nI_1 i, hic, rfl, hS.next hx s3, g3, l3, fun k x hk => ?_⟩, ?_⟩
      · obtain ⟨T, hT3⟩ := zST_pre s3
        have h9 := hpre k x hk
        rw [hT3, List.getElem?_append_left (List.getElem?_eq_some_iff.mp h9).1]
        exact h9
      · show L0.length - (nI i + 1).toNatClampNeg < L0.length - (nI i).toNatClampNeg
        rw [nI_1, nI_clamp (by omega), nI_clamp (by omega)]
        omega
  obtain ⟨r, e, v, f, R, p, rfl, h⟩ := key
  rw [e, zbL2_some, if_pos rfl]
  exact ⟨f, R, p, rfl, h⟩
end
