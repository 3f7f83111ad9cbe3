section
variable {n : Nat} {C : ZC} {Q : ZQ} {tn mn : Nat}
theorem c_gather {t : Nat} (nm : Int32) (hT : zRT C Q tn) (hM : mTo C = nI mn) (hmn : mn ≤ 80) (h8 : 8 ≤ t) (ht : t < 8 + tn) (hn : 100 < n) :
    ∃ g f R, fx_H_gatherMeant n C (nI t) nm = some (zCH (hLi' C g) f (zmo C mn nm R R.length).length) ∧ zLn f (zmo C mn nm R R.length) ∧ zLine (zfl (qFm Q) (qFa Q)) (zch (qAb Q) 32 (nI t)) R := by
  obtain ⟨t1, t2, t3, t4, t5, t6, t7, t8, t9⟩ := hT
  have h24 := t3.1
  unfold fx_H_gatherMeant
  rw [zlet_eq]
  obtain ⟨g, R, e, hl, hg, hn2⟩ := c_line (n := n) (C := hMc' C 0) (tn := tn) (fa := qFa Q) (t := t) t1 t7 (by rw [show tCa (hMc' C 0) = qAb Q from t5, show tFc (hMc' C 0) = qFm Q from t6]; exact t3) h8 ht hn
  rw [e, zbind_some]
  obtain ⟨f, v, e2, l2⟩ := c_gatherL (n := n) (C := C) (mn := mn) (g := g) (f := hMe C) nm hM hmn hg h24 hn2 hn
  have e3 : fx_H_gatherMeant_L21 n nm (nI R.length) 0 (hLi' (hMc' C 0) g) = _ := e2
  rw [e3, zbL2_some, if_pos rfl]
  refine ⟨g, f, R, rfl, l2, ?_⟩
  have h1 : tFc (hMc' C 0) = qFm Q := t6
  have h2 : tCa (hMc' C 0) = qAb Q := t5
  rw [h1, h2] at hl
  exact hl
theorem c_gather0 {a : Int32} (nm : Int32) (hT : tTo C = nI tn) (h24 : tn ≤ 24) (ha : xO tn a = false) (hn : 100 < n) : fx_H_gatherMeant n C a nm = some (hMc' C 0) := by
  unfold fx_H_gatherMeant fx_T_writeLine fx_T_writeLine_L5 fx_T_writeLine_L46 fx_H_gatherMeant_L21
  have hT' : tTo (hMc' C 0) = nI tn := hT
  rw [zlet_eq]
  have e1 : zloop (fun (st : Int32 × Int32 × ZC) => st_T_writeLine_L5 n st.1 st.2.1 st.2.2) n ((0 : Int32), a, hMc' C 0) = some (40, 0, a, hMc' C 0) := zl_scan (st := fun _ => ((0 : Int32), a, hMc' C 0)) 0 (by omega) (fun k hk => by omega) (by
    show st_T_writeLine_L5 n 0 a (hMc' C 0) = _
    unfold st_T_writeLine_L5
    rw [c_isTold hT' h24, zbind_some, b2i_if0, ha, if_neg (by decide)])
  rw [e1, zbL3_some, if_pos rfl]
  have e2 : zloop (fun (st : Int32 × Int32 × ZC) => st_T_writeLine_L46 n 0 st.1 st.2.1 st.2.2) n ((0 : Int32), (0 : Int32), hMc' C 0) = some (72, 0, 0, hMc' C 0) := zl_scan (st := fun _ => ((0 : Int32), (0 : Int32), hMc' C 0)) 0 (by omega) (fun k hk => by omega) (by
    show st_T_writeLine_L46 n 0 0 0 (hMc' C 0) = _
    unfold st_T_writeLine_L46
    rw [if_pos (Int32.le_refl _)])
  rw [e2, zbL3_some, if_pos rfl, zbind_some]
  have e3 : zloop (fun (st : Int32 × ZC) => st_H_gatherMeant_L21 n nm 0 st.1 st.2) n ((0 : Int32), hMc' C 0) = some (45, 0, hMc' C 0) := zl_scan (st := fun _ => ((0 : Int32), hMc' C 0)) 0 (by omega) (fun k hk => by omega) (by
    show st_H_gatherMeant_L21 n nm 0 0 (hMc' C 0) = _
    unfold st_H_gatherMeant_L21
    rw [if_pos (Int32.le_refl _)])
  rw [e3, zbL2_some, if_pos rfl]
/-! the reference -/
theorem q_same {a b : Nat} (hM : zRM C Q tn mn) (ha : a < mn) (hb : b < mn) (hn : 100 < n) : fx_Q_areSame n Q (nI a) (nI b) = some (b2i (zsp C a b), Q) := by
  obtain ⟨m1, m2, m3, m4, m5, m6, m7, m8⟩ := hM
  obtain ⟨c, a1, a2, -, -, a5, a6⟩ := m8 a ha
  obtain ⟨d, b1, b2, -, -, b5, b6⟩ := m8 b hb
  have h1 : ¬ zoob (nI a) 80 := by rw [zoob_nI (by omega)]; omega
  have h2 : ¬ zoob (nI b) 80 := by rw [zoob_nI (by omega)]; omega
  have eca : (nI a).toNatClampNeg = a := nI_clamp (by omega)
  have lp : ∀ b0 : Bool, ∃ v, fx_Q_areSame_L24 n (nI a) (nI b) (b2i b0) 0 Q = some (76, b2i (b0 && zall (fun k => decide (qPa Q (4 * a + k) = qPa Q (4 * b + k))) c), v, Q) := fun b0 => by
    unfold fx_Q_areSame_L24
    obtain ⟨v, S', q1, e⟩ := zl_all (step := fun (st : Int32 × Int32 × ZQ) => st_Q_areSame_L24 n (nI a) (nI b) st.1 st.2.1 st.2.2) (fun b v S => (76, b, v, S)) (fun S => S = Q) (fun k => decide (qPa Q (4 * a + k) = qPa Q (4 * b + k))) c (fun b0 S hS => by
      subst hS
      show st_Q_areSame_L24 n (nI a) (nI b) (b2i b0) (nI c) S = _
      unfold st_Q_areSame_L24
      rw [if_neg h1, eca, a1, if_pos (nI_le (Nat.le_refl _) (by omega))]) (fun k S hk hS => by
      subst hS
      show st_Q_areSame_L24 n (nI a) (nI b) 0 (nI k) S = _
      unfold st_Q_areSame_L24
      rw [if_neg h1, show qMa S (nI a).toNatClampNeg = nI c by rw [eca]; exact a1, if_neg (nI_ge hk (by omega)), if_pos rfl]) (fun k S hk hS => by
      refine ⟨Q, rfl, ?_⟩
      subst hS
      show st_Q_areSame_L24 n (nI a) (nI b) 1 (nI k) S = _
      unfold st_Q_areSame_L24
      have ei : (4 : Int32) * nI a + nI k = nI (4 * a + k) := by rw [nL4, pk_mul, nI_add]
      have ej : (4 : Int32) * nI b + nI k = nI (4 * b + k) := by rw [nL4, pk_mul, nI_add]
      rw [if_neg h1, show qMa S (nI a).toNatClampNeg = nI c by rw [eca]; exact a1, if_neg (nI_ge hk (by omega)), if_neg i01, ei, ej, if_neg (by rw [zoob_nI (by omega)]; omega), if_neg (by rw [zoob_nI (by omega)]; omega), nI_clamp (n := 4 * a + k) (by omega), nI_clamp (n := 4 * b + k) (by omega), nI_1]
      by_cases h : qPa S (4 * a + k) = qPa S (4 * b + k)
      · rw [if_pos h, decide_eq_true h]; rfl
      · rw [if_neg h, decide_eq_false h]; rfl) (n := n) (by omega) b0 Q rfl
    subst q1
    exact ⟨v, e⟩
  unfold fx_Q_areSame
  rw [if_neg h1, if_neg h2, show qMa Q (nI a).toNatClampNeg = nI c by rw [eca]; exact a1, show qMa Q (nI b).toNatClampNeg = nI d by rw [nI_clamp (by omega)]; exact b1]
  have es : zsp C a b = (decide (c = d) && zall (fun k => decide (qPa Q (4 * a + k) = qPa Q (4 * b + k))) c) := by
    unfold zsp
    rw [m6, a1, b1]
    by_cases q : c = d
    · subst q
      rw [decide_eq_true rfl, decide_eq_true rfl, Bool.true_and, Bool.true_and, Bool.eq_iff_iff, decide_eq_true_eq, zall_iff]
      constructor
      · intro h k hk
        rw [decide_eq_true_eq, (a6 k hk).1, (b6 k hk).1, h]
      · intro h
        refine zlow_eq a5 b5 fun k hk => ?_
        have h3 := h k hk
        rw [decide_eq_true_eq, (a6 k hk).1, (b6 k hk).1] at h3
        have z1 := zby_lt (mPa C a) k
        have z2 := zby_lt (mPa C b) k
        rw [nI_eq (by omega) (by omega)] at h3
        exact h3
    · rw [decide_eq_false (fun h => q (by rw [nI_eq (by omega) (by omega)] at h; exact h)), decide_eq_false q, Bool.false_and, Bool.false_and]
  by_cases q : c = d
  · obtain ⟨v, e⟩ := lp true
    rw [if_pos (by rw [q])]
    show zbL3 (fx_Q_areSame_L24 n (nI a) (nI b) (b2i true) 0 Q) _ = _
    rw [e, zbL3_some, if_pos rfl, if_pos (b2i_01 _), es, decide_eq_true q]
  · obtain ⟨v, e⟩ := lp false
    rw [if_neg (fun h => q (by rw [nI_eq (by omega) (by omega)] at h; exact h))]
    show zbL3 (fx_Q_areSame_L24 n (nI a) (nI b) (b2i false) 0 Q) _ = _
    rw [e, zbL3_some, if_pos rfl, if_pos (b2i_01 _), es, decide_eq_false q]
theorem q_hidden {m : Nat} {f : Nat → Int32} {acc : List Nat} (v2 v3 : Int32) (hM : zRM C Q tn mn) (hL : zLn f acc) (hg : zGm mn acc) (hm : m < mn) (hn : 100 < n) : ∃ v, fx_Q_means_L68 n v2 v3 (nI m) 0 0 (zQM Q f acc.length) = some (111, b2i (acc.any fun a => zsp C m a), v, zQM Q f acc.length) := by
  have hmn := hM.2.2.1
  have hlen := hg.len
  have ha : zany (fun k => zsp C m (acc.getD k 0)) acc.length = acc.any fun a => zsp C m a := zany_list (f := f) (fun a => zsp C m a) _ (fun k x hx => by
    show zsp C m (acc.getD k 0) = zsp C m x
    rw [List.getD_eq_getElem?_getD, hx]; rfl)
  rw [← ha]
  unfold fx_Q_means_L68
  refine ⟨nI acc.length, ?_⟩
  refine zl_scan (step := fun (st : Int32 × Int32 × ZQ) => st_Q_means_L68 n v2 v3 (nI m) st.1 st.2.1 st.2.2) (st := fun k => (b2i (zany (fun k => zsp C m (acc.getD k 0)) k), nI k, zQM Q f acc.length)) acc.length (n := n) (by omega) (fun k hk => ?_) ?_
  · show st_Q_means_L68 n v2 v3 (nI m) (b2i (zany (fun k => zsp C m (acc.getD k 0)) k)) (nI k) (zQM Q f acc.length) = _
    unfold st_Q_means_L68
    have hx := List.getElem?_eq_getElem hk
    have e1 : acc.getD k 0 = acc[k] := by rw [List.getD_eq_getElem?_getD, hx]; rfl
    have hx80 := hg.2 _ (List.getElem_mem hk)
    rw [show qMm (zQM Q f acc.length) = nI acc.length from rfl, if_neg (nI_ge hk (by omega)), b2i_if0, nI_1, show zany (fun k => zsp C m (acc.getD k 0)) (k + 1) = (zany (fun k => zsp C m (acc.getD k 0)) k || zsp C m (acc.getD k 0)) from rfl]
    cases zany (fun k => zsp C m (acc.getD k 0)) k with
    | true => rfl
    | false =>
      rw [if_neg (by decide), if_neg (by rw [zoob_nI (by omega)]; omega), show qMt (zQM Q f acc.length) (nI k).toNatClampNeg = nI acc[k] by rw [nI_clamp (by omega)]; exact hL k _ hx, q_same (Q := zQM Q f acc.length) (C := C) (tn := tn) (mn := mn) hM hx80 hm hn, zbind_some, b2i_if0, zsp_comm, e1]
      cases zsp C m acc[k] <;> rfl
  · show st_Q_means_L68 n v2 v3 (nI m) _ (nI acc.length) (zQM Q f acc.length) = _
    unfold st_Q_means_L68
    rw [show qMm (zQM Q f acc.length) = nI acc.length from rfl, if_pos (nI_le (Nat.le_refl _) (by omega))]
theorem q_appM {f : Nat → Int32} {acc : List Nat} {i : Nat} {o : Nat} (nm : Int32) (hM : zRM C Q tn mn) (hi : i < 32) (ho : qLi Q i = nI o) (hL : zLn f acc) (hg : zGm mn acc) (hn : 100 < n) : ∃ f' v, fx_Q_means_L23 n nm (nI i) 0 (zQM Q f acc.length) = some (146, v, zQM Q f' (zmi C (nI o) nm acc mn).length) ∧ zLn f' (zmi C (nI o) nm acc mn) := by
  have hmn := hM.2.2.1
  have key : zok (fx_Q_means_L23 n nm (nI i) 0 (zQM Q f acc.length)) (fun r => ∃ v f', r = (146, v, zQM Q f' (zmi C (nI o) nm acc mn).length) ∧ zLn f' (zmi C (nI o) nm acc mn)) := by
    unfold fx_Q_means_L23
    refine zok_loop (Inv := fun st => ∃ (k : Nat) (f' : Nat → Int32), st.1 = nI k ∧ k ≤ mn ∧ st.2 = zQM Q f' (zmi C (nI o) nm acc k).length ∧ zLn f' (zmi C (nI o) nm acc k)) (μ := fun st => mn - st.1.toNatClampNeg) ?_ n (0, zQM Q f acc.length) ⟨0, f, rfl, by omega, rfl, hL⟩ (by show mn - (0 : Int32).toNatClampNeg < n; omega)
    rintro ⟨v3, T⟩ ⟨k, f', e1, hk, e2, hL'⟩
    dsimp only at e1 e2
    subst e1 e2
    show zok (st_Q_means_L23 n nm (nI i) (nI k) (zQM Q f' (zmi C (nI o) nm acc k).length)) _
    unfold st_Q_means_L23
    rw [show qMe (zQM Q f' (zmi C (nI o) nm acc k).length) = nI mn from hM.2.1]
    by_cases hkc : mn ≤ k
    · rw [if_pos (nI_le hkc (by omega))]
      refine ⟨_, rfl, fun s' q => (by cases q), fun r q => ?_⟩
      cases q
      have : k = mn := by omega
      subst this
      exact ⟨_, f', rfl, hL'⟩
    · have hkc : k < mn := by omega
      have hz : ¬ zoob (nI k) 80 := by rw [zoob_nI (by omega)]; omega
      have ecl : (nI k).toNatClampNeg = k := nI_clamp (by omega)
      have hgk := zmi_good (C := C) (o := nI o) (nm := nm) hg k hk
      have hlenk := hgk.len
      have hmu : mn - (nI k + 1).toNatClampNeg < mn - (nI k).toNatClampNeg := by
        rw [nI_1, nI_clamp (by omega), nI_clamp (by omega)]
        omega
      have go : ∀ (f2 : Nat → Int32) (acc2 : List Nat), acc2 = zms C (nI o) nm k (zmi C (nI o) nm acc k) → zLn f2 acc2 → zok (some (.inl (nI k + 1, zQM Q f2 acc2.length)) : Option ((Int32 × ZQ) ⊕ (Nat × Int32 × ZQ))) (fun o9 => (∀ (s' : Int32 × ZQ), o9 = Sum.inl s' → (∃ (k : Nat) (f' : Nat → Int32), s'.1 = nI k ∧ k ≤ mn ∧ s'.2 = zQM Q f' (zmi C (nI o) nm acc k).length ∧ zLn f' (zmi C (nI o) nm acc k)) ∧ mn - s'.1.toNatClampNeg < mn - (nI k).toNatClampNeg) ∧ ∀ (r : Nat × Int32 × ZQ), o9 = Sum.inr r → ∃ v f', r = (146, v, zQM Q f' (zmi C (nI o) nm acc mn).length) ∧ zLn f' (zmi C (nI o) nm acc mn)) := by
        intro f2 acc2 e h
        refine ⟨_, rfl, fun s' q => ?_, fun r q => (by cases q)⟩
        cases q
        exact ⟨⟨k + 1, f2, nI_1 k, hkc, by rw [e]; rfl, by rw [e] at h; exact h⟩, hmu⟩
      have eo : qOw (zQM Q f' (zmi C (nI o) nm acc k).length) (nI k).toNatClampNeg = mOw C k := by rw [ecl, hM.2.2.2.1]; rfl
      have en : qNa (zQM Q f' (zmi C (nI o) nm acc k).length) (nI k).toNatClampNeg = mNa C k := by rw [ecl, hM.2.2.2.2.1]; rfl
      have el : qLi (zQM Q f' (zmi C (nI o) nm acc k).length) (nI i).toNatClampNeg = nI o := by rw [nI_clamp (by omega)]; exact ho
      rw [if_neg (nI_ge hkc (by omega))]
      refine zok_oob hz (zok_oob (by rw [zoob_nI (by omega)]; omega) ?_)
      rw [eo, el]
      by_cases q1 : mOw C k = nI o
      · rw [if_pos q1]
        refine zok_oob hz ?_
        rw [en]
        by_cases q2 : mNa C k = nm
        · obtain ⟨v, e⟩ := q_hidden (n := n) (C := C) (Q := Q) (tn := tn) nm (nI i) hM hL' hgk hkc hn
          rw [if_pos q2, e, zbL3_some, if_pos rfl, b2i_if0]
          cases hh : ((zmi C (nI o) nm acc k).any fun a => zsp C k a) with
          | true =>
            rw [if_pos rfl]
            exact go f' _ (by unfold zms; rw [hh, Bool.not_true, Bool.and_false, if_neg (by decide)]) hL'
          | false =>
            obtain ⟨g1, g2⟩ := zms_new (C := C) (o := nI o) (nm := nm) hgk hkc hh
            have em : qMm (zQM Q f' (zmi C (nI o) nm acc k).length) = nI (zmi C (nI o) nm acc k).length := rfl
            rw [if_neg (by decide), em]
            refine zok_oob (by rw [zoob_nI (by omega)]; omega) ?_
            rw [zlet_eq, zlet_eq, nI_clamp (n := (zmi C (nI o) nm acc k).length) (by omega)]
            have es : qMm' (qMt' (zQM Q f' (zmi C (nI o) nm acc k).length) (upd (qMt (zQM Q f' (zmi C (nI o) nm acc k).length)) (zmi C (nI o) nm acc k).length (nI k))) (qMm (qMt' (zQM Q f' (zmi C (nI o) nm acc k).length) (upd (qMt (zQM Q f' (zmi C (nI o) nm acc k).length)) (zmi C (nI o) nm acc k).length (nI k))) + 1) = zQM Q (upd f' (zmi C (nI o) nm acc k).length (nI k)) (zmi C (nI o) nm acc k ++ [k]).length := by
              show qMm' (qMt' (zQM Q f' (zmi C (nI o) nm acc k).length) (upd f' (zmi C (nI o) nm acc k).length (nI k))) (nI (zmi C (nI o) nm acc k).length + 1) = _
              rw [nI_1, List.length_append, List.length_singleton]
              rfl
            rw [es]
            exact go _ _ (by unfold zms; rw [hh, decide_eq_true q1, decide_eq_true q2]; rfl) (zLn_push hL')
        · rw [if_neg q2]
          exact go f' _ (by unfold zms; rw [decide_eq_false q2, Bool.and_false, Bool.false_and, if_neg (by decide)]) hL'
      · rw [if_neg q1]
        exact go f' _ (by unfold zms; rw [decide_eq_false q1, Bool.false_and, Bool.false_and, if_neg (by decide)]) hL'
  obtain ⟨r, e, v, f', rfl, h⟩ := key
  exact ⟨f', v, e, h⟩
theorem q_means {t : Nat} (nm : Int32) (hT : zRT C Q tn) (hM : zRM C Q tn mn) (h8 : 8 ≤ t) (ht : t < 8 + tn) (hn : 2000 < n) :
    ∃ g p f R, fx_Q_means n Q (nI t) nm = some (zQM (zQL Q g R.length p) f (zmo C mn nm R R.length).length) ∧ zLn f (zmo C mn nm R R.length) ∧ zLine (zfl (qFm Q) (qFa Q)) (zch (qAb Q) 32 (nI t)) R := by
  have h24 := hT.2.2.1.1
  obtain ⟨g, R, p, e, hl, hg, hLn⟩ := q_line (n := n) (Q := Q) hT.2.2.1 h8 ht hn
  have hlenR := hg.len
  unfold fx_Q_means
  rw [e, zbind1_some, zlet_eq]
  have hM2 : zRM C (zQL Q g R.length p) tn mn := hM
  have key : zok (fx_Q_means_L12 n nm 0 (zQM (zQL Q g R.length p) (qMt Q) 0)) (fun r => ∃ v f', r = (152, v, zQM (zQL Q g R.length p) f' (zmo C mn nm R R.length).length) ∧ zLn f' (zmo C mn nm R R.length)) := by
    unfold fx_Q_means_L12
    refine zok_loop (Inv := fun st => ∃ (k : Nat) (f' : Nat → Int32), st.1 = nI k ∧ k ≤ R.length ∧ st.2 = zQM (zQL Q g R.length p) f' (zmo C mn nm R k).length ∧ zLn f' (zmo C mn nm R k)) (μ := fun st => R.length - st.1.toNatClampNeg) ?_ n (0, zQM (zQL Q g R.length p) (qMt Q) 0) ⟨0, qMt Q, rfl, by omega, rfl, zLn_nil _⟩ (by show R.length - (0 : Int32).toNatClampNeg < n; omega)
    rintro ⟨v3, T⟩ ⟨k, f', e1, hk, e2, hL'⟩
    dsimp only at e1 e2
    subst e1 e2
    show zok (st_Q_means_L12 n nm (nI k) (zQM (zQL Q g R.length p) f' (zmo C mn nm R k).length)) _
    unfold st_Q_means_L12
    rw [show qLm (zQM (zQL Q g R.length p) f' (zmo C mn nm R k).length) = nI R.length from rfl]
    by_cases hkc : R.length ≤ k
    · rw [if_pos (nI_le hkc (by omega))]
      refine ⟨_, rfl, fun s' q => (by cases q), fun r q => ?_⟩
      cases q
      have : k = R.length := by omega
      subst this
      exact ⟨_, f', rfl, hL'⟩
    · have hkc : k < R.length := by omega
      have hx := List.getElem?_eq_getElem hkc
      have e1 : R.getD k 0 = R[k] := by rw [List.getD_eq_getElem?_getD, hx]; rfl
      obtain ⟨f2, v, e3, l3⟩ := q_appM (n := n) (C := C) (Q := zQL Q g R.length p) (i := k) (o := R[k]) nm hM2 (by omega) (hLn k _ hx) hL' (zmo_good k) (by omega)
      rw [if_neg (nI_ge hkc (by omega)), e3, zbL2_some, if_pos rfl]
      refine ⟨_, rfl, fun s' q => ?_, fun r q => (by cases q)⟩
      cases q
      refine ⟨⟨k + 1, f2, nI_1 k, hkc, ?_, ?_⟩, ?_⟩
      · show zQM (zQL Q g R.length p) f2 (zmi C (nI R[k]) nm (zmo C mn nm R k) mn).length = zQM (zQL Q g R.length p) f2 (zmi C (nI (R.getD k 0)) nm (zmo C mn nm R k) mn).length
        rw [e1]
      · show zLn f2 (zmi C (nI (R.getD k 0)) nm (zmo C mn nm R k) mn)
        rw [e1]
        exact l3
      · show R.length - (nI k + 1).toNatClampNeg < R.length - (nI k).toNatClampNeg
        rw [nI_1, nI_clamp (by omega), nI_clamp (by omega)]
        omega
  obtain ⟨r, e2, v, f', rfl, h⟩ := key
  have e3 : fx_Q_means_L12 n nm 0 (qMm' (zQL Q g R.length p) 0) = some (152, v, zQM (zQL Q g R.length p) f' (zmo C mn nm R R.length).length) := e2
  rw [e3, zbL2_some, if_pos rfl]
  exact ⟨g, p, f', R, rfl, h, hl⟩
theorem o_meant (h : zR C Q) (a b c : Int32) (hn : 2000 < n) : ∃ r C' Q', fx_X_meant n C a b c = some (r, C') ∧ fx_Q_meant n Q a b c = some (r, Q') ∧ zR C' Q' := by
  obtain ⟨tn, mn, hT, hM, hK, hX⟩ := id h
  have h24 : tn ≤ 24 := hT.2.2.1.1
  have hmn := hM.2.2.1
  unfold fx_X_meant fx_H_meantAt fx_Q_meant
  rw [zlet_eq, q_isOwn (show qTy (qTh' Q 0) = nI (8 + tn) from hT.2.1) h24, zbind_some, b2i_if0]
  rcases xO_cases tn a h24 with q | ⟨t, t8, t2, rfl⟩
  · rw [q, if_neg (by decide), c_gather0 b hT.1 h24 q (by omega), zbind1_some]
    refine ⟨-1, hMc' C 0, qTh' Q 0, ?_, rfl, h⟩
    by_cases hc : c < 0
    · rw [if_pos hc, zbind_some]
    · rw [if_neg hc, if_pos (show hMc (hMc' C 0) ≤ c from Int32.not_lt.mp hc), zbind_some]
  · obtain ⟨g, f, R, e1, l1, z1⟩ := c_gather (n := n) (C := C) (Q := Q) (mn := mn) b hT hM.1 hmn t8 t2 (by omega)
    obtain ⟨g2, p2, f2, R2, e2, l2, z2⟩ := q_means (n := n) (C := C) (Q := qTh' Q 0) (tn := tn) (mn := mn) b hT hM t8 t2 hn
    have eR : R2 = R := zLine_det z2 z1
    subst eR
    have hg := zmo_good (C := C) (nm := b) (mn := mn) (R := R2) R2.length
    have hlen := hg.len
    rw [xO_in h24 t8 t2, if_pos (c := true = true) rfl, e1, e2, zbind1_some, zbind1_some]
    have hR : zR (zCH (hLi' C g) f (zmo C mn b R2 R2.length).length) (zQM (zQL (qTh' Q 0) g2 R2.length p2) f2 (zmo C mn b R2 R2.length).length) := ⟨tn, mn, hT, hM, hK, hX⟩
    by_cases hc : c < 0
    · rw [if_pos hc, if_pos hc, zbind_some]
      exact ⟨_, _, _, rfl, rfl, hR⟩
    · rw [if_neg hc, if_neg hc]
      obtain ⟨j, hj, rfl⟩ := nI_of hc
      rw [show hMc (zCH (hLi' C g) f (zmo C mn b R2 R2.length).length) = nI (zmo C mn b R2 R2.length).length from rfl, show qMm (zQM (zQL (qTh' Q 0) g2 R2.length p2) f2 (zmo C mn b R2 R2.length).length) = nI (zmo C mn b R2 R2.length).length from rfl]
      by_cases hjl : (zmo C mn b R2 R2.length).length ≤ j
      · rw [if_pos (nI_le hjl hj), if_pos (nI_le hjl hj), zbind_some]
        exact ⟨_, _, _, rfl, rfl, hR⟩
      · have hz : ¬ zoob (nI j) 80 := by rw [zoob_nI hj]; omega
        have hx := List.getElem?_eq_getElem (l := zmo C mn b R2 R2.length) (i := j) (by omega)
        rw [if_neg (nI_ge (by omega) (by omega)), if_neg (nI_ge (by omega) (by omega)), if_neg hz, if_neg hz, zbind_some, nI_clamp hj]
        refine ⟨_, _, _, rfl, ?_, hR⟩
        show some (f2 j, _) = some (f j, _)
        rw [l1 j _ hx, l2 j _ hx]
end
