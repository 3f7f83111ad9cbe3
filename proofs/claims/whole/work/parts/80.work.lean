/-! PURE ROWS: the reference works a call out -/
def zla (l : List Nat) : Int32 := match l.getLast? with
  | some x => nI x
  | none => -2
theorem zla_push (l : List Nat) (x : Nat) : zla (l ++ [x]) = nI x := by
  unfold zla
  rw [List.getLast?_concat]
theorem zbest_la (l : List Nat) (hl : l.length < 2 ^ 31) : (if nI l.length = 1 then zla l else -2) = zbest l := by
  match l with
  | [] => rfl
  | [x] => rfl
  | a :: b :: c =>
    rw [if_neg (show ¬ nI (a :: b :: c).length = 1 from fun q => by
      have := (nI_eq (b := 1) hl (by omega)).mp q
      simp at this)]
    rfl
section
variable {n : Nat} {C : ZC} {Q : ZQ} {tn mn : Nat}
theorem q_L72 (hT : zRT C Q tn) (hM : zRM C Q tn mn) {ph nv i : Nat} {acc : List Nat} (row : Int64) (v4 v5 v6 : Int32) (hPq : qPh Q = nI ph) (hph1 : 1 ≤ ph) (hph : ph ≤ 3) (hnv : nv ≤ 6) (hv : ∀ k, k < nv → zvl tn row k = true) (hq : ∀ k, k < nv → qVl Q k = nI (zby row k)) (hMm : qMm Q = nI acc.length) (hL : zLn (qMt Q) acc) (hg : zGm mn acc) (hi : i < acc.length) (hfi : zft C ph nv row acc[i] = true) (hn : 100 < n) :
    ∃ v S, fx_Q_workOut_L72 n (nI nv) v4 v5 v6 (nI i) 1 0 Q = some (146, b2i (zma C (zF C ph nv row acc) acc[i]), v, S) ∧ zIo Q S := by
  have hmn := hM.2.2.1
  have hlen := hg.len
  have hxi := List.getElem?_eq_getElem hi
  have hxim := hg.2 _ (List.getElem_mem hi)
  unfold fx_Q_workOut_L72
  obtain ⟨v, S', h1, e⟩ := zl_all (step := fun (st : Int32 × Int32 × ZQ) => st_Q_workOut_L72 n (nI nv) v4 v5 v6 (nI i) st.1 st.2.1 st.2.2) (fun b v S => (146, b, v, S)) (fun S => zIo Q S) (fun j => decide (j = i) || (!(zft C ph nv row (acc.getD j 0)) || zcl C acc[i] (acc.getD j 0))) acc.length (fun b S hS => by
    show st_Q_workOut_L72 n (nI nv) v4 v5 v6 (nI i) (b2i b) (nI acc.length) S = _
    unfold st_Q_workOut_L72
    have em : qMm S = nI acc.length := by obtain ⟨f, rfl, -⟩ := hS; exact hMm
    rw [em, if_pos (nI_le (Nat.le_refl _) (by omega))]) (fun j S hj hS => by
    show st_Q_workOut_L72 n (nI nv) v4 v5 v6 (nI i) 0 (nI j) S = _
    unfold st_Q_workOut_L72
    have em : qMm S = nI acc.length := by obtain ⟨f, rfl, -⟩ := hS; exact hMm
    rw [em, if_neg (nI_ge hj (by omega)), if_pos rfl]) (fun j S hj hS => by
    have hx := List.getElem?_eq_getElem hj
    have e1 : acc.getD j 0 = acc[j] := by rw [List.getD_eq_getElem?_getD, hx]; rfl
    have hxm := hg.2 _ (List.getElem_mem hj)
    have hz : ¬ zoob (nI j) 80 := by rw [zoob_nI (by omega)]; omega
    have em : qMm S = nI acc.length := by obtain ⟨f, rfl, -⟩ := hS; exact hMm
    have ep : qPh S = nI ph := by obtain ⟨f, rfl, -⟩ := hS; exact hPq
    have et : ∀ S2, zIo Q S2 → qMt S2 (nI j).toNatClampNeg = nI acc[j] := fun S2 h2 => by
      obtain ⟨f, rfl, -⟩ := h2
      rw [nI_clamp (by omega)]
      exact hL j _ hx
    have et2 : ∀ S2, zIo Q S2 → qMt S2 (nI i).toNatClampNeg = nI acc[i] := fun S2 h2 => by
      obtain ⟨f, rfl, -⟩ := h2
      rw [nI_clamp (by omega)]
      exact hL i _ hxi
    have ev : ∀ k, k < nv → qVl S k = nI (zby row k) := by obtain ⟨f, rfl, -⟩ := hS; exact hq
    rw [e1]
    by_cases hij : j = i
    · refine ⟨S, hS, ?_⟩
      show st_Q_workOut_L72 n (nI nv) v4 v5 v6 (nI i) 1 (nI j) S = _
      unfold st_Q_workOut_L72
      rw [em, if_neg (nI_ge hj (by omega)), if_neg i01, if_pos (by rw [hij]), decide_eq_true hij, nI_1]
      rfl
    · obtain ⟨S2, e2, hS2⟩ := q_fits (n := n) (hS.T hT) (hS.M hM) row hxm hph1 hph hnv hv ev hn
      have base : st_Q_workOut_L72 n (nI nv) v4 v5 v6 (nI i) 1 (nI j) S = (if zft C ph nv row acc[j] = true then zbind (fx_Q_isCloser n S2 (nI acc[i]) (nI acc[j])) (fun r_16 S_16 => (if r_16 = 0 then some (.inl ((0 : Int32), nI (j + 1), S_16)) else some (.inl ((1 : Int32), nI (j + 1), S_16)))) else some (.inl ((1 : Int32), nI (j + 1), S2))) := by
        unfold st_Q_workOut_L72
        rw [em, if_neg (nI_ge hj (by omega)), if_neg i01, if_neg (fun q => hij ((nI_eq (by omega) (by omega)).mp q)), if_neg hz, et S hS, ep, e2, zbind_some, b2i_if0, nI_1, if_neg (show ¬ zoob (nI i) 80 by rw [zoob_nI (by omega)]; omega), if_neg hz, et S2 (hS.tr hS2), et2 S2 (hS.tr hS2)]
      show ∃ S', zIo Q S' ∧ st_Q_workOut_L72 n (nI nv) v4 v5 v6 (nI i) 1 (nI j) S = _
      rw [base, decide_eq_false hij, Bool.false_or]
      cases hf : zft C ph nv row acc[j] with
      | false =>
        rw [if_neg (by decide)]
        exact ⟨S2, hS.tr hS2, rfl⟩
      | true =>
        obtain ⟨S3, e3, hS3⟩ := q_closer (n := n) (hS2.T (hS.T hT)) (hS2.M (hS.M hM)) hxim hxm (zft_bo hM hxim hxm hfi hf) hn
        rw [if_pos rfl, e3, zbind_some, b2i_if0]
        refine ⟨S3, (hS.tr hS2).tr hS3, ?_⟩
        cases zcl C acc[i] acc[j] <;> rfl) (n := n) (by omega) true Q (zIo.rf hT)
  rw [Bool.true_and] at e
  refine ⟨v, S', ?_, h1⟩
  rw [show zma C (zF C ph nv row acc) acc[i] = zall (fun j => decide (j = i) || (!(zft C ph nv row (acc.getD j 0)) || zcl C acc[i] (acc.getD j 0))) acc.length from ?_]
  · exact e
  · rw [Bool.eq_iff_iff, zall_iff]
    unfold zma
    rw [List.all_eq_true]
    constructor
    · intro h j hj
      have hx := List.getElem?_eq_getElem hj
      have e1 : acc.getD j 0 = acc[j] := by rw [List.getD_eq_getElem?_getD, hx]; rfl
      rw [e1]
      by_cases hij : j = i
      · rw [decide_eq_true hij]; rfl
      · rw [decide_eq_false hij, Bool.false_or]
        cases hf : zft C ph nv row acc[j] with
        | false => rfl
        | true =>
          have := h acc[j] (List.mem_filter.mpr ⟨List.getElem_mem hj, hf⟩)
          rw [Bool.or_eq_true] at this
          rcases this with q | q
          · have q := of_decide_eq_true q
            have : j = i := (List.getElem_inj hg.1).mp q
            exact absurd this hij
          · rw [q]; rfl
    · intro h x hx
      obtain ⟨hx1, hx2⟩ := List.mem_filter.mp hx
      obtain ⟨j, hj, ej⟩ := List.getElem_of_mem hx1
      have h2 := h j hj
      have e1 : acc.getD j 0 = x := by rw [List.getD_eq_getElem?_getD, List.getElem?_eq_getElem hj, ej]; rfl
      rw [e1, hx2, Bool.not_true, Bool.false_or, Bool.or_eq_true] at h2
      rcases h2 with q | q
      · have q := of_decide_eq_true q
        subst q
        rw [decide_eq_true ej.symm]; rfl
      · rw [q, Bool.or_true]
theorem q_L32 (hT : zRT C Q tn) (hM : zRM C Q tn mn) {ph nv : Nat} {acc : List Nat} (row : Int64) (hPq : qPh Q = nI ph) (hph1 : 1 ≤ ph) (hph : ph ≤ 3) (hnv : nv ≤ 6) (hv : ∀ k, k < nv → zvl tn row k = true) (hq : ∀ k, k < nv → qVl Q k = nI (zby row k)) (hMm : qMm Q = nI acc.length) (hL : zLn (qMt Q) acc) (hg : zGm mn acc) (hn : 100 < n) :
    ∃ v S, fx_Q_workOut_L32 n (nI nv) 0 0 (-2) 0 Q = some (172, nI (zF C ph nv row acc).length, nI (zB C (zF C ph nv row acc)).length, zla (zB C (zF C ph nv row acc)), v, S) ∧ zIo Q S := by
  have hmn := hM.2.2.1
  have hlen := hg.len
  generalize hF : zF C ph nv row acc = F
  have key : zok (fx_Q_workOut_L32 n (nI nv) 0 0 (-2) 0 Q) (fun r => ∃ v S, r = (172, nI F.length, nI (zB C F).length, zla (zB C F), v, S) ∧ zIo Q S) := by
    unfold fx_Q_workOut_L32
    refine zok_loop (Inv := fun st => ∃ (k : Nat), st.2.2.2.1 = nI k ∧ k ≤ acc.length ∧ zIo Q st.2.2.2.2 ∧ st.1 = nI (zF C ph nv row (acc.take k)).length ∧ st.2.1 = nI ((zF C ph nv row (acc.take k)).filter (zma C F)).length ∧ st.2.2.1 = zla ((zF C ph nv row (acc.take k)).filter (zma C F))) (μ := fun st => acc.length - st.2.2.2.1.toNatClampNeg) ?_ n (0, 0, -2, 0, Q) ⟨0, rfl, by omega, zIo.rf hT, rfl, rfl, rfl⟩ (by show acc.length - (0 : Int32).toNatClampNeg < n; omega)
    rintro ⟨v4, v5, v6, v7, S⟩ ⟨k, e1, hk, hS, e2, e3, e4⟩
    dsimp only at e1 hS e2 e3 e4
    subst e1 e2 e3 e4
    have em : qMm S = nI acc.length := by obtain ⟨f, rfl, -⟩ := hS; exact hMm
    have ep : qPh S = nI ph := by obtain ⟨f, rfl, -⟩ := hS; exact hPq
    have ev : ∀ k, k < nv → qVl S k = nI (zby row k) := by obtain ⟨f, rfl, -⟩ := hS; exact hq
    have eL : zLn (qMt S) acc := by obtain ⟨f, rfl, -⟩ := hS; exact hL
    generalize hFk : zF C ph nv row (acc.take k) = Fk
    show zok (st_Q_workOut_L32 n (nI nv) (nI Fk.length) (nI (Fk.filter (zma C F)).length) (zla (Fk.filter (zma C F))) (nI k) S) _
    unfold st_Q_workOut_L32
    rw [em]
    by_cases hkc : acc.length ≤ k
    · rw [if_pos (nI_le hkc (by omega))]
      refine ⟨_, rfl, fun s' q => (by cases q), fun r q => ?_⟩
      cases q
      rw [List.take_of_length_le hkc, hF] at hFk
      subst hFk
      exact ⟨_, S, rfl, hS⟩
    · have hkc : k < acc.length := by omega
      have hx := List.getElem?_eq_getElem hkc
      have hxm := hg.2 _ (List.getElem_mem hkc)
      have hz : ¬ zoob (nI k) 80 := by rw [zoob_nI (by omega)]; omega
      have ecl : (nI k).toNatClampNeg = k := nI_clamp (by omega)
      have htk : zF C ph nv row (acc.take (k + 1)) = Fk ++ (if zft C ph nv row acc[k] = true then [acc[k]] else []) := by
        unfold zF at hFk ⊢
        rw [List.take_add_one, hx, List.filter_append, hFk]
        congr 1
        show [acc[k]].filter _ = _
        rw [List.filter_cons, List.filter_nil]
      have hmu : acc.length - (nI k + 1).toNatClampNeg < acc.length - (nI k).toNatClampNeg := by
        rw [nI_1, nI_clamp (by omega), ecl]
        omega
      rw [if_neg (nI_ge hkc (by omega))]
      refine zok_oob hz ?_
      obtain ⟨S2, e2, hS2⟩ := q_fits (n := n) (hS.T hT) (hS.M hM) row hxm hph1 hph hnv hv ev hn
      have hQ2 := hS.tr hS2
      rw [show qMt S (nI k).toNatClampNeg = nI acc[k] by rw [ecl]; exact eL k _ hx, ep, e2, zbind_some, b2i_if0]
      cases hf : zft C ph nv row acc[k] with
      | false =>
        rw [hf, if_neg (by decide), List.append_nil] at htk
        rw [if_neg (by decide)]
        refine ⟨_, rfl, fun s' q => ?_, fun r q => (by cases q)⟩
        cases q
        refine ⟨⟨k + 1, nI_1 k, hkc, hQ2, ?_, ?_, ?_⟩, hmu⟩
        · rw [htk]
        · rw [htk]
        · rw [htk]
      | true =>
        rw [hf, if_pos rfl] at htk
        have em2 : qMm S2 = nI acc.length := by obtain ⟨f, rfl, -⟩ := hQ2; exact hMm
        have ep2 : qPh S2 = nI ph := by obtain ⟨f, rfl, -⟩ := hQ2; exact hPq
        have ev2 : ∀ k, k < nv → qVl S2 k = nI (zby row k) := by obtain ⟨f, rfl, -⟩ := hQ2; exact hq
        have eL2 : zLn (qMt S2) acc := by obtain ⟨f, rfl, -⟩ := hQ2; exact hL
        obtain ⟨v, S3, e3, hS3⟩ := q_L72 (n := n) (hQ2.T hT) (hQ2.M hM) row (nI Fk.length + 1) (nI (Fk.filter (zma C F)).length) (zla (Fk.filter (zma C F))) ep2 hph1 hph hnv hv ev2 em2 eL2 hg hkc hf hn
        rw [hF] at e3
        have hQ3 := hQ2.tr hS3
        have eL3 : zLn (qMt S3) acc := by obtain ⟨f, rfl, -⟩ := hQ3; exact hL
        rw [if_pos rfl, e3, zbL3_some, if_pos rfl, b2i_if0]
        have hfl : (Fk ++ [acc[k]]).filter (zma C F) = Fk.filter (zma C F) ++ (if zma C F acc[k] = true then [acc[k]] else []) := by
          rw [List.filter_append]
          congr 1
          rw [List.filter_cons, List.filter_nil]
        cases hm : zma C F acc[k] with
        | false =>
          rw [hm, if_neg (by decide), List.append_nil] at hfl
          rw [if_neg (by decide)]
          refine ⟨_, rfl, fun s' q => ?_, fun r q => (by cases q)⟩
          cases q
          refine ⟨⟨k + 1, nI_1 k, hkc, hQ3, ?_, ?_, ?_⟩, hmu⟩
          · rw [htk, List.length_append, List.length_singleton]; exact nI_1 _
          · rw [htk, hfl]
          · rw [htk, hfl]
        | true =>
          rw [hm, if_pos rfl] at hfl
          rw [if_pos rfl]
          refine zok_oob hz ?_
          refine ⟨_, rfl, fun s' q => ?_, fun r q => (by cases q)⟩
          cases q
          refine ⟨⟨k + 1, nI_1 k, hkc, hQ3, ?_, ?_, ?_⟩, hmu⟩
          · rw [htk, List.length_append, List.length_singleton]; exact nI_1 _
          · rw [htk, hfl, List.length_append, List.length_singleton]; exact nI_1 _
          · rw [htk, hfl, zla_push]
            show qMt S3 (nI k).toNatClampNeg = nI acc[k]
            rw [ecl]; exact eL3 k _ hx
  obtain ⟨r, e, v, S, rfl, h⟩ := key
  exact ⟨v, S, e, h⟩
/-- what comes of a call, and the phase, from phase ph on -/
def zres (C : ZC) (nv : Nat) (row : Int64) (acc : List Nat) : Nat → Nat → Int32 × Nat
  | 0, _ => (-3, 0)
  | k + 1, ph => if (zF C ph nv row acc).length = 0 then zres C nv row acc k (ph + 1) else (zbest (zB C (zF C ph nv row acc)), ph)
theorem q_work {t nv : Nat} (nm : Int32) (row : Int64) (hT : zRT C Q tn) (hM : zRM C Q tn mn) (h8 : 8 ≤ t) (ht : t < 8 + tn) (hnv : nv ≤ 6) (hv : ∀ k, k < nv → zvl tn row k = true) (hq : ∀ k, k < nv → qVl Q k = nI (zby row k)) (hn : 2000 < n) :
    ∃ R g l p f l2 fi, zLine (zfl (qFm Q) (qFa Q)) (zch (qAb Q) 32 (nI t)) R ∧ (∀ u, fi u = 0 ∨ fi u = 1) ∧ fx_Q_workOut n Q (nI t) nm (nI nv) = some ((zres C nv row (zmo C mn nm R R.length) 3 1).1, qPh' (qIo' (zQM (zQL Q g l p) f l2) fi) (nI (zres C nv row (zmo C mn nm R R.length) 3 1).2)) := by
  obtain ⟨g, p, f, R, e, hL, hz⟩ := q_means (n := n) (C := C) (Q := Q) (tn := tn) (mn := mn) nm hT hM h8 ht hn
  have hg := zmo_good (C := C) (nm := nm) (mn := mn) (R := R) R.length
  generalize hacc : zmo C mn nm R R.length = acc at *
  have hmn := hM.2.2.1
  have hlen := hg.len
  obtain ⟨Q1, hQ1⟩ : ∃ Q1, Q1 = zQM (zQL Q g R.length p) f acc.length := ⟨_, rfl⟩
  have hT1 : zRT C Q1 tn := by rw [hQ1]; exact hT
  have hM1 : zRM C Q1 tn mn := by rw [hQ1]; exact hM
  have key : zok (fx_Q_workOut_L11 n (nI nv) (qPh' Q1 1)) (fun r => ∃ x v5 v6 fi ph, r = (x, v5, v6, qPh' (qIo' Q1 fi) ph) ∧ (∀ u, fi u = 0 ∨ fi u = 1) ∧ ((x = 177 ∧ (if v5 = 1 then v6 else -2) = (zres C nv row acc 3 1).1 ∧ ph = nI (zres C nv row acc 3 1).2) ∨ (x = 204 ∧ zres C nv row acc 3 1 = (-3, 0)))) := by
    unfold fx_Q_workOut_L11
    refine zok_loop (Inv := fun st => ∃ (ph : Nat) (fi : Nat → Int32), 1 ≤ ph ∧ ph ≤ 4 ∧ st = qPh' (qIo' Q1 fi) (nI ph) ∧ (∀ u, fi u = 0 ∨ fi u = 1) ∧ zres C nv row acc (4 - ph) ph = zres C nv row acc 3 1) (μ := fun st => 4 - (qPh st).toNatClampNeg) ?_ n (qPh' Q1 1) ⟨1, qIo Q1, by omega, by omega, rfl, hT1.2.2.2.2.2.2.2.2, rfl⟩ (by show 4 - (1 : Int32).toNatClampNeg < n; omega)
    rintro S ⟨ph, fi, hp1, hp4, rfl, h01, hr⟩
    show zok (st_Q_workOut_L11 n (nI nv) (qPh' (qIo' Q1 fi) (nI ph))) _
    unfold st_Q_workOut_L11
    rw [show qPh (qPh' (qIo' Q1 fi) (nI ph)) = nI ph from rfl]
    by_cases h4 : 4 ≤ ph
    · rw [if_pos (show (4 : Int32) ≤ nI ph from nI_le (a := 4) h4 (by omega))]
      refine ⟨_, rfl, fun s' q => (by cases q), fun r q => ?_⟩
      cases q
      have : ph = 4 := by omega
      subst this
      exact ⟨204, 0, 0, fi, nI 4, rfl, h01, Or.inr ⟨rfl, hr.symm⟩⟩
    · have hT2 : zRT C (qPh' (qIo' Q1 fi) (nI ph)) tn := hT1.io h01
      obtain ⟨v, S2, e2, f2, hS2, h012⟩ := q_L32 (n := n) (C := C) (Q := qPh' (qIo' Q1 fi) (nI ph)) (tn := tn) (mn := mn) (ph := ph) (nv := nv) (acc := acc) hT2 hM1 row rfl hp1 (by omega) hnv hv (by rw [hQ1]; exact hq) (by rw [hQ1]; rfl) (by rw [hQ1]; exact hL) hg (by omega)
      subst hS2
      rw [if_neg (show ¬ (4 : Int32) ≤ nI ph from nI_ge (b := 4) (by omega) (by omega)), e2, zbL5_some, if_pos rfl]
      have hz2 : zres C nv row acc (4 - ph) ph = if (zF C ph nv row acc).length = 0 then zres C nv row acc (4 - (ph + 1)) (ph + 1) else (zbest (zB C (zF C ph nv row acc)), ph) := by
        rw [show 4 - ph = (4 - (ph + 1)) + 1 by omega]
        rfl
      rw [hz2] at hr
      by_cases hF0 : (zF C ph nv row acc).length = 0
      · rw [if_pos hF0] at hr
        rw [hF0, if_pos (show nI 0 ≤ 0 from Int32.le_refl _), zlet_eq]
        refine ⟨_, rfl, fun s' q => ?_, fun r q => (by cases q)⟩
        cases q
        refine ⟨⟨ph + 1, f2, by omega, by omega, ?_, h012, hr⟩, ?_⟩
        · show qPh' (qIo' Q1 f2) (nI ph + 1) = _
          rw [nI_1]
        · show 4 - (nI ph + 1).toNatClampNeg < 4 - (nI ph).toNatClampNeg
          rw [nI_1, nI_clamp (by omega), nI_clamp (by omega)]
          omega
      · rw [if_neg hF0] at hr
        have hFl : (zF C ph nv row acc).length ≤ acc.length := List.length_filter_le _ _
        have hBl : (zB C (zF C ph nv row acc)).length ≤ (zF C ph nv row acc).length := List.length_filter_le _ _
        rw [if_neg (show ¬ nI (zF C ph nv row acc).length ≤ 0 from nI_ge (a := 0) (by omega) (by omega))]
        refine ⟨_, rfl, fun s' q => (by cases q), fun r q => ?_⟩
        cases q
        refine ⟨177, _, _, f2, nI ph, rfl, h012, Or.inl ⟨rfl, ?_, ?_⟩⟩
        · rw [← hr]
          exact zbest_la _ (by omega)
        · rw [← hr]
  obtain ⟨r, e2, x, v5, v6, fi, ph, rfl, h01, h⟩ := key
  refine ⟨R, g, R.length, p, f, acc.length, fi, hz, h01, ?_⟩
  unfold fx_Q_workOut
  rw [hacc, e, zbind1_some, zlet_eq, ← hQ1, e2, zbL3_some]
  rcases h with ⟨rfl, h1, h2⟩ | ⟨rfl, h1⟩
  · rw [if_pos rfl, ← h1, h2]
    by_cases q : v5 = 1
    · rw [if_pos q, if_pos q]
    · rw [if_neg q, if_neg q]
  · rw [if_neg (by decide), if_pos rfl, zlet_eq, h1]
    rfl
end
