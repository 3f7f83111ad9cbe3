/-! PURE ROWS: the class chooses -/
section
variable {n : Nat} {C : ZC} {Q : ZQ} {tn mn : Nat}
theorem c_choose {t nv : Nat} (nm : Int32) (row : Int64) (hT : zRT C Q tn) (hM : zRM C Q tn mn) (h8 : 8 ≤ t) (ht : t < 8 + tn) (hnv : nv ≤ 6) (hv : ∀ k, k < nv → zvl tn row k = true) (hn : 2000 < n) :
    ∃ R h, zLine (zfl (qFm Q) (qFa Q)) (zch (qAb Q) 32 (nI t)) R ∧ hPh ((C.1, C.2.1, h, C.2.2.2) : ZC) = nI (zres C nv row (zmo C mn nm R R.length) 3 1).2 ∧ fx_H_choose n C (nI t) nm (nI nv) row = some ((zres C nv row (zmo C mn nm R R.length) 3 1).1, (C.1, C.2.1, h, C.2.2.2)) := by
  obtain ⟨g, f, R, e, hL, hz⟩ := c_gather (n := n) (C := C) (Q := Q) (mn := mn) nm hT hM.1 hM.2.2.1 h8 ht (by omega)
  have hg := zmo_good (C := C) (nm := nm) (mn := mn) (R := R) R.length
  generalize hacc : zmo C mn nm R R.length = acc at *
  have hmn := hM.2.2.1
  have h24 := hT.2.2.1.1
  have hlen := hg.len
  -- the states that come: only the chooser's cells differ, and what is meant stays
  have key : zok (fx_H_choose_L9 n (nI nv) row 1 (zCH (hLi' C g) f acc.length)) (fun r => ∃ (x : Nat) (v : Int32) (h : ZCH), r = (x, v, (C.1, C.2.1, h, C.2.2.2)) ∧ ((x = 46 ∧ zres C nv row acc 3 1 = (-3, 0)) ∨ ∃ ph, x = 35 ∧ hPh ((C.1, C.2.1, h, C.2.2.2) : ZC) = nI ph ∧ zres C nv row acc 3 1 = (zbest (zB C (zF C ph nv row acc)), ph) ∧ hFc ((C.1, C.2.1, h, C.2.2.2) : ZC) = nI (zF C ph nv row acc).length ∧ zLn (hFi ((C.1, C.2.1, h, C.2.2.2) : ZC)) (zF C ph nv row acc))) := by
    unfold fx_H_choose_L9
    refine zok_loop (Inv := fun st => ∃ (ph : Nat) (h : ZCH), 1 ≤ ph ∧ ph ≤ 4 ∧ st.1 = nI ph ∧ st.2 = (C.1, C.2.1, h, C.2.2.2) ∧ hMc st.2 = nI acc.length ∧ zLn (hMe st.2) acc ∧ zres C nv row acc (4 - ph) ph = zres C nv row acc 3 1) (μ := fun st => 4 - st.1.toNatClampNeg) ?_ n (1, zCH (hLi' C g) f acc.length) ⟨1, (zCH (hLi' C g) f acc.length).2.2.1, by omega, by omega, rfl, rfl, rfl, hL, rfl⟩ (by show 4 - (1 : Int32).toNatClampNeg < n; omega)
    rintro ⟨v6, S⟩ ⟨ph, h, hp1, hp4, e1, e2, hMc1, hL1, hr⟩
    dsimp only at e1 e2 hMc1 hL1
    subst e1 e2
    show zok (st_H_choose_L9 n (nI nv) row (nI ph) (C.1, C.2.1, h, C.2.2.2)) _
    unfold st_H_choose_L9
    by_cases h4 : 4 ≤ ph
    · rw [if_pos (show (3 : Int32) < nI ph from nI_lt (a := 3) (by omega) (by omega))]
      refine ⟨_, rfl, fun s' q => (by cases q), fun r q => ?_⟩
      cases q
      have : ph = 4 := by omega
      subst this
      exact ⟨46, nI 4, h, rfl, Or.inl ⟨rfl, hr.symm⟩⟩
    · obtain ⟨f2, e2, hL2⟩ := c_gatherF (n := n) (C := hPh' (C.1, C.2.1, h, C.2.2.2) (nI ph)) (Q := Q) (tn := tn) (mn := mn) (ph := ph) (nv := nv) (acc := acc) hT.1 h24 hM row rfl (by omega) hnv hv hMc1 hL1 hg (by omega)
      have eF : zF (hPh' (C.1, C.2.1, h, C.2.2.2) (nI ph)) ph nv row acc = zF C ph nv row acc := rfl
      rw [eF] at e2 hL2
      have hFl : (zF C ph nv row acc).length ≤ acc.length := List.length_filter_le _ _
      rw [if_neg (show ¬ (3 : Int32) < nI ph from nI_nlt (a := 3) (by omega) (by omega)), zlet_eq, e2, zbind1_some, show hFc (zCF (hPh' (C.1, C.2.1, h, C.2.2.2) (nI ph)) f2 (zF C ph nv row acc).length) = nI (zF C ph nv row acc).length from rfl]
      have hz2 : zres C nv row acc (4 - ph) ph = if (zF C ph nv row acc).length = 0 then zres C nv row acc (4 - (ph + 1)) (ph + 1) else (zbest (zB C (zF C ph nv row acc)), ph) := by
        rw [show 4 - ph = (4 - (ph + 1)) + 1 by omega]
        rfl
      rw [hz2] at hr
      by_cases hF0 : (zF C ph nv row acc).length = 0
      · rw [if_pos hF0] at hr
        rw [if_pos (show nI (zF C ph nv row acc).length ≤ 0 by rw [hF0]; exact Int32.le_refl _)]
        refine ⟨_, rfl, fun s' q => ?_, fun r q => (by cases q)⟩
        cases q
        refine ⟨⟨ph + 1, (zCF (hPh' (C.1, C.2.1, h, C.2.2.2) (nI ph)) f2 (zF C ph nv row acc).length).2.2.1, by omega, by omega, nI_1 ph, rfl, hMc1, hL1, hr⟩, ?_⟩
        show 4 - (nI ph + 1).toNatClampNeg < 4 - (nI ph).toNatClampNeg
        rw [nI_1, nI_clamp (by omega), nI_clamp (by omega)]
        omega
      · rw [if_neg hF0] at hr
        rw [if_neg (show ¬ nI (zF C ph nv row acc).length ≤ 0 from nI_ge (a := 0) (by omega) (by omega))]
        refine ⟨_, rfl, fun s' q => (by cases q), fun r q => ?_⟩
        cases q
        exact ⟨35, nI ph, (zCF (hPh' (C.1, C.2.1, h, C.2.2.2) (nI ph)) f2 (zF C ph nv row acc).length).2.2.1, rfl, Or.inr ⟨ph, rfl, rfl, hr.symm, rfl, hL2⟩⟩
  obtain ⟨r, e2, x, v, h, rfl, hx⟩ := key
  unfold fx_H_choose
  rcases hx with ⟨rfl, h1⟩ | ⟨ph, rfl, h1, h2, h3, h4⟩
  · refine ⟨R, (hPh' ((C.1, C.2.1, h, C.2.2.2) : ZC) 0).2.2.1, hz, ?_, ?_⟩
    · rw [hacc, h1]; rfl
    · rw [hacc, e, zbind1_some, e2, zbL2_some, if_neg (by decide), if_pos rfl, zlet_eq, h1]
  · refine ⟨R, h, hz, ?_, ?_⟩
    · rw [hacc, h2]; exact h1
    · have em := c_most (n := n) (C := (C.1, C.2.1, h, C.2.2.2)) (Q := Q) (tn := tn) (mn := mn) (F := zF C ph nv row acc) hT.1 h24 hM h3 h4 (zF_good hg) (fun a ha b hb => by
        obtain ⟨ha1, ha2⟩ := List.mem_filter.mp ha
        obtain ⟨hb1, hb2⟩ := List.mem_filter.mp hb
        exact zft_bo (C := C) hM (hg.2 a ha1) (hg.2 b hb1) ha2 hb2) (by omega)
      rw [hacc, e, zbind1_some, e2, zbL2_some, if_pos rfl, em, zbind_some, h2]
      rfl
end
