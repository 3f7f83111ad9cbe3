/-! PURE ROWS: which is more specific -/
def zcl (C : ZC) (a b : Nat) : Bool := zall (fun i => zbt (tUp C (zpm C a i)) (zpm C b i)) (if zsz C a < zsz C b then zsz C b else zsz C a)
/-- both have parameters, or neither -/
def zbo (C : ZC) (a b : Nat) : Prop := (1 ≤ zsz C a ∧ 1 ≤ zsz C b) ∨ (zsz C a = 0 ∧ zsz C b = 0)
section
variable {n : Nat} {C : ZC} {Q : ZQ} {tn mn : Nat}
theorem c_closer (hT : tTo C = nI tn) (ht : tn ≤ 24) (hM : zRM C Q tn mn) {a b : Nat} (ha : a < mn) (hb : b < mn) (hbo : zbo C a b) (hn : 100 < n) : fx_H_isMoreSpecific n C (nI a) (nI b) = some (b2i (zcl C a b), C) := by
  obtain ⟨a1, -, a3, -, -, -⟩ := zM_sz hM ha
  obtain ⟨b1, -, b3, -, -, -⟩ := zM_sz hM hb
  have hmn := hM.2.2.1
  unfold fx_H_isMoreSpecific zcl
  rw [if_neg (by rw [zoob_nI (by omega)]; omega), if_neg (by rw [zoob_nI (by omega)]; omega), show mSz C (nI a).toNatClampNeg = nI (zsz C a) by rw [nI_clamp (by omega)]; exact a1, show mSz C (nI b).toNatClampNeg = nI (zsz C b) by rw [nI_clamp (by omega)]; exact b1]
  have ek : (if nI (zsz C a) < nI (zsz C b) then nI (zsz C b) else nI (zsz C a)) = nI (if zsz C a < zsz C b then zsz C b else zsz C a) := by
    by_cases h : zsz C a < zsz C b
    · rw [if_pos (nI_lt h (by omega)), if_pos h]
    · rw [if_neg (nI_nlt (by omega) (by omega)), if_neg h]
  rw [ek]
  generalize hk : (if zsz C a < zsz C b then zsz C b else zsz C a) = k
  have hk4 : k ≤ 4 := by rw [← hk]; split <;> omega
  have hpos : ∀ i, i < k → 1 ≤ zsz C a ∧ 1 ≤ zsz C b := fun i hi => by
    rcases hbo with q | q
    · exact q
    · rw [← hk] at hi
      split at hi <;> omega
  unfold fx_H_isMoreSpecific_L25
  have stp : ∀ i, i < k → st_H_isMoreSpecific_L25 n (nI a) (nI b) (nI k) (nI i) C = if (!(zbt (tUp C (zpm C a i)) (zpm C b i))) = true then some (.inr (61, nI i, C)) else some (.inl (nI (i + 1), C)) := fun i hi => by
    obtain ⟨p1, p2⟩ := hpos i hi
    unfold st_H_isMoreSpecific_L25
    rw [if_neg (nI_ge hi (by omega)), c_param hM ha p1 (by omega), zbind_some, c_param hM hb p2 (by omega), zbind_some, c_isSubN hT ht (zpm_lt hM ha p1) (zpm_lt hM hb p2), zbind_some, b2i_if0, nI_1]
    cases zbt (tUp C (zpm C a i)) (zpm C b i) <;> rfl
  rcases zl_ret (step := fun (st : Int32 × ZC) => st_H_isMoreSpecific_L25 n (nI a) (nI b) (nI k) st.1 st.2) (fun i => !(zbt (tUp C (zpm C a i)) (zpm C b i))) k C (fun v => (61, v, C)) (fun v => (69, v, C)) stp (by
    show st_H_isMoreSpecific_L25 n (nI a) (nI b) (nI k) (nI k) C = _
    unfold st_H_isMoreSpecific_L25
    rw [if_pos (nI_le (Nat.le_refl _) (by omega))]) (n := n) (by omega) with ⟨h, v, e⟩ | ⟨h, v, e⟩
  · rw [e, zbL2_some, if_pos rfl]
    unfold zall
    rw [h]; rfl
  · rw [e, zbL2_some, if_neg (by decide), if_pos rfl]
    unfold zall
    rw [h]; rfl
theorem q_closer (hT : zRT C Q tn) (hM : zRM C Q tn mn) {a b : Nat} (ha : a < mn) (hb : b < mn) (hbo : zbo C a b) (hn : 100 < n) : ∃ S, fx_Q_isCloser n Q (nI a) (nI b) = some (b2i (zcl C a b), S) ∧ zIo Q S := by
  obtain ⟨-, a2, a3, -, -, -⟩ := zM_sz hM ha
  obtain ⟨-, b2, b3, -, -, -⟩ := zM_sz hM hb
  have hmn := hM.2.2.1
  have hza : ¬ zoob (nI a) 80 := by rw [zoob_nI (by omega)]; omega
  have hzb : ¬ zoob (nI b) 80 := by rw [zoob_nI (by omega)]; omega
  have loop : ∀ k, k ≤ 4 → (∀ i, i < k → 1 ≤ zsz C a ∧ 1 ≤ zsz C b) → ∃ v S, fx_Q_isCloser_L37 n (nI a) (nI b) (nI k) 1 0 Q = some (74, b2i (zall (fun i => zbt (tUp C (zpm C a i)) (zpm C b i)) k), v, S) ∧ zIo Q S := by
    intro k hk hpos
    unfold fx_Q_isCloser_L37
    obtain ⟨v, S', h1, e⟩ := zl_all (step := fun (st : Int32 × Int32 × ZQ) => st_Q_isCloser_L37 n (nI a) (nI b) (nI k) st.1 st.2.1 st.2.2) (fun b v S => (74, b, v, S)) (fun S => zIo Q S) (fun i => zbt (tUp C (zpm C a i)) (zpm C b i)) k (fun b0 S hS => by
      show st_Q_isCloser_L37 n (nI a) (nI b) (nI k) (b2i b0) (nI k) S = _
      unfold st_Q_isCloser_L37
      rw [if_pos (nI_le (Nat.le_refl _) (by omega))]) (fun i S hi hS => by
      show st_Q_isCloser_L37 n (nI a) (nI b) (nI k) 0 (nI i) S = _
      unfold st_Q_isCloser_L37
      rw [if_neg (nI_ge hi (by omega)), if_pos rfl]) (fun i S hi hS => by
      obtain ⟨p1, p2⟩ := hpos i hi
      obtain ⟨S2, e2, hS2⟩ := q_under (n := n) (hS.T hT) (zpm_lt hM ha p1 (i := i)) (zpm_lt hM hb p2 (i := i)) hn
      refine ⟨S2, hS.tr hS2, ?_⟩
      show st_Q_isCloser_L37 n (nI a) (nI b) (nI k) 1 (nI i) S = _
      unfold st_Q_isCloser_L37
      rw [if_neg (nI_ge hi (by omega)), if_neg i01, q_param (hS.M hM) ha p1 (by omega), zbind_some, q_param (hS.M hM) hb p2 (by omega), zbind_some, e2, zbind_some, nI_1]) (n := n) (by omega) true Q (zIo.rf hT)
    rw [Bool.true_and] at e
    exact ⟨v, S', e, h1⟩
  unfold fx_Q_isCloser zcl
  rw [if_neg hza, if_neg hzb, show qMa Q (nI a).toNatClampNeg = nI (zsz C a) by rw [nI_clamp (by omega)]; exact a2, show qMa Q (nI b).toNatClampNeg = nI (zsz C b) by rw [nI_clamp (by omega)]; exact b2]
  by_cases h : zsz C a ≤ zsz C b
  · obtain ⟨v, S, e, hS⟩ := loop (zsz C b) b3 (fun i hi => by
      rcases hbo with q | q
      · exact q
      · omega)
    refine ⟨S, ?_, hS⟩
    have ek : (if zsz C a < zsz C b then zsz C b else zsz C a) = zsz C b := by split <;> omega
    rw [if_pos (nI_le h (by omega)), if_neg hzb, e, zbL3_some, if_pos rfl, if_pos (b2i_01 _), ek]
  · obtain ⟨v, S, e, hS⟩ := loop (zsz C a) a3 (fun i hi => by
      rcases hbo with q | q
      · exact q
      · omega)
    refine ⟨S, ?_, hS⟩
    have ek : (if zsz C a < zsz C b then zsz C b else zsz C a) = zsz C a := by split <;> omega
    rw [if_neg (nI_ge (by omega) (by omega)), if_neg hza, e, zbL3_some, if_pos rfl, if_pos (b2i_01 _), ek]
theorem zft_bo (hM : zRM C Q tn mn) {a b ph nv : Nat} {row : Int64} (ha : a < mn) (hb : b < mn) (h1 : zft C ph nv row a = true) (h2 : zft C ph nv row b = true) : zbo C a b := by
  obtain ⟨-, -, -, -, a5, -⟩ := zM_sz hM ha
  obtain ⟨-, -, -, -, b5, -⟩ := zM_sz hM hb
  unfold zft at h1 h2
  rw [Bool.and_eq_true] at h1 h2
  have h1 := h1.1
  have h2 := h2.1
  unfold ztk at h1 h2
  unfold zbo
  split at h1
  · rename_i h3
    rw [if_pos h3, Bool.and_eq_true] at h2
    rw [Bool.and_eq_true] at h1
    exact Or.inl ⟨a5 (of_decide_eq_true h1.1), b5 (of_decide_eq_true h2.1)⟩
  · rename_i h3
    rw [if_neg h3, Bool.and_eq_true] at h2
    rw [Bool.and_eq_true] at h1
    have e1 := of_decide_eq_true h1.2
    have e2 := of_decide_eq_true h2.2
    omega
/-- those that fit; those of them that are closest -/
def zF (C : ZC) (ph nv : Nat) (row : Int64) (acc : List Nat) : List Nat := acc.filter (zft C ph nv row)
def zma (C : ZC) (F : List Nat) (m : Nat) : Bool := F.all fun x => decide (x = m) || zcl C m x
def zB (C : ZC) (F : List Nat) : List Nat := F.filter (zma C F)
def zbest : List Nat → Int32
  | [x] => nI x
  | _ => -2
def zCF (C : ZC) (f : Nat → Int32) (len : Nat) : ZC := hFi' (hFc' C (nI len)) f
theorem zF_good {ph nv : Nat} {row : Int64} {acc : List Nat} (h : zGm mn acc) : zGm mn (zF C ph nv row acc) := ⟨h.1.filter _, fun x hx => h.2 x (List.mem_filter.mp hx).1⟩
theorem c_gatherF (hT : tTo C = nI tn) (ht : tn ≤ 24) (hM : zRM C Q tn mn) {ph nv : Nat} {acc : List Nat} (row : Int64) (hP : hPh C = nI ph) (hph : ph < 5) (hnv : nv ≤ 6) (hv : ∀ k, k < nv → zvl tn row k = true) (hM0 : hMc C = nI acc.length) (hL : zLn (hMe C) acc) (hg : zGm mn acc) (hn : 100 < n) :
    ∃ f, fx_H_gatherFitting n C (nI nv) row = some (zCF C f (zF C ph nv row acc).length) ∧ zLn f (zF C ph nv row acc) := by
  have hmn := hM.2.2.1
  have hlen := hg.len
  have key : zok (fx_H_gatherFitting_L8 n (nI nv) row 0 (hFc' C 0)) (fun r => ∃ v f, r = (65, v, zCF C f (zF C ph nv row acc).length) ∧ zLn f (zF C ph nv row acc)) := by
    unfold fx_H_gatherFitting_L8
    refine zok_loop (Inv := fun st => ∃ (k : Nat) (f : Nat → Int32), st.1 = nI k ∧ k ≤ acc.length ∧ st.2 = zCF C f (zF C ph nv row (acc.take k)).length ∧ zLn f (zF C ph nv row (acc.take k))) (μ := fun st => acc.length - st.1.toNatClampNeg) ?_ n (0, hFc' C 0) ⟨0, hFi C, rfl, by omega, rfl, zLn_nil _⟩ (by show acc.length - (0 : Int32).toNatClampNeg < n; omega)
    rintro ⟨v4, T⟩ ⟨k, f, e1, hk, e2, hLf⟩
    dsimp only at e1 e2
    subst e1 e2
    have hgk : zGm mn (zF C ph nv row (acc.take k)) := zF_good ⟨hg.1.sublist (List.take_sublist _ _), fun x hx => hg.2 x (List.mem_of_mem_take hx)⟩
    have hlenk : (zF C ph nv row (acc.take k)).length ≤ k := by
      unfold zF
      exact Nat.le_trans (List.length_filter_le _ _) (by rw [List.length_take]; omega)
    generalize hFk : zF C ph nv row (acc.take k) = Fk at *
    show zok (st_H_gatherFitting_L8 n (nI nv) row (nI k) (zCF C f Fk.length)) _
    unfold st_H_gatherFitting_L8
    rw [show hMc (zCF C f Fk.length) = nI acc.length from hM0]
    by_cases hkc : acc.length ≤ k
    · rw [if_pos (nI_le hkc (by omega))]
      refine ⟨_, rfl, fun s' q => (by cases q), fun r q => ?_⟩
      cases q
      rw [List.take_of_length_le hkc] at hFk
      rw [hFk]
      exact ⟨_, f, rfl, hLf⟩
    · have hkc : k < acc.length := by omega
      have hx := List.getElem?_eq_getElem hkc
      have hxm := hg.2 _ (List.getElem_mem hkc)
      have hz : ¬ zoob (nI k) 80 := by rw [zoob_nI (by omega)]; omega
      have ecl : (nI k).toNatClampNeg = k := nI_clamp (by omega)
      have eme : hMe (zCF C f Fk.length) (nI k).toNatClampNeg = nI acc[k] := by rw [ecl]; exact hL k _ hx
      have htk : zF C ph nv row (acc.take (k + 1)) = Fk ++ (if zft C ph nv row acc[k] = true then [acc[k]] else []) := by
        unfold zF at hFk ⊢
        rw [List.take_add_one, hx, List.filter_append, hFk]
        congr 1
        show [acc[k]].filter _ = _
        rw [List.filter_cons, List.filter_nil]
      have hmu : acc.length - (nI k + 1).toNatClampNeg < acc.length - (nI k).toNatClampNeg := by
        rw [nI_1, nI_clamp (by omega), ecl]
        omega
      rw [if_neg (nI_ge hkc (by omega))]
      refine zok_oob hz ?_
      have ef := c_fits (n := n) (C := zCF C f Fk.length) (Q := Q) (tn := tn) (mn := mn) (m := acc[k]) (ph := ph) (nv := nv) hT ht hM row hxm hP hph hnv hv hn
      rw [eme, ef, zbind_some, b2i_if0]
      show zok (if zft C ph nv row acc[k] = true then _ else _) _
      cases hf : zft C ph nv row acc[k] with
      | false =>
        rw [hf, if_neg (by decide), List.append_nil] at htk
        rw [if_neg (by decide)]
        refine ⟨_, rfl, fun s' q => ?_, fun r q => (by cases q)⟩
        cases q
        exact ⟨⟨k + 1, f, nI_1 k, hkc, by rw [htk], by rw [htk]; exact hLf⟩, hmu⟩
      | true =>
        rw [hf, if_pos rfl] at htk
        rw [if_pos rfl]
        refine zok_oob hz ?_
        rw [show hFc (zCF C f Fk.length) = nI Fk.length from rfl]
        refine zok_oob (by rw [zoob_nI (by omega)]; omega) ?_
        rw [zlet_eq, zlet_eq, eme, nI_clamp (n := Fk.length) (by omega)]
        have es : hFc' (hFi' (zCF C f Fk.length) (upd (hFi (zCF C f Fk.length)) Fk.length (nI acc[k]))) (hFc (hFi' (zCF C f Fk.length) (upd (hFi (zCF C f Fk.length)) Fk.length (nI acc[k]))) + 1) = zCF C (upd f Fk.length (nI acc[k])) (Fk ++ [acc[k]]).length := by
          show hFc' (hFi' (zCF C f Fk.length) (upd f Fk.length (nI acc[k]))) (nI Fk.length + 1) = _
          rw [nI_1, List.length_append, List.length_singleton]
          rfl
        rw [es]
        refine ⟨_, rfl, fun s' q => ?_, fun r q => (by cases q)⟩
        cases q
        exact ⟨⟨k + 1, upd f Fk.length (nI acc[k]), nI_1 k, hkc, by rw [htk], by rw [htk]; exact zLn_push hLf⟩, hmu⟩
  obtain ⟨r, e, v, f, rfl, h⟩ := key
  unfold fx_H_gatherFitting
  rw [zlet_eq, e, zbL2_some, if_pos rfl]
  exact ⟨f, rfl, h⟩
theorem c_thanAll (hT : tTo C = nI tn) (ht : tn ≤ 24) (hM : zRM C Q tn mn) {F : List Nat} {m : Nat} (hFc : hFc C = nI F.length) (hL : zLn (hFi C) F) (hg : zGm mn F) (hm : m ∈ F) (hbo : ∀ a ∈ F, ∀ b ∈ F, zbo C a b) (hn : 100 < n) : fx_H_isMoreSpecificThanAll n C (nI m) = some (b2i (zma C F m), C) := by
  have hmn := hM.2.2.1
  have hlen := hg.len
  have hm80 := hg.2 m hm
  unfold fx_H_isMoreSpecificThanAll fx_H_isMoreSpecificThanAll_L2
  have stp : ∀ k, k < F.length → st_H_isMoreSpecificThanAll_L2 n (nI m) (nI k) C = if (!(decide (F.getD k 0 = m) || zcl C m (F.getD k 0))) = true then some (.inr (34, nI k, C)) else some (.inl (nI (k + 1), C)) := fun k hk => by
    have hx := List.getElem?_eq_getElem hk
    have e1 : F.getD k 0 = F[k] := by rw [List.getD_eq_getElem?_getD, hx]; rfl
    have hmem := List.getElem_mem hk
    have hx80 := hg.2 _ hmem
    have hz : ¬ zoob (nI k) 80 := by rw [zoob_nI (by omega)]; omega
    have efi : hFi C (nI k).toNatClampNeg = nI F[k] := by rw [nI_clamp (by omega)]; exact hL k _ hx
    unfold st_H_isMoreSpecificThanAll_L2
    rw [hFc, if_neg (nI_ge hk (by omega)), if_neg hz, efi, e1, nI_1]
    by_cases q : F[k] = m
    · rw [if_pos (by rw [q]), decide_eq_true q]; rfl
    · rw [if_neg (fun p => q ((nI_eq (by omega) (by omega)).mp p)), if_neg hz, c_closer hT ht hM hm80 hx80 (hbo m hm _ hmem) hn, zbind_some, b2i_if0, decide_eq_false q, Bool.false_or]
      cases zcl C m F[k] <;> rfl
  have ha : zany (fun k => !(decide (F.getD k 0 = m) || zcl C m (F.getD k 0))) F.length = F.any fun x => !(decide (x = m) || zcl C m x) := zany_list (f := hFi C) (fun x => !(decide (x = m) || zcl C m x)) _ (fun k x hx => by
    show (!(decide (F.getD k 0 = m) || zcl C m (F.getD k 0))) = _
    rw [List.getD_eq_getElem?_getD, hx]; rfl)
  have hma : zma C F m = !(F.any fun x => !(decide (x = m) || zcl C m x)) := by
    unfold zma
    rw [List.not_any_eq_all_not]
    congr 1
    funext x
    rw [Bool.not_not]
  rcases zl_ret (step := fun (st : Int32 × ZC) => st_H_isMoreSpecificThanAll_L2 n (nI m) st.1 st.2) (fun k => !(decide (F.getD k 0 = m) || zcl C m (F.getD k 0))) F.length C (fun v => (34, v, C)) (fun v => (42, v, C)) stp (by
    show st_H_isMoreSpecificThanAll_L2 n (nI m) (nI F.length) C = _
    unfold st_H_isMoreSpecificThanAll_L2
    rw [hFc, if_pos (nI_le (Nat.le_refl _) (by omega))]) (n := n) (by omega) with ⟨h, v, e⟩ | ⟨h, v, e⟩
  · rw [ha] at h
    rw [e, zbL2_some, if_pos rfl, hma, h]; rfl
  · rw [ha] at h
    rw [e, zbL2_some, if_neg (by decide), if_pos rfl, hma, h]; rfl
theorem zneg2 {y : Nat} (hy : y < 2 ^ 31) : ¬ nI y = (-2 : Int32) := fun h => by
  have h9 := congrArg Int32.toInt h
  rw [nI_toInt hy, show (-2 : Int32).toInt = -2 by decide] at h9
  omega
theorem c_most (hT : tTo C = nI tn) (ht : tn ≤ 24) (hM : zRM C Q tn mn) {F : List Nat} (hFc : hFc C = nI F.length) (hL : zLn (hFi C) F) (hg : zGm mn F) (hbo : ∀ a ∈ F, ∀ b ∈ F, zbo C a b) (hn : 100 < n) : fx_H_mostSpecific n C = some (zbest (zB C F), C) := by
  have hmn := hM.2.2.1
  have hlen := hg.len
  have key : zok (fx_H_mostSpecific_L5 n (-2) 0 C) (fun r => ∃ x v1 v2, r = (x, v1, v2, C) ∧ ((x = 32 ∧ zbest (zB C F) = -2) ∨ (x = 48 ∧ v1 = zbest (zB C F)))) := by
    unfold fx_H_mostSpecific_L5
    refine zok_loop (Inv := fun st => ∃ (k : Nat), st.2.1 = nI k ∧ k ≤ F.length ∧ st.2.2 = C ∧ ((st.1 = -2 ∧ (F.take k).filter (zma C F) = []) ∨ ∃ x, st.1 = nI x ∧ x < 80 ∧ (F.take k).filter (zma C F) = [x])) (μ := fun st => F.length - st.2.1.toNatClampNeg) ?_ n (-2, 0, C) ⟨0, rfl, by omega, rfl, Or.inl ⟨rfl, rfl⟩⟩ (by show F.length - (0 : Int32).toNatClampNeg < n; omega)
    rintro ⟨v1, v2, T⟩ ⟨k, e1, hk, e2, hI⟩
    dsimp only at e1 e2 hI
    subst e1 e2
    show zok (st_H_mostSpecific_L5 n v1 (nI k) T) _
    unfold st_H_mostSpecific_L5
    rw [hFc]
    by_cases hkc : F.length ≤ k
    · rw [if_pos (nI_le hkc (by omega))]
      refine ⟨_, rfl, fun s' q => (by cases q), fun r q => ?_⟩
      cases q
      rw [List.take_of_length_le hkc] at hI
      refine ⟨48, v1, nI k, rfl, Or.inr ⟨rfl, ?_⟩⟩
      unfold zB
      rcases hI with ⟨h1, h2⟩ | ⟨x, h1, -, h2⟩
      · rw [h1, h2]; rfl
      · rw [h1, h2]; rfl
    · have hkc : k < F.length := by omega
      have hx := List.getElem?_eq_getElem hkc
      have hmem := List.getElem_mem hkc
      have hx80 := hg.2 _ hmem
      have hz : ¬ zoob (nI k) 80 := by rw [zoob_nI (by omega)]; omega
      have ecl : (nI k).toNatClampNeg = k := nI_clamp (by omega)
      have efi : hFi T (nI k).toNatClampNeg = nI F[k] := by rw [ecl]; exact hL k _ hx
      have htk : (F.take (k + 1)).filter (zma T F) = (F.take k).filter (zma T F) ++ (if zma T F F[k] = true then [F[k]] else []) := by
        rw [List.take_add_one, hx, List.filter_append]
        congr 1
        show [F[k]].filter _ = _
        rw [List.filter_cons, List.filter_nil]
      have hmu : F.length - (nI k + 1).toNatClampNeg < F.length - (nI k).toNatClampNeg := by
        rw [nI_1, nI_clamp (by omega), ecl]
        omega
      rw [if_neg (nI_ge hkc (by omega))]
      refine zok_oob hz ?_
      rw [efi, c_thanAll hT ht hM hFc hL hg hmem hbo hn, zbind_some, b2i_if0]
      cases hf : zma T F F[k] with
      | false =>
        rw [hf, if_neg (by decide), List.append_nil] at htk
        rw [if_neg (by decide)]
        refine ⟨_, rfl, fun s' q => ?_, fun r q => (by cases q)⟩
        cases q
        refine ⟨⟨k + 1, nI_1 k, hkc, rfl, ?_⟩, hmu⟩
        rw [htk]
        exact hI
      | true =>
        rw [hf, if_pos rfl] at htk
        rw [if_pos rfl]
        rcases hI with ⟨h1, h2⟩ | ⟨x, h1, hx8, h2⟩
        · rw [if_pos h1]
          refine zok_oob hz ?_
          rw [efi]
          refine ⟨_, rfl, fun s' q => ?_, fun r q => (by cases q)⟩
          cases q
          refine ⟨⟨k + 1, nI_1 k, hkc, rfl, Or.inr ⟨F[k], rfl, by omega, ?_⟩⟩, hmu⟩
          rw [htk, h2]; rfl
        · rw [if_neg (by rw [h1]; exact zneg2 (by omega))]
          refine ⟨_, rfl, fun s' q => (by cases q), fun r q => ?_⟩
          cases q
          refine ⟨32, v1, nI k, rfl, Or.inl ⟨rfl, ?_⟩⟩
          have hsplit : zB T F = [x] ++ ([F[k]] ++ (F.drop (k + 1)).filter (zma T F)) := by
            unfold zB
            have : F.filter (zma T F) = (F.take (k + 1)).filter (zma T F) ++ (F.drop (k + 1)).filter (zma T F) := by rw [← List.filter_append, List.take_append_drop]
            rw [this, htk, h2, List.append_assoc]
          rw [hsplit]
          rfl
  obtain ⟨r, e, x, v1, v2, rfl, h⟩ := key
  unfold fx_H_mostSpecific
  rw [e, zbL3_some]
  rcases h with ⟨rfl, h⟩ | ⟨rfl, h⟩
  · rw [if_pos rfl, h]
  · rw [if_neg (by decide), if_pos rfl, h]
end
