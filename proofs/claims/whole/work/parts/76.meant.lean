/-! PURE ROWS: what is meant -/
def zsp (C : ZC) (a b : Nat) : Bool := decide (mSz C a = mSz C b) && decide (mPa C a = mPa C b)
theorem zsp_comm (C : ZC) (a b : Nat) : zsp C a b = zsp C b a := by
  unfold zsp
  rw [decide_eq_decide.mpr (show mSz C a = mSz C b ↔ mSz C b = mSz C a from eq_comm), decide_eq_decide.mpr (show mPa C a = mPa C b ↔ mPa C b = mPa C a from eq_comm)]
theorem zsp_rf (C : ZC) (a : Nat) : zsp C a a = true := by
  unfold zsp
  rw [decide_eq_true rfl, decide_eq_true rfl]; rfl
def zms (C : ZC) (o nm : Int32) (m : Nat) (acc : List Nat) : List Nat := if ((decide (mOw C m = o) && decide (mNa C m = nm)) && !(acc.any fun a => zsp C m a)) = true then acc ++ [m] else acc
def zmi (C : ZC) (o nm : Int32) (acc : List Nat) : Nat → List Nat
  | 0 => acc
  | k + 1 => zms C o nm k (zmi C o nm acc k)
def zmo (C : ZC) (mn : Nat) (nm : Int32) (R : List Nat) : Nat → List Nat
  | 0 => []
  | i + 1 => zmi C (nI (R.getD i 0)) nm (zmo C mn nm R i) mn
theorem zmi_M {C C' : ZC} (h : C'.2.1 = C.2.1) (o nm : Int32) (acc : List Nat) (k : Nat) : zmi C' o nm acc k = zmi C o nm acc k := by
  obtain ⟨a, b, c⟩ := C'
  obtain ⟨a', b', c'⟩ := C
  cases h
  induction k with
  | zero => rfl
  | succ k ih =>
    show zms (a, b, c) o nm k (zmi (a, b, c) o nm acc k) = zms (a', b, c') o nm k (zmi (a', b, c') o nm acc k)
    rw [ih]
    rfl
theorem zmo_M {C C' : ZC} (h : C'.2.1 = C.2.1) (mn : Nat) (nm : Int32) (R : List Nat) (i : Nat) : zmo C' mn nm R i = zmo C mn nm R i := by
  induction i with
  | zero => rfl
  | succ i ih =>
    show zmi C' (nI (R.getD i 0)) nm (zmo C' mn nm R i) mn = zmi C (nI (R.getD i 0)) nm (zmo C mn nm R i) mn
    rw [ih, zmi_M h]
/-- good: members that are told, each once -/
def zGm (mn : Nat) (acc : List Nat) : Prop := acc.Nodup ∧ ∀ x ∈ acc, x < mn
theorem zGm.len {mn : Nat} {acc : List Nat} (h : zGm mn acc) : acc.length ≤ mn := z_pig mn acc h.1 h.2
theorem zms_new {C : ZC} {o nm : Int32} {m mn : Nat} {acc : List Nat} (h : zGm mn acc) (hm : m < mn) (q : (acc.any fun a => zsp C m a) = false) : zGm mn (acc ++ [m]) ∧ acc.length < mn := by
  have hnm : m ∉ acc := fun hmem => by
    have : (acc.any fun a => zsp C m a) = true := List.any_eq_true.mpr ⟨m, hmem, zsp_rf C m⟩
    rw [this] at q
    cases q
  have hg : zGm mn (acc ++ [m]) := by
    refine ⟨?_, fun x hx => ?_⟩
    · rw [List.nodup_append]
      refine ⟨h.1, by simp, fun p hp q hq => ?_⟩
      rw [List.mem_singleton.mp hq]
      exact fun e => hnm (e ▸ hp)
    · rcases List.mem_append.mp hx with g | g
      · exact h.2 x g
      · rw [List.mem_singleton.mp g]; exact hm
  refine ⟨hg, ?_⟩
  have := hg.len
  rw [List.length_append, List.length_singleton] at this
  omega
theorem zms_good {C : ZC} {o nm : Int32} {m mn : Nat} {acc : List Nat} (h : zGm mn acc) (hm : m < mn) : zGm mn (zms C o nm m acc) := by
  unfold zms
  split
  · rename_i q
    rw [Bool.and_eq_true, Bool.not_eq_true'] at q
    exact (zms_new (o := o) (nm := nm) h hm q.2).1
  · exact h
theorem zmi_good {C : ZC} {o nm : Int32} {mn : Nat} {acc : List Nat} (h : zGm mn acc) : ∀ k, k ≤ mn → zGm mn (zmi C o nm acc k) := by
  intro k
  induction k with
  | zero => intro _; exact h
  | succ k ih => intro hk; exact zms_good (ih (by omega)) (by omega)
theorem zmo_good {C : ZC} {nm : Int32} {mn : Nat} {R : List Nat} : ∀ i, zGm mn (zmo C mn nm R i) := by
  intro i
  induction i with
  | zero => exact ⟨List.nodup_nil, fun x hx => by cases hx⟩
  | succ i ih => exact zmi_good ih mn (Nat.le_refl _)
theorem zany_list {f : Nat → Int32} {L : List Nat} (P : Nat → Bool) (G : Nat → Bool) (h : ∀ k x, L[k]? = some x → G k = P x) : zany G L.length = L.any P := by
  rw [Bool.eq_iff_iff, zany_iff, List.any_eq_true]
  constructor
  · rintro ⟨k, hk, q⟩
    rw [h k _ (List.getElem?_eq_getElem hk)] at q
    exact ⟨_, List.getElem_mem hk, q⟩
  · rintro ⟨x, hx, q⟩
    obtain ⟨k, hk, e⟩ := List.getElem_of_mem hx
    refine ⟨k, hk, ?_⟩
    rw [h k _ (List.getElem?_eq_getElem hk), e]
    exact q
def zCH (C : ZC) (f : Nat → Int32) (len : Nat) : ZC := hMe' (hMc' C (nI len)) f
def zQM (Q : ZQ) (f : Nat → Int32) (len : Nat) : ZQ := qMt' (qMm' Q (nI len)) f
section
variable {n : Nat} {C : ZC} {Q : ZQ} {tn mn : Nat}
theorem c_same {a b : Nat} (ha : a < 80) (hb : b < 80) : fx_M_haveSameParameters n C (nI a) (nI b) = some (b2i (zsp C a b), C) := by
  have h1 : ¬ zoob (nI a) 80 := by rw [zoob_nI (by omega)]; omega
  have h2 : ¬ zoob (nI b) 80 := by rw [zoob_nI (by omega)]; omega
  unfold fx_M_haveSameParameters zsp
  rw [if_neg h1, if_neg h2, show mSz C (nI a).toNatClampNeg = mSz C a by rw [nI_clamp (by omega)], show mSz C (nI b).toNatClampNeg = mSz C b by rw [nI_clamp (by omega)], show mPa C (nI a).toNatClampNeg = mPa C a by rw [nI_clamp (by omega)], show mPa C (nI b).toNatClampNeg = mPa C b by rw [nI_clamp (by omega)]]
  by_cases q1 : mSz C a = mSz C b
  · rw [if_pos q1, if_neg h1, if_neg h2, decide_eq_true q1, Bool.true_and]
    by_cases q2 : mPa C a = mPa C b
    · rw [if_pos ((zcmp0 _ _).mpr q2), decide_eq_true q2]; rfl
    · rw [if_neg (fun q => q2 ((zcmp0 _ _).mp q)), decide_eq_false q2]; rfl
  · rw [if_neg q1, decide_eq_false q1]; rfl
theorem c_hidden {m : Nat} {f : Nat → Int32} {acc : List Nat} (hL : zLn f acc) (hg : zGm mn acc) (hmn : mn ≤ 80) (hm : m < mn) (hn : 100 < n) : fx_H_isHidden n (zCH C f acc.length) (nI m) = some (b2i (acc.any fun a => zsp C m a), zCH C f acc.length) := by
  have hlen := hg.len
  unfold fx_H_isHidden fx_H_isHidden_L2
  have stp : ∀ k, k < acc.length → st_H_isHidden_L2 n (nI m) (nI k) (zCH C f acc.length) = if zsp C m (acc.getD k 0) = true then some (.inr (27, nI k, zCH C f acc.length)) else some (.inl (nI (k + 1), zCH C f acc.length)) := fun k hk => by
    unfold st_H_isHidden_L2
    have hx := List.getElem?_eq_getElem hk
    have e1 : acc.getD k 0 = acc[k] := by rw [List.getD_eq_getElem?_getD, hx]; rfl
    have hx80 := hg.2 _ (List.getElem_mem hk)
    rw [show hMc (zCH C f acc.length) = nI acc.length from rfl, if_neg (nI_ge hk (by omega)), if_neg (by rw [zoob_nI (by omega)]; omega), show hMe (zCH C f acc.length) (nI k).toNatClampNeg = nI acc[k] by rw [nI_clamp (by omega)]; exact hL k _ hx, c_same (by omega) (by omega), zbind_some, b2i_if0, nI_1, e1]
    show (if zsp C m acc[k] = true then _ else _) = _
    cases zsp C m acc[k] <;> rfl
  have ha : zany (fun k => zsp C m (acc.getD k 0)) acc.length = acc.any fun a => zsp C m a := zany_list (f := f) (fun a => zsp C m a) _ (fun k x hx => by
    show zsp C m (acc.getD k 0) = zsp C m x
    rw [List.getD_eq_getElem?_getD, hx]; rfl)
  rcases zl_ret (step := fun (st : Int32 × ZC) => st_H_isHidden_L2 n (nI m) st.1 st.2) (fun k => zsp C m (acc.getD k 0)) acc.length (zCH C f acc.length) (fun v => (27, v, zCH C f acc.length)) (fun v => (35, v, zCH C f acc.length)) stp (by
    show st_H_isHidden_L2 n (nI m) (nI acc.length) (zCH C f acc.length) = _
    unfold st_H_isHidden_L2
    rw [show hMc (zCH C f acc.length) = nI acc.length from rfl, if_pos (nI_le (Nat.le_refl _) (by omega))]) (n := n) (by omega) with ⟨h, v, e⟩ | ⟨h, v, e⟩
  · rw [ha] at h
    rw [e, zbL2_some, if_pos rfl, h]; rfl
  · rw [ha] at h
    rw [e, zbL2_some, if_neg (by decide), if_pos rfl, h]; rfl
theorem c_appM {f : Nat → Int32} {acc : List Nat} (o nm : Int32) (hM : mTo C = nI mn) (hmn : mn ≤ 80) (hL : zLn f acc) (hg : zGm mn acc) (hn : 100 < n) : ∃ f', fx_H_appendMembers n (zCH C f acc.length) o nm = some (zCH C f' (zmi C o nm acc mn).length) ∧ zLn f' (zmi C o nm acc mn) := by
  have key : zok (fx_H_appendMembers_L2 n o nm 0 (zCH C f acc.length)) (fun r => ∃ v f', r = (72, v, zCH C f' (zmi C o nm acc mn).length) ∧ zLn f' (zmi C o nm acc mn)) := by
    unfold fx_H_appendMembers_L2
    refine zok_loop (Inv := fun st => ∃ (k : Nat) (f' : Nat → Int32), st.1 = nI k ∧ k ≤ mn ∧ st.2 = zCH C f' (zmi C o nm acc k).length ∧ zLn f' (zmi C o nm acc k)) (μ := fun st => mn - st.1.toNatClampNeg) ?_ n (0, zCH C f acc.length) ⟨0, f, rfl, by omega, rfl, hL⟩ (by show mn - (0 : Int32).toNatClampNeg < n; omega)
    rintro ⟨v3, T⟩ ⟨k, f', e1, hk, e2, hL'⟩
    dsimp only at e1 e2
    subst e1 e2
    show zok (st_H_appendMembers_L2 n o nm (nI k) (zCH C f' (zmi C o nm acc k).length)) _
    unfold st_H_appendMembers_L2
    rw [show mTo (zCH C f' (zmi C o nm acc k).length) = nI mn from hM]
    by_cases hkc : mn ≤ k
    · rw [if_pos (nI_le hkc (by omega))]
      refine ⟨_, rfl, fun s' q => (by cases q), fun r q => ?_⟩
      cases q
      have : k = mn := by omega
      subst this
      exact ⟨_, f', rfl, hL'⟩
    · have hkc : k < mn := by omega
      have hgk := zmi_good (C := C) (o := o) (nm := nm) hg k hk
      have hlenk := hgk.len
      have hmu : mn - (nI k + 1).toNatClampNeg < mn - (nI k).toNatClampNeg := by
        rw [nI_1, nI_clamp (by omega), nI_clamp (by omega)]
        omega
      have go : ∀ (f2 : Nat → Int32) (acc2 : List Nat), acc2 = zms C o nm k (zmi C o nm acc k) → zLn f2 acc2 → zok (some (.inl (nI k + 1, zCH C f2 acc2.length)) : Option ((Int32 × ZC) ⊕ (Nat × Int32 × ZC))) (fun o9 => (∀ (s' : Int32 × ZC), o9 = Sum.inl s' → (∃ (k : Nat) (f' : Nat → Int32), s'.1 = nI k ∧ k ≤ mn ∧ s'.2 = zCH C f' (zmi C o nm acc k).length ∧ zLn f' (zmi C o nm acc k)) ∧ mn - s'.1.toNatClampNeg < mn - (nI k).toNatClampNeg) ∧ ∀ (r : Nat × Int32 × ZC), o9 = Sum.inr r → ∃ v f', r = (72, v, zCH C f' (zmi C o nm acc mn).length) ∧ zLn f' (zmi C o nm acc mn)) := by
        intro f2 acc2 e h
        refine ⟨_, rfl, fun s' q => ?_, fun r q => (by cases q)⟩
        cases q
        exact ⟨⟨k + 1, f2, nI_1 k, hkc, by rw [e]; rfl, by rw [e] at h; exact h⟩, hmu⟩
      rw [if_neg (nI_ge hkc (by omega)), c_isOf (by omega), zbind_some, b2i_if0]
      show zok (if (decide (mOw C k = o) && decide (mNa C k = nm)) = true then _ else _) _
      cases ho : (decide (mOw C k = o) && decide (mNa C k = nm)) with
      | false =>
        rw [if_neg (by decide)]
        exact go f' _ (by unfold zms; rw [ho, Bool.false_and, if_neg (by decide)]) hL'
      | true =>
        rw [if_pos rfl, c_hidden hL' hgk hmn hkc hn, zbind_some, b2i_if0]
        cases hh : ((zmi C o nm acc k).any fun a => zsp C k a) with
        | true =>
          rw [if_pos rfl]
          exact go f' _ (by unfold zms; rw [hh, ho]; rfl) hL'
        | false =>
          obtain ⟨g1, g2⟩ := zms_new (C := C) (o := o) (nm := nm) hgk hkc hh
          have em : hMc (zCH C f' (zmi C o nm acc k).length) = nI (zmi C o nm acc k).length := rfl
          rw [if_neg (by decide), em, if_neg (show ¬ (80 : Int32) ≤ nI (zmi C o nm acc k).length from nI_ge (b := 80) (by omega) (by omega))]
          refine zok_oob (by rw [zoob_nI (by omega)]; omega) ?_
          rw [zlet_eq, zlet_eq, nI_clamp (n := (zmi C o nm acc k).length) (by omega)]
          have es : hMc' (hMe' (zCH C f' (zmi C o nm acc k).length) (upd (hMe (zCH C f' (zmi C o nm acc k).length)) (zmi C o nm acc k).length (nI k))) (hMc (hMe' (zCH C f' (zmi C o nm acc k).length) (upd (hMe (zCH C f' (zmi C o nm acc k).length)) (zmi C o nm acc k).length (nI k))) + 1) = zCH C (upd f' (zmi C o nm acc k).length (nI k)) (zmi C o nm acc k ++ [k]).length := by
            show hMc' (hMe' (zCH C f' (zmi C o nm acc k).length) (upd f' (zmi C o nm acc k).length (nI k))) (nI (zmi C o nm acc k).length + 1) = _
            rw [nI_1, List.length_append, List.length_singleton]
            rfl
          rw [es]
          exact go _ _ (by unfold zms; rw [hh, ho]; rfl) (zLn_push hL')
  obtain ⟨r, e, v, f', rfl, h⟩ := key
  unfold fx_H_appendMembers
  rw [e, zbL2_some, if_pos rfl]
  exact ⟨f', rfl, h⟩
theorem c_gatherL {g f : Nat → Int32} {R : List Nat} (nm : Int32) (hM : mTo C = nI mn) (hmn : mn ≤ 80) (hR : zGl tn R) (ht : tn ≤ 24) (hg : zLn g R) (hn : 100 < n) : ∃ f' v, fx_H_gatherMeant_L21 n nm (nI R.length) 0 (zCH (hLi' C g) f 0) = some (45, v, zCH (hLi' C g) f' (zmo C mn nm R R.length).length) ∧ zLn f' (zmo C mn nm R R.length) := by
  have hlenR := hR.len
  have key : zok (fx_H_gatherMeant_L21 n nm (nI R.length) 0 (zCH (hLi' C g) f 0)) (fun r => ∃ v f', r = (45, v, zCH (hLi' C g) f' (zmo C mn nm R R.length).length) ∧ zLn f' (zmo C mn nm R R.length)) := by
    unfold fx_H_gatherMeant_L21
    refine zok_loop (Inv := fun st => ∃ (k : Nat) (f' : Nat → Int32), st.1 = nI k ∧ k ≤ R.length ∧ st.2 = zCH (hLi' C g) f' (zmo C mn nm R k).length ∧ zLn f' (zmo C mn nm R k)) (μ := fun st => R.length - st.1.toNatClampNeg) ?_ n (0, zCH (hLi' C g) f 0) ⟨0, f, rfl, by omega, rfl, zLn_nil _⟩ (by show R.length - (0 : Int32).toNatClampNeg < n; omega)
    rintro ⟨v3, T⟩ ⟨k, f', e1, hk, e2, hL'⟩
    dsimp only at e1 e2
    subst e1 e2
    show zok (st_H_gatherMeant_L21 n nm (nI R.length) (nI k) (zCH (hLi' C g) f' (zmo C mn nm R k).length)) _
    unfold st_H_gatherMeant_L21
    by_cases hkc : R.length ≤ k
    · rw [if_pos (nI_le hkc (by omega))]
      refine ⟨_, rfl, fun s' q => (by cases q), fun r q => ?_⟩
      cases q
      have : k = R.length := by omega
      subst this
      exact ⟨_, f', rfl, hL'⟩
    · have hkc : k < R.length := by omega
      rw [if_neg (nI_ge hkc (by omega))]
      refine zok_oob (by rw [zoob_nI (by omega)]; omega) ?_
      have hx := List.getElem?_eq_getElem hkc
      have e1 : R.getD k 0 = R[k] := by rw [List.getD_eq_getElem?_getD, hx]; rfl
      have ehl : hLi (zCH (hLi' C g) f' (zmo C mn nm R k).length) (nI k).toNatClampNeg = nI R[k] := by rw [nI_clamp (by omega)]; exact hg k _ hx
      obtain ⟨f2, e3, l3⟩ := c_appM (n := n) (C := hLi' C g) (mn := mn) (nI R[k]) nm hM hmn hL' (zmo_good k) hn
      rw [zmi_M (C := C) (C' := hLi' C g) rfl] at e3 l3
      rw [ehl, e3, zbind1_some]
      refine ⟨_, rfl, fun s' q => ?_, fun r q => (by cases q)⟩
      cases q
      refine ⟨⟨k + 1, f2, nI_1 k, hkc, ?_, ?_⟩, ?_⟩
      · show zCH (hLi' C g) f2 (zmi C (nI R[k]) nm (zmo C mn nm R k) mn).length = zCH (hLi' C g) f2 (zmi C (nI (R.getD k 0)) nm (zmo C mn nm R k) mn).length
        rw [e1]
      · show zLn f2 (zmi C (nI (R.getD k 0)) nm (zmo C mn nm R k) mn)
        rw [e1]
        exact l3
      · show R.length - (nI k + 1).toNatClampNeg < R.length - (nI k).toNatClampNeg
        rw [nI_1, nI_clamp (by omega), nI_clamp (by omega)]
        omega
  obtain ⟨r, e, v, f', rfl, h⟩ := key
  exact ⟨f', v, e, h⟩
end
