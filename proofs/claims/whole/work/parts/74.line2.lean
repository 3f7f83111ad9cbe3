theorem zST_pre {fl : Nat → List Nat} {p L R : List Nat} (h : zST fl p L R) : ∃ T, R = L ++ T := by
  obtain ⟨k, h⟩ := h
  induction k generalizing p L with
  | zero => cases h
  | succ k ih =>
    cases p with
    | nil =>
      rw [zstk_nil] at h
      cases h
      exact ⟨[], (List.append_nil _).symm⟩
    | cons f rest =>
      rw [zstk_cons] at h
      by_cases hf : f ∈ L
      · rw [if_pos hf] at h
        exact ih h
      · rw [if_neg hf] at h
        obtain ⟨T, e⟩ := ih h
        exact ⟨[f] ++ T, by rw [e, List.append_assoc]⟩
section
variable {n : Nat} {C : ZC} {tn : Nat} {ab fa : Nat → Int32}
theorem c_append (hG : ∀ t k, k < 24 → tGr C t k = fa (32 * t + k)) (hw : zWT tn ab (tFc C) fa) (hn : 100 < n) : ∀ (d dep t : Nat) (L : List Nat) (f : Nat → Int32), d + dep = 26 → dep + 1 ≤ L.length → zGl tn L → zLn f L → 8 ≤ t → t < 8 + tn →
    ∃ f' R, fx_T_appendFaces n d (hLi' C f) (nI t) (nI L.length) (nI dep) = some (nI R.length, hLi' C f') ∧ zST (zfl (tFc C) fa) (zfl (tFc C) fa t) L R ∧ zGl tn R ∧ zLn f' R ∧ L.length ≤ R.length := by
  have h24 := hw.1
  intro d
  induction d with
  | zero =>
    intro dep t L f h1 h2 h3
    have := h3.len
    omega
  | succ d ih =>
    intro dep t L f h1 h2 h3 h4 h5 h6
    have hlen0 := h3.len
    obtain ⟨c, hc, hc24, -⟩ := hw.2.2.1 t
    show ∃ (f' : Nat → Int32) (R : List Nat), bx_T_appendFaces n (fx_T_appendFaces n d) (hLi' C f) (nI t) (nI L.length) (nI dep) = some (nI R.length, hLi' C f') ∧ _
    have key : zok (fx_T_appendFaces_L15 n (fx_T_appendFaces n d) (nI t) (nI dep) (nI L.length) 0 (hLi' C f)) (fun r => ∃ v f' R, r = (84, nI R.length, v, hLi' C f') ∧ zST (zfl (tFc C) fa) (zfl (tFc C) fa t) L R ∧ zGl tn R ∧ zLn f' R ∧ L.length ≤ R.length) := by
      unfold fx_T_appendFaces_L15
      refine zok_loop (Inv := fun st => ∃ i f' R, st.2.1 = nI i ∧ i ≤ c ∧ st.1 = nI R.length ∧ st.2.2 = hLi' C f' ∧ zST (zfl (tFc C) fa) ((zfl (tFc C) fa t).take i) L R ∧ zGl tn R ∧ zLn f' R ∧ L.length ≤ R.length) (μ := fun st => c - st.2.1.toNatClampNeg) ?_ n (nI L.length, 0, hLi' C f) ⟨0, f, L, rfl, by omega, rfl, rfl, zST_nil, h3, h4, Nat.le_refl _⟩ (by show c - (0 : Int32).toNatClampNeg < n; omega)
      rintro ⟨v5, v6, T⟩ ⟨i, f', R, e1, hi, e2, e3, hS, hGl, hLn, hle⟩
      dsimp only at e1 e2 e3
      subst e1 e2 e3
      have hlenR := hGl.len
      show zok (st_T_appendFaces_L15 n (fx_T_appendFaces n d) (nI t) (nI dep) (nI R.length) (nI i) (hLi' C f')) _
      unfold st_T_appendFaces_L15
      have hz : ¬ zoob (nI t) 32 := by rw [zoob_nI (by omega)]; omega
      refine zok_oob hz ?_
      rw [show tFc (hLi' C f') (nI t).toNatClampNeg = nI c by rw [nI_clamp (by omega)]; exact hc]
      by_cases hic : c ≤ i
      · rw [if_pos (nI_le hic (by omega))]
        refine ⟨_, rfl, fun s' q => (by cases q), fun r q => ?_⟩
        cases q
        have : i = c := by omega
        subst this
        rw [List.take_of_length_le (by rw [zfl_len, hc, nI_clamp (by omega)]; exact Nat.le_refl _)] at hS
        exact ⟨_, f', R, rfl, hS, hGl, hLn, hle⟩
      · have hic : i < c := by omega
        rw [if_neg (nI_ge hic (by omega))]
        refine zok_oob hz (zok_oob (by rw [zoob_nI (by omega)]; omega) ?_)
        have hiL : i < ((tFc C) t).toNatClampNeg := by rw [hc, nI_clamp (by omega)]; exact hic
        obtain ⟨y, ey, y8, y2⟩ := hw.2.2.2.1 t i hiL
        have hget : (zfl (tFc C) fa t)[i]? = some y := by rw [zfl_get hiL, ey, nI_clamp (by omega)]
        have htake : (zfl (tFc C) fa t).take (i + 1) = (zfl (tFc C) fa t).take i ++ [y] := by rw [List.take_add_one, hget]; rfl
        have egr : tGr (hLi' C f') ((nI t).toNatClampNeg) (nI i).toNatClampNeg = nI y := by
          rw [nI_clamp (by omega), nI_clamp (by omega)]
          exact (hG t i (by omega)).trans ey
        have hmu : c - (nI i + 1).toNatClampNeg < c - (nI i).toNatClampNeg := by
          rw [nI_1, nI_clamp (by omega), nI_clamp (by omega)]
          omega
        -- it is there already
        have skip : y ∈ R → zok (some (.inl (nI R.length, nI i + 1, hLi' C f')) : Option ((Int32 × Int32 × ZC) ⊕ (Nat × Int32 × Int32 × ZC))) (fun o => (∀ (s' : Int32 × Int32 × ZC), o = Sum.inl s' → (∃ i f' R, s'.2.1 = nI i ∧ i ≤ c ∧ s'.1 = nI R.length ∧ s'.2.2 = hLi' C f' ∧ zST (zfl (tFc C) fa) ((zfl (tFc C) fa t).take i) L R ∧ zGl tn R ∧ zLn f' R ∧ L.length ≤ R.length) ∧ c - s'.2.1.toNatClampNeg < c - (nI i).toNatClampNeg) ∧ ∀ (r : Nat × Int32 × Int32 × ZC), o = Sum.inr r → ∃ v f' R, r = (84, nI R.length, v, hLi' C f') ∧ zST (zfl (tFc C) fa) (zfl (tFc C) fa t) L R ∧ zGl tn R ∧ zLn f' R ∧ L.length ≤ R.length) := by
          intro hy
          refine ⟨_, rfl, fun s' q => ?_, fun r q => (by cases q)⟩
          cases q
          refine ⟨⟨i + 1, f', R, nI_1 i, hic, rfl, rfl, ?_, hGl, hLn, hle⟩, hmu⟩
          rw [htake]
          exact zST_ap hS ((zST_in hy).mpr zST_nil)
        by_cases hfull : 24 ≤ R.length
        · rw [if_pos (show (24 : Int32) ≤ nI R.length from nI_le (a := 24) hfull (by omega))]
          exact skip (hGl.full (by omega) y8 y2)
        · rw [if_neg (show ¬ (24 : Int32) ≤ nI R.length from nI_ge (b := 24) (by omega) (by omega)), egr, c_holds (nI y) (by omega) (by omega) (by omega), zbind1_some, b2i_if0, show hLi (hLi' C f') = f' from rfl, zLn_any hLn (fun x hx => by have := hGl.2 x hx; omega) (by omega)]
          by_cases hy : y ∈ R
          · rw [decide_eq_true hy, if_pos rfl]
            exact skip hy
          · rw [decide_eq_false hy, if_neg (by decide)]
            refine zok_oob (by rw [zoob_nI (by omega)]; omega) ?_
            rw [zlet_eq, nI_clamp (n := R.length) (by omega), nI_1, nI_1]
            obtain ⟨f3, R3, e3, s3, g3, l3, n3⟩ := ih (dep + 1) y (R ++ [y]) (upd f' R.length (nI y)) (by omega) (by rw [List.length_append, List.length_singleton]; omega) (hGl.push hy y8 y2) (zLn_push hLn) y8 y2
            rw [List.length_append, List.length_singleton] at e3 n3
            have e4 : fx_T_appendFaces n d (hLi' (hLi' C f') (upd f' R.length (nI y))) (nI y) (nI (R.length + 1)) (nI (dep + 1)) = some (nI R3.length, hLi' C f3) := e3
            rw [e4, zbind_some]
            refine ⟨_, rfl, fun s' q => ?_, fun r q => (by cases q)⟩
            cases q
            refine ⟨⟨i + 1, f3, R3, nI_1 i, hic, rfl, rfl, ?_, g3, l3, by omega⟩, hmu⟩
            rw [htake]
            refine zST_ap hS ((zST_out hy).mpr ?_)
            rw [List.append_nil]
            exact s3
    obtain ⟨r, e, v, f', R, rfl, hS, hGl, hLn, hle⟩ := key
    refine ⟨f', R, ?_, hS, hGl, hLn, hle⟩
    unfold bx_T_appendFaces
    rw [if_pos (show nI dep < 24 from nI_lt (b := 24) (by omega) (by omega)), e, zbL3_some, if_pos rfl]
end
/-- the line of a type: its classes, then the faces of each -/
def zLine (fl : Nat → List Nat) (L0 R : List Nat) : Prop := ∃ Rs : Nat → List Nat, Rs 0 = L0 ∧ (∀ i x, L0[i]? = some x → zST fl (fl x) (Rs i) (Rs (i + 1))) ∧ R = Rs L0.length
theorem zLine_det {fl : Nat → List Nat} {L0 R R' : List Nat} (h : zLine fl L0 R) (h' : zLine fl L0 R') : R = R' := by
  obtain ⟨Rs, a1, a2, rfl⟩ := h
  obtain ⟨Rs', b1, b2, rfl⟩ := h'
  have : ∀ i, i ≤ L0.length → Rs i = Rs' i := by
    intro i
    induction i with
    | zero => intro _; rw [a1, b1]
    | succ i ih =>
      intro hi
      have e := List.getElem?_eq_getElem (l := L0) (i := i) (by omega)
      have q1 := a2 i _ e
      have q2 := b2 i _ e
      rw [ih (by omega)] at q1
      exact zST_det q1 q2
  exact this _ (Nat.le_refl _)
/-- so far -/
def zLineK (fl : Nat → List Nat) (L0 R : List Nat) (k : Nat) : Prop := ∃ Rs : Nat → List Nat, Rs 0 = L0 ∧ (∀ i x, i < k → L0[i]? = some x → zST fl (fl x) (Rs i) (Rs (i + 1))) ∧ R = Rs k
theorem zLineK.zero {fl : Nat → List Nat} {L0 : List Nat} : zLineK fl L0 L0 0 := ⟨fun _ => L0, rfl, fun i x h => by omega, rfl⟩
theorem zLineK.next {fl : Nat → List Nat} {L0 R R' : List Nat} {k x : Nat} (h : zLineK fl L0 R k) (hx : L0[k]? = some x) (hs : zST fl (fl x) R R') : zLineK fl L0 R' (k + 1) := by
  obtain ⟨Rs, h1, h2, rfl⟩ := h
  refine ⟨fun i => if i ≤ k then Rs i else R', (if_pos (Nat.zero_le k)).trans h1, fun i y hi hy => ?_, (if_neg (show ¬ k + 1 ≤ k by omega)).symm⟩
  show zST fl (fl y) (if i ≤ k then Rs i else R') (if i + 1 ≤ k then Rs (i + 1) else R')
  by_cases e : i = k
  · subst e
    rw [if_pos (Nat.le_refl _), if_neg (by omega)]
    rw [hx] at hy
    cases hy
    exact hs
  · rw [if_pos (by omega), if_pos (by omega)]
    exact h2 i y (by omega) hy
theorem zLineK.done {fl : Nat → List Nat} {L0 R : List Nat} (h : zLineK fl L0 R L0.length) : zLine fl L0 R := by
  obtain ⟨Rs, h1, h2, h3⟩ := h
  exact ⟨Rs, h1, fun i x hx => h2 i x (List.getElem?_eq_some_iff.mp hx).1 hx, h3⟩
section
variable {n : Nat} {C : ZC} {tn : Nat} {fa : Nat → Int32}
theorem c_line {t : Nat} (hT : tTo C = nI tn) (hG : ∀ t k, k < 24 → tGr C t k = fa (32 * t + k)) (hw : zWT tn (tCa C) (tFc C) fa) (h8 : 8 ≤ t) (ht : t < 8 + tn) (hn : 100 < n) :
    ∃ f R, fx_T_writeLine n C (nI t) = some (nI R.length, hLi' C f) ∧ zLine (zfl (tFc C) fa) (zch (tCa C) 32 (nI t)) R ∧ zGl tn R ∧ zLn f R := by
  have h24 := hw.1
  obtain ⟨f0, e0, l0, g0⟩ := c_chain (n := n) (C := C) (Q := (qFa' zQ0 fa)) hT hw h8 ht hn
  generalize zch (tCa C) 32 (nI t) = L0 at *
  have hlen0 := g0.len
  unfold fx_T_writeLine
  rw [e0, zbL3_some, if_pos rfl]
  have key : zok (fx_T_writeLine_L46 n (nI L0.length) (nI L0.length) 0 (hLi' C f0)) (fun r => ∃ v f R, r = (72, nI R.length, v, hLi' C f) ∧ zLine (zfl (tFc C) fa) L0 R ∧ zGl tn R ∧ zLn f R) := by
    unfold fx_T_writeLine_L46
    refine zok_loop (Inv := fun st => ∃ (i : Nat) (f : Nat → Int32) (R : List Nat), st.2.1 = nI i ∧ i ≤ L0.length ∧ st.1 = nI R.length ∧ st.2.2 = hLi' C f ∧ zLineK (zfl (tFc C) fa) L0 R i ∧ zGl tn R ∧ zLn f R ∧ L0.length ≤ R.length ∧ ∀ (k : Nat) (x : Nat), L0[k]? = some x → R[k]? = some x) (μ := fun st => L0.length - st.2.1.toNatClampNeg) ?_ n (nI L0.length, 0, hLi' C f0) ⟨0, f0, L0, rfl, by omega, rfl, rfl, zLineK.zero, g0, l0, Nat.le_refl _, fun _ _ h => h⟩ (by show L0.length - (0 : Int32).toNatClampNeg < n; omega)
    rintro ⟨v5, v6, T⟩ ⟨i, f, R, e1, hi, e2, e3, hS, hGl, hLn, hle, hpre⟩
    dsimp only at e1 e2 e3
    subst e1 e2 e3
    have hlenR := hGl.len
    show zok (st_T_writeLine_L46 n (nI L0.length) (nI R.length) (nI i) (hLi' C f)) _
    unfold st_T_writeLine_L46
    by_cases hic : L0.length ≤ i
    · rw [if_pos (nI_le hic (by omega))]
      refine ⟨_, rfl, fun s' q => (by cases q), fun r q => ?_⟩
      cases q
      have : i = L0.length := by omega
      subst this
      exact ⟨_, f, R, rfl, hS.done, hGl, hLn⟩
    · have hic : i < L0.length := by omega
      rw [if_neg (nI_ge hic (by omega))]
      refine zok_oob (by rw [zoob_nI (by omega)]; omega) ?_
      have hx := List.getElem?_eq_getElem hic
      have hxR := hpre i _ hx
      have hmem : L0[i] ∈ R := List.mem_of_getElem? hxR
      obtain ⟨x8, x2⟩ := hGl.2 _ hmem
      have ehl : hLi (hLi' C f) (nI i).toNatClampNeg = nI L0[i] := by rw [nI_clamp (by omega)]; exact hLn i _ hxR
      obtain ⟨f3, R3, e3, s3, g3, l3, n3⟩ := c_append hG hw hn 26 0 L0[i] R f rfl (by omega) hGl hLn x8 x2
      rw [ehl, show (0 : Int32) = nI 0 from rfl, e3, zbind_some]
      refine ⟨_, rfl, fun s' q => ?_, fun r q => (by cases q)⟩
      cases q
      refine ⟨⟨i + 1, f3, R3, nI_1 i, hic, rfl, rfl, hS.next hx s3, g3, l3, by omega, fun k x hk => ?_⟩, ?_⟩
      · obtain ⟨T, hT3⟩ := zST_pre s3
        have h9 := hpre k x hk
        rw [hT3, List.getElem?_append_left (List.getElem?_eq_some_iff.mp h9).1]
        exact h9
      · show L0.length - (nI i + 1).toNatClampNeg < L0.length - (nI i).toNatClampNeg
        rw [nI_1, nI_clamp (by omega), nI_clamp (by omega)]
        omega
  obtain ⟨r, e, v, f, R, rfl, h⟩ := key
  rw [e, zbL3_some, if_pos rfl]
  exact ⟨f, R, rfl, h⟩
end
