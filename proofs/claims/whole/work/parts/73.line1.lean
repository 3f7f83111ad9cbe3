/-! PURE ROWS: lines of types -/
theorem zST_app {fl : Nat → List Nat} {q M R : List Nat} (h2 : zST fl q M R) : ∀ (k : Nat) (p L : List Nat), zstk fl k p L = some M → zST fl (p ++ q) L R := by
  intro k
  induction k with
  | zero => intro p L h; cases h
  | succ k ih =>
    intro p L h
    cases p with
    | nil =>
      rw [zstk_nil] at h
      cases h
      exact h2
    | cons f rest =>
      rw [zstk_cons] at h
      by_cases hf : f ∈ L
      · rw [if_pos hf] at h
        rw [List.cons_append, zST_in hf]
        exact ih rest L h
      · rw [if_neg hf] at h
        rw [List.cons_append, zST_out hf, ← List.append_assoc]
        exact ih (fl f ++ rest) (L ++ [f]) h
theorem zST_ap {fl : Nat → List Nat} {p q L M R : List Nat} (h1 : zST fl p L M) (h2 : zST fl q M R) : zST fl (p ++ q) L R := by
  obtain ⟨k, h⟩ := h1
  exact zST_app h2 k p L h
/-- the array's first cells are a list -/
def zLn (f : Nat → Int32) (L : List Nat) : Prop := ∀ k x, L[k]? = some x → f k = nI x
theorem zLn_nil (f : Nat → Int32) : zLn f [] := fun k x h => by cases h
theorem zLn_push {f : Nat → Int32} {L : List Nat} {x : Nat} (h : zLn f L) : zLn (upd f L.length (nI x)) (L ++ [x]) := by
  intro k y hy
  by_cases hk : k < L.length
  · rw [List.getElem?_append_left hk] at hy
    rw [zupd_ne _ _ (by omega)]
    exact h k y hy
  · rw [List.getElem?_append_right (by omega)] at hy
    have hk0 : k - L.length < 1 := (List.getElem?_eq_some_iff.mp hy).1
    have : k = L.length := by omega
    subst this
    rw [Nat.sub_self] at hy
    cases hy
    rw [zupd_at]
theorem zLn_at {f : Nat → Int32} {L : List Nat} (h : zLn f L) {k : Nat} (hk : k < L.length) : f k = nI L[k] := h k _ (List.getElem?_eq_getElem hk)
theorem zLn_any {f : Nat → Int32} {L : List Nat} (h : zLn f L) (hs : ∀ x ∈ L, x < 2 ^ 31) {y : Nat} (hy : y < 2 ^ 31) : zany (fun k => decide (f k = nI y)) L.length = decide (y ∈ L) := by
  rw [Bool.eq_iff_iff, zany_iff, decide_eq_true_eq]
  constructor
  · rintro ⟨k, hk, q⟩
    have q := of_decide_eq_true q
    rw [zLn_at h hk] at q
    have hm := List.getElem_mem hk
    rw [nI_eq (hs _ hm) hy] at q
    rw [← q]
    exact hm
  · intro q
    obtain ⟨k, hk, e⟩ := List.getElem_of_mem q
    exact ⟨k, hk, decide_eq_true (by rw [zLn_at h hk, e])⟩
/-- a good line: told types, each once -/
def zGl (tn : Nat) (L : List Nat) : Prop := L.Nodup ∧ ∀ x ∈ L, 8 ≤ x ∧ x < 8 + tn
theorem zGl.len {tn : Nat} {L : List Nat} (h : zGl tn L) : L.length ≤ tn := z_pig2 h.1 h.2
theorem zGl.push {tn y : Nat} {L : List Nat} (h : zGl tn L) (hy : y ∉ L) (h8 : 8 ≤ y) (h2 : y < 8 + tn) : zGl tn (L ++ [y]) := by
  refine ⟨?_, fun x hx => ?_⟩
  · rw [List.nodup_append]
    refine ⟨h.1, by simp, fun p hp q hq => ?_⟩
    rw [List.mem_singleton.mp hq]
    exact fun e => hy (e ▸ hp)
  · rcases List.mem_append.mp hx with q | q
    · exact h.2 x q
    · rw [List.mem_singleton.mp q]; exact ⟨h8, h2⟩
theorem zGl.full {tn y : Nat} {L : List Nat} (h : zGl tn L) (hl : tn ≤ L.length) (h8 : 8 ≤ y) (h2 : y < 8 + tn) : y ∈ L := z_pig3 h.1 h.2 hl h8 h2
/-- the classes above one another -/
def zch (ab : Nat → Int32) : Nat → Int32 → List Nat
  | 0, _ => []
  | k + 1, v => if v < 0 then [] else v.toNatClampNeg :: zch ab k (ab v.toNatClampNeg)
section
variable {n : Nat} {C : ZC} {Q : ZQ} {tn : Nat}
/-- where the walk up the classes stands -/
def zUpw (tn t : Nat) (ab : Nat → Int32) (L : List Nat) (v : Int32) : Prop := zGl tn L ∧ (∃ k, k + L.length = 32 ∧ L ++ zch ab k v = zch ab 32 (nI t)) ∧ (v = -1 ∨ ∃ a, v = nI a ∧ 8 ≤ a ∧ a < 8 + tn ∧ a + L.length ≤ t ∧ ∀ x ∈ L, a < x)
theorem zUpw.start {t : Nat} {ab : Nat → Int32} (h8 : 8 ≤ t) (h2 : t < 8 + tn) : zUpw tn t ab [] (nI t) := ⟨⟨List.nodup_nil, fun x hx => by cases hx⟩, ⟨32, rfl, rfl⟩, Or.inr ⟨t, rfl, h8, h2, by simp, fun x hx => by cases hx⟩⟩
theorem zUpw.next {t a : Nat} {ab fc fa : Nat → Int32} {L : List Nat} (hw : zWT tn ab fc fa) (ht : t < 8 + tn) (h : zUpw tn t ab L (nI a)) (ha : a < 8 + tn) (h8 : 8 ≤ a) : zUpw tn t ab (L ++ [a]) (ab a) ∧ L.length < 24 := by
  obtain ⟨h1, ⟨k, hk, e⟩, h3⟩ := h
  have h24 := hw.1
  rcases h3 with q | ⟨a', q, q1, q2, q3, q4⟩
  · exact absurd q.symm (zneg1 (by omega))
  · rw [nI_eq (by omega) (by omega)] at q
    subst q
    have hnm : a ∉ L := fun hm => by have := q4 a hm; omega
    refine ⟨⟨h1.push hnm h8 ha, ⟨k - 1, by rw [List.length_append, List.length_singleton]; omega, ?_⟩, ?_⟩, by omega⟩
    · rw [← e, List.append_assoc]
      congr 1
      obtain ⟨k', rfl⟩ : ∃ k', k = k' + 1 := ⟨k - 1, by omega⟩
      show [a] ++ zch ab k' (ab a) = (if nI a < 0 then [] else (nI a).toNatClampNeg :: zch ab k' (ab (nI a).toNatClampNeg))
      rw [if_neg (nI_pos (by omega)), nI_clamp (by omega)]
      rfl
    · rcases hw.2.1 a h8 ha with p | ⟨b, p, p1, p2⟩
      · exact Or.inl p
      · refine Or.inr ⟨b, p, p1, by omega, by rw [List.length_append, List.length_singleton]; omega, fun x hx => ?_⟩
        rcases List.mem_append.mp hx with g | g
        · have := q4 x g; omega
        · rw [List.mem_singleton.mp g]; omega
theorem zUpw.done {t : Nat} {ab : Nat → Int32} {L : List Nat} (h : zUpw tn t ab L (-1)) : L = zch ab 32 (nI t) ∧ zGl tn L := by
  obtain ⟨h1, ⟨k, hk, e⟩, -⟩ := h
  refine ⟨?_, h1⟩
  have : zch ab k (-1) = [] := by
    cases k with
    | zero => rfl
    | succ k => rfl
  rw [this, List.append_nil] at e
  exact e
theorem c_chain {t : Nat} (hT : tTo C = nI tn) (hw : zWT tn (tCa C) (tFc C) (qFa Q)) (h8 : 8 ≤ t) (ht : t < 8 + tn) (hn : 100 < n) : ∃ f, fx_T_writeLine_L5 n 0 (nI t) C = some (40, nI (zch (tCa C) 32 (nI t)).length, -1, hLi' C f) ∧ zLn f (zch (tCa C) 32 (nI t)) ∧ zGl tn (zch (tCa C) 32 (nI t)) := by
  have h24 := hw.1
  have key : zok (fx_T_writeLine_L5 n 0 (nI t) C) (fun r => ∃ f, r = (40, nI (zch (tCa C) 32 (nI t)).length, -1, hLi' C f) ∧ zLn f (zch (tCa C) 32 (nI t)) ∧ zGl tn (zch (tCa C) 32 (nI t))) := by
    unfold fx_T_writeLine_L5
    refine zok_loop (Inv := fun st => ∃ L f, st.1 = nI L.length ∧ st.2.2 = hLi' C f ∧ zLn f L ∧ zUpw tn t (tCa C) L st.2.1) (μ := fun st => 32 - st.1.toNatClampNeg) ?_ n (0, nI t, C) ⟨[], hLi C, rfl, rfl, zLn_nil _, zUpw.start h8 ht⟩ (by show 32 - (0 : Int32).toNatClampNeg < n; omega)
    rintro ⟨v3, v4, T⟩ ⟨L, f, e1, e2, hL, hU⟩
    dsimp only at e1 e2 hU
    subst e1 e2
    show zok (st_T_writeLine_L5 n (nI L.length) v4 (hLi' C f)) _
    unfold st_T_writeLine_L5
    rw [c_isTold (show tTo (hLi' C f) = nI tn from hT) h24, zbind_some, b2i_if0]
    have hlen := hU.1.len
    rcases hU.2.2 with q | ⟨a, q, q1, q2, q3, q4⟩
    · subst q
      obtain ⟨d1, d2⟩ := hU.done
      rw [xO_lt (by decide), if_neg (by decide)]
      refine ⟨_, rfl, fun s' q => (by cases q), fun r q => ?_⟩
      cases q
      rw [← d1]
      exact ⟨f, rfl, hL, d2⟩
    · subst q
      obtain ⟨d1, d2⟩ := zUpw.next hw ht hU q2 q1
      rw [xO_in h24 q1 q2, if_pos rfl, if_neg (show ¬ (24 : Int32) ≤ nI L.length from nI_ge (b := 24) d2 (by omega)), if_neg (by rw [zoob_nI (by omega)]; omega), zlet_eq, if_neg (by rw [zoob_nI (by omega)]; omega), nI_clamp (n := L.length) (by omega), nI_clamp (n := a) (by omega), nI_1]
      refine ⟨_, rfl, fun s' q => ?_, fun r q => (by cases q)⟩
      cases q
      refine ⟨⟨L ++ [a], upd f L.length (nI a), ?_, rfl, zLn_push hL, d1⟩, ?_⟩
      · show nI (L.length + 1) = nI (L ++ [a]).length
        rw [List.length_append, List.length_singleton]
      · show 32 - (nI (L.length + 1)).toNatClampNeg < 32 - L.length
        rw [nI_clamp (by omega)]
        omega
  obtain ⟨r, e, f, rfl, h⟩ := key
  exact ⟨f, e, h⟩
/-- the reference's line and pile -/
def zQL (Q : ZQ) (f : Nat → Int32) (len : Nat) (p : Nat → Int32) : ZQ := qPi' (qLm' (qLi' Q f) (nI len)) p
theorem q_chain {t : Nat} (hw : zWT tn (qAb Q) (qFm Q) (qFa Q)) (h8 : 8 ≤ t) (ht : t < 8 + tn) (hn : 100 < n) : ∃ f, fx_Q_lineUp_L7 n (nI t) (qLm' Q 0) = some (41, -1, zQL Q f (zch (qAb Q) 32 (nI t)).length (qPi Q)) ∧ zLn f (zch (qAb Q) 32 (nI t)) ∧ zGl tn (zch (qAb Q) 32 (nI t)) := by
  have h24 := hw.1
  have key : zok (fx_Q_lineUp_L7 n (nI t) (qLm' Q 0)) (fun r => ∃ f, r = (41, -1, zQL Q f (zch (qAb Q) 32 (nI t)).length (qPi Q)) ∧ zLn f (zch (qAb Q) 32 (nI t)) ∧ zGl tn (zch (qAb Q) 32 (nI t))) := by
    unfold fx_Q_lineUp_L7
    refine zok_loop (Inv := fun st => ∃ L f, st.2 = zQL Q f L.length (qPi Q) ∧ zLn f L ∧ zUpw tn t (qAb Q) L st.1) (μ := fun st => 32 - (qLm st.2).toNatClampNeg) ?_ n (nI t, qLm' Q 0) ⟨[], qLi Q, rfl, zLn_nil _, zUpw.start h8 ht⟩ (by show 32 - (0 : Int32).toNatClampNeg < n; omega)
    rintro ⟨v2, T⟩ ⟨L, f, e2, hL, hU⟩
    dsimp only at e2 hU
    subst e2
    show zok (st_Q_lineUp_L7 n v2 (zQL Q f L.length (qPi Q))) _
    unfold st_Q_lineUp_L7
    have hlen := hU.1.len
    rcases hU.2.2 with q | ⟨a, q, q1, q2, q3, q4⟩
    · subst q
      obtain ⟨d1, d2⟩ := hU.done
      rw [if_pos (by decide)]
      refine ⟨_, rfl, fun s' q => (by cases q), fun r q => ?_⟩
      cases q
      rw [← d1]
      exact ⟨f, rfl, hL, d2⟩
    · subst q
      obtain ⟨d1, d2⟩ := zUpw.next hw ht hU q2 q1
      have el : qLm (zQL Q f L.length (qPi Q)) = nI L.length := rfl
      rw [if_neg (nI_pos (by omega)), el, if_neg (by rw [zoob_nI (by omega)]; omega), zlet_eq, zlet_eq, if_neg (by rw [zoob_nI (by omega)]; omega), nI_clamp (n := L.length) (by omega), nI_clamp (n := a) (by omega)]
      have es : qLm' (qLi' (zQL Q f L.length (qPi Q)) (upd (qLi (zQL Q f L.length (qPi Q))) L.length (nI a))) (qLm (qLi' (zQL Q f L.length (qPi Q)) (upd (qLi (zQL Q f L.length (qPi Q))) L.length (nI a))) + 1) = zQL Q (upd f L.length (nI a)) (L ++ [a]).length (qPi Q) := by
        show qLm' (qLi' (zQL Q f L.length (qPi Q)) (upd f L.length (nI a))) (nI L.length + 1) = _
        rw [nI_1, List.length_append, List.length_singleton]
        rfl
      rw [es]
      refine ⟨_, rfl, fun s' q => ?_, fun r q => (by cases q)⟩
      cases q
      refine ⟨⟨L ++ [a], upd f L.length (nI a), rfl, zLn_push hL, d1⟩, ?_⟩
      show 32 - (nI (L ++ [a]).length).toNatClampNeg < 32 - L.length
      rw [List.length_append, List.length_singleton, nI_clamp (by omega)]
      omega
  obtain ⟨r, e, f, rfl, h⟩ := key
  exact ⟨f, e, h⟩
end
