/-! PURE ROWS: one turn of the law; all turns -/
theorem law_fin {α : Type} {th b : Int32} {O : Nat → Int64} {X : Option α} (hO : th = 0 → O 0 = b.toInt64) : (if th = th then (if th = 0 then (if lg_cmp (O (0 : Int32).toNatClampNeg) b.toInt64 = 0 then X else none) else X) else none) = X := by
  rw [if_pos rfl]
  by_cases h : th = 0
  · rw [if_pos h, if_pos (show lg_cmp (O (0 : Int32).toNatClampNeg) b.toInt64 = 0 from (zcmp0 _ _).mpr (hO h))]
  · rw [if_neg h]
theorem law_step {n : Nat} {xs : Nat → Int32} {L i : Nat} {C : ZC} {Q : ZQ} {O : Nat → Int64} (hL : L ≤ 3584) (hi : i ≤ 3584) (h : zR C Q) (hn : 2000 < n) : zok (st_law n xs L (nI i) C Q O) (fun o => (∀ s', o = .inl s' → ∃ C' Q' O', s' = (nI (i + 7), C', Q', O') ∧ zR C' Q' ∧ i + 7 ≤ L) ∧ ∀ r, o = .inr r → True) := by
  unfold st_law
  rw [if_pos (show (nI i).toNatClampNeg ≤ 3584 ∧ 0 ≤ nI i from ⟨by rw [nI_clamp (by omega)]; exact hi, nI_pos' (by omega)⟩)]
  by_cases hx : i + 7 ≤ L
  · have hlt : ¬ Int32.ofNat L - 7 < nI i := by
      rw [show Int32.ofNat L - 7 = nI (L - 7) from pk_sub (a := L) (b := 7) (by omega)]
      exact nI_nlt (by omega) (by omega)
    have z0 : ¬ zoob (nI i) L := by rw [zoob_nI (by omega)]; omega
    have z1 : ¬ zoob (nI i + 1) L := by rw [show nI i + 1 = nI (i + 1) from nI_add i 1, zoob_nI (by omega)]; omega
    have z2 : ¬ zoob (nI i + 2) L := by rw [show nI i + 2 = nI (i + 2) from nI_add i 2, zoob_nI (by omega)]; omega
    have z3 : ¬ zoob (nI i + 3) L := by rw [show nI i + 3 = nI (i + 3) from nI_add i 3, zoob_nI (by omega)]; omega
    have z4 : ¬ zoob (nI i + 4) L := by rw [show nI i + 4 = nI (i + 4) from nI_add i 4, zoob_nI (by omega)]; omega
    have z5 : ¬ zoob (nI i + 5) L := by rw [show nI i + 5 = nI (i + 5) from nI_add i 5, zoob_nI (by omega)]; omega
    have z6 : ¬ zoob (nI i + 6) L := by rw [show nI i + 6 = nI (i + 6) from nI_add i 6, zoob_nI (by omega)]; omega
    have e7 : nI i + 7 = nI (i + 7) := nI_add i 7
    have fin : ∀ (C' : ZC) (Q' : ZQ) (O' : Nat → Int64), zR C' Q' → zok (some (.inl (nI i + 7, C', Q', O')) : Option ((Int32 × ZC × ZQ × (Nat → Int64)) ⊕ Unit)) (fun o => (∀ s', o = .inl s' → ∃ C' Q' O', s' = (nI (i + 7), C', Q', O') ∧ zR C' Q' ∧ i + 7 ≤ L) ∧ ∀ r, o = .inr r → True) := by
      intro C' Q' O' hR
      refine ⟨_, rfl, fun s' q => ?_, fun _ _ => trivial⟩
      cases q
      exact ⟨C', Q', O', by rw [e7], hR, hx⟩
    have thr : ∀ Q' : ZQ, fx_Q_thrown n Q' = some (qTh Q', Q') := fun _ => rfl
    rw [if_neg hlt, if_neg z0]
    by_cases c0 : xs (nI i).toNatClampNeg &&& 15 = 0
    · rw [if_pos c0]
      obtain ⟨C', O', b, Q', e1, e2, hR, hO⟩ := o_type (n := n) h O (xs (nI i + 1).toNatClampNeg)
      rw [if_neg z1, e1, zbL3x_some, if_neg z1, e2, zbind_some, thr, zbind_some, law_fin hO]
      exact fin C' Q' O' hR
    rw [if_neg c0]
    by_cases c1 : xs (nI i).toNatClampNeg &&& 15 = 1
    · rw [if_pos c1]
      obtain ⟨C', O', b, Q', e1, e2, hR, hO⟩ := o_face (n := n) h O
      rw [e1, zbL3x_some, e2, zbind_some, thr, zbind_some, law_fin hO]
      exact fin C' Q' O' hR
    rw [if_neg c1]
    by_cases c2 : xs (nI i).toNatClampNeg &&& 15 = 2
    · rw [if_pos c2]
      obtain ⟨r, C', Q', e1, e2, hR⟩ := o_join (n := n) h (xs (nI i + 1).toNatClampNeg) (xs (nI i + 2).toNatClampNeg) (by omega)
      rw [if_neg z1, if_neg z2, e1, zbind_some, if_neg z1, if_neg z2, e2, zbind_some, if_pos rfl]
      exact fin C' Q' O hR
    rw [if_neg c2]
    by_cases c3 : xs (nI i).toNatClampNeg &&& 15 = 3
    · rw [if_pos c3, if_neg z1, if_neg z2, if_neg z3, if_neg z4, if_neg z5, if_neg z6]
      by_cases hv : xs (nI i + 6).toNatClampNeg = 0
      · obtain ⟨C', O', b, Q', e1, e2, hR, hO⟩ := o_member (n := n) h O (xs (nI i + 1).toNatClampNeg) (xs (nI i + 2).toNatClampNeg) (xs (nI i + 3).toNatClampNeg) 0 (((xs (nI i + (4 : Int32)).toNatClampNeg).toInt64 <<< ((32 : Int32).toInt64 &&& 63)) ||| ((xs (nI i + (5 : Int32)).toNatClampNeg).toInt64 &&& (4294967295 : Int64))) (Or.inl rfl) (by omega)
        rw [if_pos hv, e1, zbL3x_some, if_neg z1, if_neg z2, if_neg z3, if_neg z4, if_neg z5, if_neg z6, if_pos hv, e2, zbind_some, thr, zbind_some, law_fin hO]
        exact fin C' Q' O' hR
      · obtain ⟨C', O', b, Q', e1, e2, hR, hO⟩ := o_member (n := n) h O (xs (nI i + 1).toNatClampNeg) (xs (nI i + 2).toNatClampNeg) (xs (nI i + 3).toNatClampNeg) 1 (((xs (nI i + (4 : Int32)).toNatClampNeg).toInt64 <<< ((32 : Int32).toInt64 &&& 63)) ||| ((xs (nI i + (5 : Int32)).toNatClampNeg).toInt64 &&& (4294967295 : Int64))) (Or.inr rfl) (by omega)
        rw [if_neg hv, e1, zbL3x_some, if_neg z1, if_neg z2, if_neg z3, if_neg z4, if_neg z5, if_neg z6, if_neg hv, e2, zbind_some, thr, zbind_some, law_fin hO]
        exact fin C' Q' O' hR
    rw [if_neg c3]
    by_cases c4 : xs (nI i).toNatClampNeg &&& 15 = 4
    · rw [if_pos c4]
      obtain ⟨r, C', Q', e1, e2, hR⟩ := o_subtype (n := n) h (xs (nI i + 1).toNatClampNeg) (xs (nI i + 2).toNatClampNeg) (by omega)
      rw [if_neg z1, if_neg z2, e1, zbind_some, if_neg z1, if_neg z2, e2, zbind_some, if_pos rfl]
      exact fin C' Q' O hR
    rw [if_neg c4]
    by_cases c5 : xs (nI i).toNatClampNeg &&& 15 = 5
    · rw [if_pos c5]
      obtain ⟨r, C', Q', e1, e2, hR⟩ := o_meant (n := n) h (xs (nI i + 1).toNatClampNeg) (xs (nI i + 2).toNatClampNeg) (xs (nI i + 3).toNatClampNeg) hn
      rw [if_neg z1, if_neg z2, if_neg z3, e1, zbind_some, if_neg z1, if_neg z2, if_neg z3, e2, zbind_some, if_pos rfl]
      exact fin C' Q' O hR
    rw [if_neg c5]
    by_cases c6 : xs (nI i).toNatClampNeg &&& 15 = 6
    · rw [if_pos c6]
      obtain ⟨C', O', b, Q', e1, e2, hR, hO⟩ := o_call (n := n) h O (xs (nI i + 1).toNatClampNeg) (xs (nI i + 2).toNatClampNeg) (xs (nI i + 3).toNatClampNeg) (((xs (nI i + (4 : Int32)).toNatClampNeg).toInt64 <<< ((32 : Int32).toInt64 &&& 63)) ||| ((xs (nI i + (5 : Int32)).toNatClampNeg).toInt64 &&& (4294967295 : Int64))) hn
      rw [if_neg z1, if_neg z2, if_neg z3, if_neg z4, if_neg z5, e1, zbL3x_some, if_neg z1, if_neg z2, if_neg z3, if_neg z4, if_neg z5, e2, zbind_some, thr, zbind_some, law_fin hO]
      exact fin C' Q' O' hR
    rw [if_neg c6]
    by_cases c7 : xs (nI i).toNatClampNeg &&& 15 = 7
    · rw [if_pos c7]
      obtain ⟨r, C', Q', e1, e2, hR⟩ := o_look (n := n) h (xs (nI i + 1).toNatClampNeg) (xs (nI i + 2).toNatClampNeg)
      rw [if_neg z1, if_neg z2, e1, zbind_some, if_neg z1, if_neg z2, e2, zbind_some, if_pos rfl]
      exact fin C' Q' O hR
    rw [if_neg c7]
    by_cases c8 : xs (nI i).toNatClampNeg &&& 15 = 8
    · rw [if_pos c8]
      obtain ⟨r, C', Q', e1, e2, hR⟩ := o_above (n := n) h (xs (nI i + 1).toNatClampNeg) (xs (nI i + 2).toNatClampNeg) (by omega)
      rw [if_neg z1, if_neg z2, e1, zbind_some, if_neg z1, if_neg z2, e2, zbind_some, if_pos rfl]
      exact fin C' Q' O hR
    rw [if_neg c8]
    by_cases c9 : xs (nI i).toNatClampNeg &&& 15 = 9
    · rw [if_pos c9]
      obtain ⟨r, C', Q', e1, e2, hR⟩ := o_count (n := n) h (xs (nI i + 1).toNatClampNeg)
      rw [if_neg z1, e1, zbind_some, if_neg z1, e2, zbind_some, if_pos rfl]
      exact fin C' Q' O hR
    rw [if_neg c9]
    exact fin C Q O h
  · have hlt : Int32.ofNat L - 7 < nI i := by
      by_cases h7 : 7 ≤ L
      · rw [show Int32.ofNat L - 7 = nI (L - 7) from pk_sub (a := L) (b := 7) h7]
        exact nI_lt (by omega) (by omega)
      · have hneg : Int32.ofNat L - 7 < 0 := pk_sneg (a := L) (b := 7) (by omega) (by omega)
        have h0 := nI_pos' (n := i) (by omega)
        rw [i32_lt] at hneg ⊢
        rw [i32_le] at h0
        omega
    rw [if_pos hlt]
    exact ⟨_, rfl, fun s' q => (by cases q), fun _ _ => trivial⟩
theorem law_all {n : Nat} {xs : Nat → Int32} {L : Nat} (hL : L ≤ 3584) (hn : 4000 < n) {C : ZC} {Q : ZQ} (h : zR C Q) : zloop (fun (st : Int32 × ZC × ZQ × (Nat → Int64)) => st_law n xs L st.1 st.2.1 st.2.2.1 st.2.2.2) n (0, C, Q, fun _ => 0) = some () := by
  have key : zok (zloop (fun (st : Int32 × ZC × ZQ × (Nat → Int64)) => st_law n xs L st.1 st.2.1 st.2.2.1 st.2.2.2) n (0, C, Q, fun _ => 0)) (fun _ => True) := by
    refine zok_loop (Inv := fun st => ∃ i : Nat, st.1 = nI i ∧ i ≤ 3584 ∧ zR st.2.1 st.2.2.1) (μ := fun st => 3584 - st.1.toNatClampNeg) ?_ n (0, C, Q, fun _ => 0) ⟨0, rfl, by omega, h⟩ (by show 3584 - (0 : Int32).toNatClampNeg < n; omega)
    rintro ⟨v, C1, Q1, O1⟩ ⟨i, e, hi, hR⟩
    dsimp only at e hR
    subst e
    obtain ⟨o, eo, h1, h2⟩ := law_step (n := n) (xs := xs) (O := O1) hL hi hR (by omega)
    refine ⟨o, eo, fun s' q => ?_, fun r q => trivial⟩
    obtain ⟨C', Q', O', rfl, hR', hiL⟩ := h1 s' q
    refine ⟨⟨i + 7, rfl, by omega, hR'⟩, ?_⟩
    show 3584 - (nI (i + 7)).toNatClampNeg < 3584 - (nI i).toNatClampNeg
    rw [nI_clamp (by omega), nI_clamp (by omega)]
    omega
  obtain ⟨⟨⟩, e, -⟩ := key
  exact e
/-! the start -/
def zb1 (t : Nat) : Int32 := (1 : Int32) <<< (nI t &&& 31)
def zu0 (t : Nat) : Int32 := if t ≤ 2 then zb1 t else zb1 t ||| zb1 7
theorem t_init {n : Nat} (hn : 100 < n) : fx_T_init n zT0 = some (uUp' zT0 (upd (fun t => if t < 8 then zu0 t else 0) 0 (zb1 0 ||| zb1 1))) := by
  unfold fx_T_init fx_T_init_L55
  have e := zl_scan (step := fun (st : Int32 × ZT) => st_T_init_L55 n st.1 st.2) (r := (97, nI 8, uUp' zT0 (fun t => if t < 8 then zu0 t else 0))) (st := fun k => (nI k, uUp' zT0 (fun t => if t < k then zu0 t else 0))) 8 (n := n) (by omega) (fun k hk => ?_) ?_
  · have e0 : uUp' zT0 (fun t => if t < 0 then zu0 t else 0) = uTo' zT0 0 := by
      have : (fun t : Nat => if t < 0 then zu0 t else (0 : Int32)) = fun _ => 0 := by
        funext t
        rw [if_neg (by omega)]
      rw [this]
      rfl
    have e1 : zloop (fun (st : Int32 × ZT) => st_T_init_L55 n st.1 st.2) n ((0 : Int32), uUp' zT0 (fun t => if t < 0 then zu0 t else 0)) = _ := e
    rw [e0] at e1
    rw [zlet_eq, e1, zbL2_some, if_pos rfl]
    show zbind1 (fx_T_bit n (nI 0)) _ = _
    rw [c_bit, zbind1_some]
    show zbind1 (fx_T_bit n (nI 1)) _ = _
    rw [c_bit, zbind1_some, if_neg (by rw [nL0, zoob_nI (by omega)]; omega), zlet_eq]
    rfl
  · show st_T_init_L55 n (nI k) (uUp' zT0 (fun t => if t < k then zu0 t else 0)) = _
    unfold st_T_init_L55
    have hz : ¬ zoob (nI k) 32 := by rw [zoob_nI (by omega)]; omega
    have ew : upd (fun t => if t < k then zu0 t else 0) k (zu0 k) = fun t => if t < k + 1 then zu0 t else 0 := by
      funext t
      by_cases et : t = k
      · subst et
        rw [zupd_at, if_pos (by omega)]
      · rw [zupd_ne _ _ et]
        by_cases q : t < k
        · rw [if_pos q, if_pos (show t < k + 1 by omega)]
        · rw [if_neg q, if_neg (show ¬ t < k + 1 by omega)]
    rw [nL8, if_neg (nI_ge hk (by omega)), c_isPrim (by omega), zbind1_some, b2i_if0, nI_1]
    by_cases h2 : k ≤ 2
    · rw [decide_eq_true h2, if_pos rfl, c_bit, zbind1_some, if_neg hz, zlet_eq, nI_clamp (by omega)]
      rw [← ew]
      unfold zu0
      rw [if_pos h2]
      rfl
    · rw [decide_eq_false h2, if_neg (by decide), c_bit, zbind1_some]
      show zbind1 (fx_T_bit n (nI 7)) _ = _
      rw [c_bit, zbind1_some, if_neg hz, zlet_eq, nI_clamp (by omega)]
      rw [← ew]
      unfold zu0
      rw [if_neg h2]
      rfl
  · show st_T_init_L55 n (nI 8) _ = _
    unfold st_T_init_L55
    rw [if_pos (show (8 : Int32) ≤ nI 8 from Int32.le_refl _)]
theorem zsub_none {e : Nat → Nat → Prop} (he : ∀ x y, ¬ e x y) (t u : Nat) : zsub e t u ↔ u = t ∨ (t = 0 ∧ u = 1) ∨ (2 < t ∧ u = 7) := by
  constructor
  · intro h
    exact h (fun u => u = t ∨ (t = 0 ∧ u = 1) ∨ (2 < t ∧ u = 7)) (Or.inl rfl) (fun q => Or.inr (Or.inl ⟨q, rfl⟩)) (fun q => Or.inr (Or.inr ⟨q, rfl⟩)) (fun x y _ hxy => absurd hxy (he x y))
  · rintro (rfl | ⟨rfl, rfl⟩ | ⟨h, rfl⟩)
    · exact zsub_rf
    · exact zsub_long
    · exact zsub_any h
theorem zR_start : zR (zS0 (uUp' zT0 (upd (fun t => if t < 8 then zu0 t else 0) 0 (zb1 0 ||| zb1 1)))) zQ0 := by
  have hbit : ∀ t u, t < 32 → zbt (zb1 t) u = decide (u = t) := fun t u ht => by unfold zb1; exact zbt_bit ht
  have hfl : ∀ x, zfl (qFm zQ0) (qFa zQ0) x = [] := fun x => rfl
  refine ⟨0, 0, ⟨rfl, rfl, ⟨by omega, fun x h1 h2 => by omega, fun x => ⟨0, rfl, by omega, fun _ => rfl⟩, fun x k hk => ?_, fun x => by rw [hfl x]; exact List.nodup_nil⟩, rfl, rfl, rfl, fun t k hk => rfl, ?_, fun u => Or.inl rfl⟩, ⟨rfl, rfl, by omega, rfl, rfl, rfl, rfl, fun m hm => by omega⟩, ⟨0, rfl, rfl, by omega, rfl, rfl, rfl, rfl, rfl⟩, rfl, rfl, rfl⟩
  · have : (qFm zQ0 x).toNatClampNeg = 0 := rfl
    omega
  · intro t ht u
    rw [zsub_none (fun x y h => by have := h.1; omega)]
    show zbt (upd (fun t => if t < 8 then zu0 t else 0) 0 (zb1 0 ||| zb1 1) t) u = true ↔ _
    by_cases h0 : t = 0
    · subst h0
      rw [zupd_at, zbt_or, hbit 0 u (by omega), hbit 1 u (by omega), Bool.or_eq_true, decide_eq_true_eq, decide_eq_true_eq]
      omega
    · rw [zupd_ne _ _ h0, if_pos (show t < 8 by omega)]
      unfold zu0
      by_cases h2 : t ≤ 2
      · rw [if_pos h2, hbit t u (by omega), decide_eq_true_eq]
        omega
      · rw [if_neg h2, zbt_or, hbit t u (by omega), hbit 7 u (by omega), Bool.or_eq_true, decide_eq_true_eq, decide_eq_true_eq]
        omega
theorem pure_all (xs : Nat → Int32) (L : Nat) (hL : L ≤ 3584) : ∃ (n1 n : Nat) (S' : ZT), fx_T_init n1 zT0 = some S' ∧ zloop (fun (st : Int32 × ZC × ZQ × (Nat → Int64)) => st_law n xs L st.1 st.2.1 st.2.2.1 st.2.2.2) n (0, zS0 S', zQ0, fun _ => 0) = some () :=
  ⟨101, 5000, _, t_init (by omega), law_all hL (by omega) zR_start⟩
