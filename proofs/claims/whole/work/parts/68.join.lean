/-! PURE ROWS: join -/
section
variable {n : Nat} {C : ZC} {Q : ZQ}
theorem c_holds {N len : Nat} {f : Nat → Int32} (x : Int32) (hl : len ≤ N) (hN : N < 2 ^ 31) (hn : len < n) : fx_T_holds n N f (nI len) x = some (b2i (zany (fun k => decide (f k = x)) len)) := by
  have stp : ∀ k, k < len → st_T_holds_L2 n N f (nI len) x (nI k) = if f k = x then some (.inr (20, nI k)) else some (.inl (nI (k + 1))) := fun k hk => by
    unfold st_T_holds_L2
    rw [if_neg (nI_ge hk (by omega)), if_neg (show ¬ Int32.ofNat N ≤ nI k from nI_ge (by omega) hN), if_neg (by rw [zoob_nI (by omega)]; omega), nI_clamp (by omega), nI_1]
  unfold fx_T_holds fx_T_holds_L2
  rcases zl_first (fun k => decide (f k = x)) len with ⟨k, hk, h1, h2⟩ | h
  · have e := zl_scan (step := fun (st : Int32) => st_T_holds_L2 n N f (nI len) x st) (r := (20, nI k)) (st := fun k => nI k) k (n := n) (by omega) (fun j hj => by
      show st_T_holds_L2 n N f (nI len) x (nI j) = _
      rw [stp j (by omega), if_neg (of_decide_eq_false (h2 j hj))]) (by
      show st_T_holds_L2 n N f (nI len) x (nI k) = _
      rw [stp k hk, if_pos (of_decide_eq_true h1)])
    rw [show zloop (fun (st : Int32) => st_T_holds_L2 n N f (nI len) x st) n (0 : Int32) = some (20, nI k) from e, zbL1_some, if_pos rfl, zany_t hk h1]
    rfl
  · have e := zl_scan (step := fun (st : Int32) => st_T_holds_L2 n N f (nI len) x st) (r := (28, nI len)) (st := fun k => nI k) len (n := n) (by omega) (fun j hj => by
      show st_T_holds_L2 n N f (nI len) x (nI j) = _
      rw [stp j hj, if_neg (of_decide_eq_false (h j hj))]) (by
      show st_T_holds_L2 n N f (nI len) x (nI len) = _
      unfold st_T_holds_L2
      rw [if_pos (nI_le (Nat.le_refl _) (by omega))])
    rw [show zloop (fun (st : Int32) => st_T_holds_L2 n N f (nI len) x st) n (0 : Int32) = some (28, nI len) from e, zbL1_some, if_neg (by decide), if_pos rfl, zany_f h]
    rfl
/-- the rows below a type get the face's bits -/
def zra (tn : Nat) (up : Nat → Int32) (a f k t : Nat) : Int32 := if 8 ≤ t ∧ t < 8 + k ∧ zbt (up t) a = true then up t ||| up f else up t
theorem c_raise {tn a f : Nat} (hT : tTo C = nI tn) (ht : tn ≤ 24) (ha : a < 8 + tn) (ha8 : 8 ≤ a) (hf : f < 8 + tn) (hfa : zbt (tUp C f) a = false) (hn : 64 < n) : fx_T_raiseAllBelow n C (nI a) (nI f) = some (tUp' C (zra tn (tUp C) a f tn)) := by
  unfold fx_T_raiseAllBelow fx_T_raiseAllBelow_L3
  have e := zl_scan (step := fun (st : Int32 × ZC) => st_T_raiseAllBelow_L3 n (nI a) (nI f) st.1 st.2) (r := (44, nI (8 + tn), tUp' C (zra tn (tUp C) a f tn))) (st := fun k => (nI (8 + k), tUp' C (zra tn (tUp C) a f k))) tn (n := n) (by omega) (fun k hk => ?_) ?_
  · have e0 : tUp' C (zra tn (tUp C) a f 0) = C := by
      have : zra tn (tUp C) a f 0 = tUp C := by
        funext t
        unfold zra
        rw [if_neg (by omega)]
      rw [this]
    have e1 : zloop (fun (st : Int32 × ZC) => st_T_raiseAllBelow_L3 n (nI a) (nI f) st.1 st.2) n ((8 : Int32), C) = some (44, nI (8 + tn), tUp' C (zra tn (tUp C) a f tn)) := by
      have e2 := e
      rw [show (nI (8 + 0), tUp' C (zra tn (tUp C) a f 0)) = ((8 : Int32), C) by rw [e0]; rfl] at e2
      exact e2
    rw [e1, zbL2_some, if_pos rfl]
  · show st_T_raiseAllBelow_L3 n (nI a) (nI f) (nI (8 + k)) (tUp' C (zra tn (tUp C) a f k)) = _
    unfold st_T_raiseAllBelow_L3
    have hT' : tTo (tUp' C (zra tn (tUp C) a f k)) = nI tn := hT
    have hz : ¬ zoob (nI (8 + k)) 32 := by rw [zoob_nI (by omega)]; omega
    have ecl : (nI (8 + k)).toNatClampNeg = 8 + k := nI_clamp (by omega)
    have g1 : zra tn (tUp C) a f k (8 + k) = tUp C (8 + k) := by
      unfold zra
      rw [if_neg (by omega)]
    have g2 : zra tn (tUp C) a f k f = tUp C f := by
      unfold zra
      rw [if_neg (fun q => by rw [hfa] at q; exact absurd q.2.2 (by decide))]
    rw [hT', nI8, if_neg (nI_ge (by omega) (by omega)), c_isSubN hT' ht (by omega) ha, zbind_some, show tUp (tUp' C (zra tn (tUp C) a f k)) (8 + k) = tUp C (8 + k) from g1, b2i_if0, nI_1]
    cases hb : zbt (tUp C (8 + k)) a with
    | false =>
      rw [if_neg (by decide)]
      have : zra tn (tUp C) a f (k + 1) = zra tn (tUp C) a f k := by
        funext t
        unfold zra
        by_cases et : t = 8 + k
        · subst et
          rw [if_neg (fun q => by rw [hb] at q; exact absurd q.2.2 (by decide)), if_neg (by omega)]
        · by_cases q : 8 ≤ t ∧ t < 8 + k ∧ zbt (tUp C t) a = true
          · rw [if_pos q, if_pos ⟨q.1, by omega, q.2.2⟩]
          · rw [if_neg q, if_neg (fun p => q ⟨p.1, by omega, p.2.2⟩)]
      rw [this]
      rfl
    | true =>
      rw [if_pos rfl, if_neg hz, if_neg (by rw [zoob_nI (by omega)]; omega), if_neg hz, zlet_eq, ecl, nI_clamp (n := f) (by omega)]
      show some (Sum.inl (nI (8 + k + 1), tUp' C (upd (zra tn (tUp C) a f k) (8 + k) (zra tn (tUp C) a f k (8 + k) ||| zra tn (tUp C) a f k f)))) = _
      rw [g1, g2]
      have : upd (zra tn (tUp C) a f k) (8 + k) (tUp C (8 + k) ||| tUp C f) = zra tn (tUp C) a f (k + 1) := by
        funext t
        by_cases et : t = 8 + k
        · subst et
          rw [zupd_at]
          unfold zra
          rw [if_pos ⟨by omega, by omega, hb⟩]
        · rw [zupd_ne _ _ et]
          unfold zra
          by_cases q : 8 ≤ t ∧ t < 8 + k ∧ zbt (tUp C t) a = true
          · rw [if_pos q, if_pos ⟨q.1, by omega, q.2.2⟩]
          · rw [if_neg q, if_neg (fun p => q ⟨p.1, by omega, p.2.2⟩)]
      rw [this]
      rfl
  · show st_T_raiseAllBelow_L3 n (nI a) (nI f) (nI (8 + tn)) (tUp' C (zra tn (tUp C) a f tn)) = _
    unfold st_T_raiseAllBelow_L3
    rw [show tTo (tUp' C (zra tn (tUp C) a f tn)) = nI tn from hT, nI8, if_pos (nI_le (Nat.le_refl _) (by omega))]
theorem zfl_join {fc fa : Nat → Int32} {a c : Nat} (f : Nat) (hc : fc a = nI c) (hc24 : ∀ x, (fc x).toNatClampNeg ≤ 24) (hc' : c < 24) (hf : f < 32) (x : Nat) : zfl (upd fc a (nI (c + 1))) (upd fa (32 * a + c) (nI f)) x = if x = a then zfl fc fa a ++ [f] else zfl fc fa x := by
  unfold zfl
  by_cases ex : x = a
  · subst ex
    rw [if_pos rfl, zupd_at, nI_clamp (by omega), hc, nI_clamp (by omega), List.range_succ, List.map_append]
    congr 1
    · refine List.map_congr_left fun k hk => ?_
      rw [zupd_ne _ _ (by have := List.mem_range.mp hk; omega)]
    · rw [List.map_cons, List.map_nil, zupd_at, nI_clamp (by omega)]
  · rw [if_neg ex, zupd_ne _ _ ex]
    refine List.map_congr_left fun k hk => ?_
    have h1 := List.mem_range.mp hk
    have h2 := hc24 x
    rw [zupd_ne _ _ (by omega)]
theorem zsub_small {e : Nat → Nat → Prop} (he : ∀ x y, e x y → 8 ≤ x) {t u : Nat} (ht : t < 8) (h : zsub e t u) : u < 8 := h (fun q => q < 8) ht (fun _ => by omega) (fun _ => by omega) fun x y hx hxy => by have := he x y hxy; omega
end
section
variable {n : Nat} {C : ZC} {Q : ZQ}
theorem q_joinL {a c : Nat} {S : ZQ} (x : Int32) (hc : qFm S a = nI c) (ha : a < 32) (hc24 : c ≤ 24) (hn : 64 < n) : ∃ v, fx_Q_join_L43 n (nI a) x 0 S = some (if zany (fun k => decide (qFa S (32 * a + k) = x)) c = true then 68 else 76, v, S) := by
  have ecl : (nI a).toNatClampNeg = a := nI_clamp (by omega)
  have hz : ¬ zoob (nI a) 32 := by rw [zoob_nI (by omega)]; omega
  have stp : ∀ k, k < c → st_Q_join_L43 n (nI a) x (nI k) S = if qFa S (32 * a + k) = x then some (.inr (68, nI k, S)) else some (.inl (nI (k + 1), S)) := fun k hk => by
    unfold st_Q_join_L43
    have ei : (32 : Int32) * nI a + nI k = nI (32 * a + k) := by rw [nL32, pk_mul, nI_add]
    rw [if_neg hz, ecl, hc, if_neg (nI_ge hk (by omega)), ei, if_neg (by rw [zoob_nI (by omega)]; omega), nI_clamp (n := 32 * a + k) (by omega), nI_1]
  unfold fx_Q_join_L43
  rcases zl_first (fun k => decide (qFa S (32 * a + k) = x)) c with ⟨k, hk, h1, h2⟩ | h
  · refine ⟨nI k, ?_⟩
    rw [zany_t hk h1, if_pos rfl]
    exact zl_scan (step := fun (st : Int32 × ZQ) => st_Q_join_L43 n (nI a) x st.1 st.2) (st := fun k => (nI k, S)) k (n := n) (by omega) (fun j hj => by
      show st_Q_join_L43 n (nI a) x (nI j) S = _
      rw [stp j (by omega), if_neg (of_decide_eq_false (h2 j hj))]) (by
      show st_Q_join_L43 n (nI a) x (nI k) S = _
      rw [stp k hk, if_pos (of_decide_eq_true h1)])
  · refine ⟨nI c, ?_⟩
    rw [zany_f h, if_neg (by decide)]
    exact zl_scan (step := fun (st : Int32 × ZQ) => st_Q_join_L43 n (nI a) x st.1 st.2) (st := fun k => (nI k, S)) c (n := n) (by omega) (fun j hj => by
      show st_Q_join_L43 n (nI a) x (nI j) S = _
      rw [stp j (by omega), if_neg (of_decide_eq_false (h j hj))]) (by
      show st_Q_join_L43 n (nI a) x (nI c) S = _
      unfold st_Q_join_L43
      rw [if_neg hz, ecl, hc, if_pos (nI_le (Nat.le_refl _) (by omega))])
theorem c_hasFace {a c : Nat} (x : Int32) (hc : tFc C a = nI c) (ha : a < 32) (hc24 : c ≤ 24) (hn : 64 < n) : fx_T_hasFace n C (nI a) x = some (b2i (zany (fun k => decide (tGr C a k = x)) c), C) := by
  unfold fx_T_hasFace
  have hz : ¬ zoob (nI a) 32 := by rw [zoob_nI (by omega)]; omega
  rw [if_neg hz, if_neg hz, nI_clamp (by omega), hc, c_holds x hc24 (by omega) (by omega), zbind1_some, if_pos (b2i_01 _)]
theorem o_join (h : zR C Q) (x y : Int32) (hn : 64 < n) : ∃ r C' Q', fx_X_join n C x y = some (r, C') ∧ fx_Q_join n Q x y = some (r, Q') ∧ zR C' Q' := by
  obtain ⟨tn, mn, hT, hM, hK, hX⟩ := id h
  obtain ⟨t1, t2, t3, t4, t5, t6, t7, t8, t9⟩ := id hT
  have h24 : tn ≤ 24 := t3.1
  have hR0 : zR C (qTh' Q 0) := h
  unfold fx_X_join fx_T_addFaceAbove fx_Q_join
  rw [c_isTold t1 h24, zbind_some, b2i_if0, zlet_eq, q_isOwn (show qTy (qTh' Q 0) = nI (8 + tn) from t2) h24, zbind_some, b2i_if0]
  rcases xO_cases tn x h24 with q | ⟨a, a8, a2, rfl⟩
  · rw [q, if_neg (by decide), if_neg (by decide), zbind_some, if_pos rfl]
    exact ⟨_, _, _, rfl, rfl, hR0⟩
  rw [xO_in h24 a8 a2, if_pos (c := true = true) rfl, if_pos (c := true = true) rfl, c_isToldFace t1 h24, zbind_some, b2i_if0, q_isOwn (show qTy (qTh' Q 0) = nI (8 + tn) from t2) h24, zbind_some, b2i_if0]
  rcases xO_cases tn y h24 with q | ⟨f, f8, f2, rfl⟩
  · rw [q, Bool.false_and, if_neg (by decide), if_neg (by decide), zbind_some, if_pos rfl]
    exact ⟨_, _, _, rfl, rfl, hR0⟩
  have hza : ¬ zoob (nI a) 32 := by rw [zoob_nI (by omega)]; omega
  have hzf : ¬ zoob (nI f) 32 := by rw [zoob_nI (by omega)]; omega
  have eca : (nI a).toNatClampNeg = a := nI_clamp (by omega)
  rw [xO_in h24 f8 f2, if_pos (c := true = true) rfl, if_neg hzf, Bool.true_and, t4]
  by_cases hm : qIf Q (nI f).toNatClampNeg = 0
  · rw [decide_eq_true hm, if_neg (by decide), if_pos (show qIf (qTh' Q 0) (nI f).toNatClampNeg = 0 from hm), zbind_some, if_pos rfl]
    exact ⟨_, _, _, rfl, rfl, hR0⟩
  obtain ⟨g, e, hg⟩ := q_isUnder (n := n) (S := qTh' Q 0) (up := tUp C) (t := f) (u := a) t2 t3 t8 t9 f2 (by omega) hn
  have hR1 : zR C (qIo' (qTh' Q 0) g) := ⟨tn, mn, hT.io hg, hM, hK, hX⟩
  rw [decide_eq_false hm, if_pos (show (!false) = true from rfl), if_neg (show ¬ qIf (qTh' Q 0) (nI f).toNatClampNeg = 0 from hm), c_isSubN t1 h24 f2 a2, zbind_some, b2i_if0, e, zbind_some, b2i_if0]
  cases hs : zbt (tUp C f) a with
  | true =>
    rw [if_pos rfl, if_pos rfl, zbind_some, if_pos rfl]
    exact ⟨_, _, _, rfl, rfl, hR1⟩
  | false =>
    obtain ⟨c, hc, hc24, -⟩ := t3.2.2.1 a
    obtain ⟨v, eL⟩ := q_joinL (n := n) (S := qIo' (qTh' Q 0) g) (a := a) (nI f) hc (by omega) hc24 hn
    have eany : zany (fun k => decide (tGr C a k = nI f)) c = zany (fun k => decide (qFa Q (32 * a + k) = nI f)) c := zany_congr fun k hk => by rw [t7 a k (by omega)]
    rw [if_neg (by decide), if_neg (by decide), eL, zbL2_some]
    rw [c_hasFace (nI f) (by rw [t6]; exact hc) (by omega) hc24 hn, zbind_some, b2i_if0, eany]
    show ∃ r C' Q', _ ∧ (if (if zany (fun k => decide (qFa Q (32 * a + k) = nI f)) c = true then 68 else 76) = 68 then _ else _) = _ ∧ _
    cases ha : zany (fun k => decide (qFa Q (32 * a + k) = nI f)) c with
    | true =>
      rw [if_pos rfl, if_pos rfl, if_pos rfl, zbind_some, if_pos rfl]
      exact ⟨_, _, _, rfl, rfl, hR1⟩
    | false =>
      -- the face is new there
      have hnin : f ∉ zfl (qFm Q) (qFa Q) a := fun hmem => by
        obtain ⟨k, hk, ek⟩ := zfl_mem.mp hmem
        rw [hc, nI_clamp (by omega)] at hk
        obtain ⟨f', e', -, h2'⟩ := t3.2.2.2.1 a k (by rw [hc, nI_clamp (by omega)]; exact hk)
        rw [e', nI_clamp (by omega)] at ek
        subst ek
        rw [zany_t (P := fun k => decide (qFa Q (32 * a + k) = nI f')) hk (decide_eq_true e')] at ha
        cases ha
      have hnd : (zfl (qFm Q) (qFa Q) a ++ [f]).Nodup := by
        rw [List.nodup_append]
        refine ⟨t3.2.2.2.2 a, by simp, fun p hp q hq => ?_⟩
        rw [List.mem_singleton.mp hq]
        exact fun e => hnin (e ▸ hp)
      have hlen : c < 24 := by
        have := z_pig2 (a := 8) (N := tn) hnd (fun p hp => by
          rcases List.mem_append.mp hp with q | q
          · have := zfl_in t3 q; omega
          · rw [List.mem_singleton.mp q]; omega)
        rw [List.length_append, zfl_len, hc, nI_clamp (by omega)] at this
        simp at this
        omega
      have hcl24 : ∀ x, (qFm Q x).toNatClampNeg ≤ 24 := fun x => by
        obtain ⟨c', e', h', -⟩ := t3.2.2.1 x
        rw [e', nI_clamp (by omega)]; exact h'
      have hfl := fun x => zfl_join (fa := qFa Q) f hc hcl24 hlen (by omega) x
      rw [if_neg (show ¬ (false = true) by decide), if_neg (show ¬ (false = true) by decide), if_neg (show ¬ (76 = 68) by decide), if_pos (show 76 = 76 from rfl), if_neg hza, if_neg hza]
      have ei : (32 : Int32) * nI a + qFm (qIo' (qTh' Q 0) g) (nI a).toNatClampNeg = nI (32 * a + c) := by
        rw [eca, show qFm (qIo' (qTh' Q 0) g) a = nI c from hc, nL32, pk_mul, nI_add]
      have hCc : tFc C (nI a).toNatClampNeg = nI c := by rw [eca, t6]; exact hc
      rw [ei, if_neg (show ¬ zoob (nI (32 * a + c)) 1024 by rw [zoob_nI (by omega)]; omega), zlet_eq, if_neg hza, if_neg hza, zlet_eq, zlet_eq]
      rw [hCc, if_pos (show nI c < 24 from nI_lt (b := 24) hlen (by omega)), if_neg hza, if_neg (show ¬ zoob (nI c) 24 by rw [zoob_nI (by omega)]; omega), zlet_eq, if_neg hza, zlet_eq, eca, nI_clamp (n := c) (by omega), nI_clamp (n := 32 * a + c) (by omega)]
      obtain ⟨C1, hC1⟩ : ∃ C1 : ZC, C1 = tFc' (tGr' C (va_up (tGr C) a (upd (tGr C a) c (nI f)))) (upd (tFc C) a (nI (c + 1))) := ⟨_, rfl⟩
      obtain ⟨Q1, hQ1⟩ : ∃ Q1 : ZQ, Q1 = qKe' (qFm' (qFa' (qIo' (qTh' Q 0) g) (upd (qFa Q) (32 * a + c) (nI f))) (upd (qFm Q) a (nI (c + 1)))) 0 := ⟨_, rfl⟩
      have e1 : tFc' (tGr' C (va_up (tGr C) a (upd (tGr C a) c (nI f)))) (upd (tFc (tGr' C (va_up (tGr C) a (upd (tGr C a) c (nI f))))) a (nI c + 1)) = C1 := by rw [nI_1, hC1]
      have e2 : qKe' (qFm' (qFa' (qIo' (qTh' Q 0) g) (upd (qFa (qIo' (qTh' Q 0) g)) (32 * a + c) (nI f))) (upd (qFm (qFa' (qIo' (qTh' Q 0) g) (upd (qFa (qIo' (qTh' Q 0) g)) (32 * a + c) (nI f)))) a (qFm (qFa' (qIo' (qTh' Q 0) g) (upd (qFa (qIo' (qTh' Q 0) g)) (32 * a + c) (nI f))) a + 1))) 0 = Q1 := by
        rw [show qFm (qFa' (qIo' (qTh' Q 0) g) (upd (qFa (qIo' (qTh' Q 0) g)) (32 * a + c) (nI f))) a = nI c from hc, nI_1, hQ1]
      rw [e1, e2]
      have u1 : tUp C1 = tUp C := by rw [hC1]
      have u2 : tTo C1 = nI tn := by rw [hC1]; exact t1
      rw [c_raise u2 h24 a2 a8 f2 (by rw [u1]; exact hs) hn, zbind1_some, zbind_some, if_neg (by decide)]
      unfold fx_K_letGoAll
      rw [zlet_eq, zbind1_some]
      refine ⟨_, _, _, rfl, rfl, ?_⟩
      rw [u1, hC1, hQ1]
      have hedge : ∀ x y, zed tn (qAb Q) (upd (qFm Q) a (nI (c + 1))) (upd (qFa Q) (32 * a + c) (nI f)) x y ↔ zed tn (qAb Q) (qFm Q) (qFa Q) x y ∨ (x = a ∧ y = f) := fun x y => by
        unfold zed
        rw [hfl x]
        by_cases ex : x = a
        · subst ex
          rw [if_pos rfl, List.mem_append, List.mem_singleton]
          constructor
          · rintro ⟨p1, p2 | p2 | p2⟩
            · exact Or.inl ⟨p1, Or.inl p2⟩
            · exact Or.inl ⟨p1, Or.inr p2⟩
            · exact Or.inr ⟨rfl, p2⟩
          · rintro (⟨p1, p2 | p2⟩ | ⟨-, p2⟩)
            · exact ⟨p1, Or.inl p2⟩
            · exact ⟨p1, Or.inr (Or.inl p2)⟩
            · exact ⟨⟨a8, a2⟩, Or.inr (Or.inr p2)⟩
        · rw [if_neg ex]
          constructor
          · exact Or.inl
          · rintro (p | p)
            · exact p
            · exact absurd p.1 ex
      have hW : zWT tn (qAb Q) (upd (qFm Q) a (nI (c + 1))) (upd (qFa Q) (32 * a + c) (nI f)) := by
        refine ⟨h24, t3.2.1, fun x => ?_, fun x k hk => ?_, fun x => ?_⟩
        · by_cases ex : x = a
          · subst ex
            exact ⟨c + 1, zupd_at _ _ _, by omega, fun q => by omega⟩
          · rw [zupd_ne _ _ ex]; exact t3.2.2.1 x
        · by_cases ex : x = a
          · subst ex
            rw [zupd_at, nI_clamp (by omega)] at hk
            by_cases ek : k = c
            · subst ek
              exact ⟨f, zupd_at _ _ _, f8, f2⟩
            · rw [zupd_ne _ _ (by omega)]
              exact t3.2.2.2.1 x k (by rw [hc, nI_clamp (by omega)]; omega)
          · rw [zupd_ne _ _ ex] at hk
            have := hcl24 x
            rw [zupd_ne _ _ (by omega)]
            exact t3.2.2.2.1 x k hk
        · rw [hfl x]
          split
          · exact hnd
          · exact t3.2.2.2.2 x
      have hU : zUP tn (zed tn (qAb Q) (upd (qFm Q) a (nI (c + 1))) (upd (qFa Q) (32 * a + c) (nI f))) (zra tn (tUp C) a f tn) := by
        have hee : zed tn (qAb Q) (upd (qFm Q) a (nI (c + 1))) (upd (qFa Q) (32 * a + c) (nI f)) = fun x y => zed tn (qAb Q) (qFm Q) (qFa Q) x y ∨ (x = a ∧ y = f) := by
          funext x y
          exact propext (hedge x y)
        rw [hee]
        intro t ht u
        rw [zsub_join (fun x y hxy => zed_lo hxy) a8 f8, ← t8 t ht u, ← t8 t ht a, ← t8 f f2 u]
        unfold zra
        by_cases q : 8 ≤ t ∧ t < 8 + tn ∧ zbt (tUp C t) a = true
        · rw [if_pos q, zbt_or, Bool.or_eq_true]
          constructor
          · rintro (p | p)
            · exact Or.inl p
            · exact Or.inr ⟨q.2.2, p⟩
          · rintro (p | p)
            · exact Or.inl p
            · exact Or.inr p.2
        · rw [if_neg q]
          constructor
          · exact Or.inl
          · rintro (p | p)
            · exact p
            · by_cases t8' : 8 ≤ t
              · exact absurd ⟨t8', ht, p.1⟩ q
              · have := zsub_small (fun x y hxy => zed_lo hxy) (by omega) ((t8 t ht a).mp p.1)
                omega
      refine ⟨tn, mn, ⟨t1, t2, hW, t4, t5, ?_, fun t k hk => ?_, hU, hg⟩, hM, ?_, hX⟩
      · show upd (tFc C) a (nI (c + 1)) = upd (qFm Q) a (nI (c + 1))
        rw [t6]
      · show va_up (tGr C) a (upd (tGr C a) c (nI f)) t k = upd (qFa Q) (32 * a + c) (nI f) (32 * t + k)
        by_cases et : t = a
        · subst et
          rw [va_up_self]
          by_cases ek : k = c
          · subst ek; rw [zupd_at, zupd_at]
          · rw [zupd_ne _ _ ek, zupd_ne _ _ (by omega), t7 t k hk]
        · rw [va_up_ne _ _ et, zupd_ne _ _ (by omega), t7 t k hk]
      · obtain ⟨kn, k1, k2, k3, k4, k5, k6, k7, k8⟩ := hK
        exact ⟨0, rfl, rfl, by omega, k4, k5, k6, k7, k8⟩
end
