/-! PURE ROWS: above, look -/
section
variable {n : Nat} {C : ZC} {Q : ZQ}
theorem q_aboveL {tn : Nat} {S : ZQ} {f : Nat → Int32} {a1 a2 : Int32} (hT : qTy S = nI (8 + tn)) (ht : tn ≤ 24) (hn : 64 < n) :
    fx_Q_above_L25 n a1 a2 0 0 (qIo' S f) = some (58, nI (zpc (fun u => !decide (f u = 0)) (8 + tn)), nI (8 + tn), qIo' S f) := by
  unfold fx_Q_above_L25
  refine zl_scan (st := fun k => (nI (zpc (fun u => !decide (f u = 0)) k), nI k, qIo' S f)) (8 + tn) (by omega) (fun k hk => ?_) ?_
  · show st_Q_above_L25 n a1 a2 (nI (zpc (fun u => !decide (f u = 0)) k)) (nI k) (qIo' S f) = _
    unfold st_Q_above_L25
    rw [show qTy (qIo' S f) = nI (8 + tn) from hT, if_neg (nI_ge hk (by omega)), if_neg (by rw [zoob_nI (by omega)]; omega), nI_clamp (by omega), zpc_succ]
    by_cases h : f k = 0
    · rw [if_pos (show qIo (qIo' S f) k = 0 from h), decide_eq_true h, nI_1]
      show some (Sum.inl (nI (zpc (fun u => !decide (f u = 0)) k) + nI 0, _, _)) = _
      rw [nI_add]
      rfl
    · rw [if_neg (show ¬ qIo (qIo' S f) k = 0 from h), decide_eq_false h, nI_1, nI_1]
      rfl
  · show st_Q_above_L25 n a1 a2 _ (nI (8 + tn)) (qIo' S f) = _
    unfold st_Q_above_L25
    rw [show qTy (qIo' S f) = nI (8 + tn) from hT, if_pos (nI_le (Nat.le_refl _) (by omega))]
theorem o_above (h : zR C Q) (a b : Int32) (hn : 64 < n) : ∃ r C' Q', fx_X_above n C a b = some (r, C') ∧ fx_Q_above n Q a b = some (r, Q') ∧ zR C' Q' := by
  obtain ⟨tn, mn, hT, hM, hK, hX⟩ := id h
  have h24 : tn ≤ 24 := hT.2.2.1.1
  unfold fx_X_above fx_T_tell fx_Q_above
  rw [c_isTold hT.1 h24, zbind_some, b2i_if0, zlet_eq, q_isOwn (show qTy (qTh' Q 0) = nI (8 + tn) from hT.2.1) h24, zbind_some, b2i_if0]
  rcases xO_cases tn a h24 with q | ⟨j, q1, q2, rfl⟩
  · rw [q, if_neg (by decide), if_neg (by decide), zbind_some]
    exact ⟨_, _, _, rfl, rfl, h⟩
  · obtain ⟨f, e, h01, hf⟩ := q_mark (n := n) (S := qTh' Q 0) (t := j) hT.2.1 hT.2.2.1 hT.2.2.2.2.2.2.2.2 q2 hn
    have hz : ¬ zoob (nI j) 32 := by rw [zoob_nI (by omega)]; omega
    have hR : zR C (qIo' (qTh' Q 0) f) := ⟨tn, mn, hT.io h01, hM, hK, hX⟩
    have e3 : zpc (fun u => !decide (f u = 0)) (8 + tn) = zpc (fun u => zbt (tUp C j) u) 32 := by
      have hup := hT.2.2.2.2.2.2.2.1 j q2
      obtain ⟨d, hd⟩ : ∃ d, 32 = 8 + tn + d := ⟨24 - tn, by omega⟩
      rw [hd, zpc_split (fun u => zbt (tUp C j) u) (8 + tn) d, zpc_zero d (fun i hi => ?_), Nat.add_zero]
      · refine zpc_congr _ fun u hu => ?_
        cases hb : zbt (tUp C j) u with
        | true =>
          rw [(hf u (by omega)).mpr ((hup u).mp hb)]
          rfl
        | false =>
          rcases h01 u with q | q
          · rw [q]; rfl
          · rw [(hup u).mpr ((hf u (by omega)).mp q)] at hb
            cases hb
      · cases hb : zbt (tUp C j) (8 + tn + i) with
        | false => rfl
        | true =>
          have := zsub_lt (N := 8 + tn) (fun x y hxy => (zed_in hT.2.2.1 hxy).2) q2 (by omega) ((hup _).mp hb)
          omega
    rw [xO_in h24 q1 q2, if_pos (c := true = true) rfl, if_pos (c := true = true) rfl, e, zbind1_some, q_aboveL (S := qTh' Q 0) hT.2.1 h24 hn, zbL3_some, if_pos (c := 58 = 58) rfl]
    by_cases c0 : b = 0
    · rw [if_pos c0, if_pos c0, if_neg hz, if_neg hz, hT.2.2.2.1]
      by_cases hm : qIf Q (nI j).toNatClampNeg = 0
      · rw [if_pos hm, if_pos (show qIf (qIo' (qTh' Q 0) f) (nI j).toNatClampNeg = 0 from hm), zbind_some]
        exact ⟨_, _, _, rfl, rfl, hR⟩
      · rw [if_neg hm, if_neg (show ¬ qIf (qIo' (qTh' Q 0) f) (nI j).toNatClampNeg = 0 from hm), zbind_some]
        exact ⟨_, _, _, rfl, rfl, hR⟩
    rw [if_neg c0, if_neg c0]
    by_cases c1 : b = 1
    · rw [if_pos c1, if_pos c1, if_neg hz, if_neg hz, hT.2.2.2.2.1, zbind_some]
      exact ⟨_, _, _, rfl, rfl, hR⟩
    rw [if_neg c1, if_neg c1]
    by_cases c2 : b = 2
    · rw [if_pos c2, if_pos c2, if_neg hz, if_neg hz, hT.2.2.2.2.2.1, zbind_some]
      exact ⟨_, _, _, rfl, rfl, hR⟩
    rw [if_neg c2, if_neg c2]
    by_cases c3 : b = 3
    · rw [if_pos c3, if_pos c3, if_neg hz, c_bitCount, zbind1_some, zbind_some, e3, nI_clamp (by omega)]
      exact ⟨_, _, _, rfl, rfl, hR⟩
    rw [if_neg c3, if_neg c3, zbind_some]
    exact ⟨_, _, _, rfl, rfl, hR⟩
theorem c_byteAt (x : Int64) {k : Nat} (hk : k < 8) : fx_X_byteAt n x (nI k) = some (nI (zby x k)) := by
  unfold fx_X_byteAt
  rw [zbyte_u x hk]
theorem q_byteOf (x : Int64) {k : Nat} (hk : k < 8) : fx_Q_byteOf n x (nI k) = some (nI (zby x k)) := by
  unfold fx_Q_byteOf
  rw [zbyte_s x hk]
theorem o_look (h : zR C Q) (a b : Int32) : ∃ r C' Q', fx_X_look n C a b = some (r, C') ∧ fx_Q_look n Q a b = some (r, Q') ∧ zR C' Q' := by
  obtain ⟨tn, mn, hT, hM, hK, hX⟩ := id h
  obtain ⟨m1, m2, m3, m4, m5, m6, m7, m8⟩ := hM
  have hR : zR C (qTh' Q 0) := h
  unfold fx_X_look fx_M_tell fx_Q_look
  rw [zlet_eq, show qMe (qTh' Q 0) = nI mn from m2, m1, m4, m5, m6, m7]
  by_cases h0 : a < 0
  · rw [if_pos h0, if_pos h0, zbind_some]
    exact ⟨_, _, _, rfl, rfl, hR⟩
  rw [if_neg h0, if_neg h0]
  obtain ⟨m, hm, rfl⟩ := nI_of h0
  by_cases hmn : mn ≤ m
  · rw [if_neg (nI_nlt hmn hm), if_pos (nI_le hmn hm), zbind_some]
    exact ⟨_, _, _, rfl, rfl, hR⟩
  have hmn : m < mn := by omega
  have hz : ¬ zoob (nI m) 80 := by rw [zoob_nI (by omega)]; omega
  rw [if_pos (nI_lt hmn (by omega)), if_neg (nI_ge hmn (by omega))]
  by_cases hb : b < 0
  · have n0 : ∀ k : Nat, k < 2 ^ 31 → ¬ b = nI k := fun k hk e => by rw [e] at hb; exact nI_pos hk hb
    rw [if_neg (show ¬ b = 0 from n0 0 (by omega)), if_neg (show ¬ b = 1 from n0 1 (by omega)), if_neg (show ¬ b = 2 from n0 2 (by omega)), if_neg (show ¬ b = 3 from n0 3 (by omega)), if_pos (show b < 4 from by
      have e0 : (0 : Int32).toInt = 0 := by decide
      have e4 : (4 : Int32).toInt = 4 := by decide
      rw [i32_lt] at hb ⊢
      omega), zbind_some, if_neg (show ¬ 0 ≤ b from by
      rw [i32_lt] at hb
      rw [i32_le]
      omega)]
    exact ⟨_, _, _, rfl, rfl, hR⟩
  obtain ⟨w, hw, rfl⟩ := nI_of hb
  rw [if_pos (nI_pos' hw)]
  by_cases w3 : w ≤ 3
  · rw [if_pos (show nI w ≤ 3 from nI_le (b := 3) w3 (by omega))]
    rcases (show w = 0 ∨ w = 1 ∨ w = 2 ∨ w = 3 by omega) with rfl | rfl | rfl | rfl
    · rw [if_pos (show nI 0 = 0 from rfl), if_pos (show nI 0 = 0 from rfl), if_neg hz, if_neg hz, zbind_some]
      exact ⟨_, _, _, rfl, rfl, hR⟩
    · rw [if_neg (show ¬ nI 1 = 0 by decide), if_neg (show ¬ nI 1 = 0 by decide), if_pos (show nI 1 = 1 from rfl), if_pos (show nI 1 = 1 from rfl), if_neg hz, if_neg hz, zbind_some]
      exact ⟨_, _, _, rfl, rfl, hR⟩
    · rw [if_neg (show ¬ nI 2 = 0 by decide), if_neg (show ¬ nI 2 = 0 by decide), if_neg (show ¬ nI 2 = 1 by decide), if_neg (show ¬ nI 2 = 1 by decide), if_pos (show nI 2 = 2 from rfl), if_pos (show nI 2 = 2 from rfl), if_neg hz, if_neg hz, zbind_some]
      exact ⟨_, _, _, rfl, rfl, hR⟩
    · rw [if_neg (show ¬ nI 3 = 0 by decide), if_neg (show ¬ nI 3 = 0 by decide), if_neg (show ¬ nI 3 = 1 by decide), if_neg (show ¬ nI 3 = 1 by decide), if_neg (show ¬ nI 3 = 2 by decide), if_neg (show ¬ nI 3 = 2 by decide), if_pos (show nI 3 = 3 from rfl), if_neg hz, if_neg hz]
      by_cases hv : qVa Q (nI m).toNatClampNeg = 0
      · rw [if_pos hv, if_pos (show qVa (qTh' Q 0) (nI m).toNatClampNeg = 0 from hv), zbind_some]
        exact ⟨_, _, _, rfl, rfl, hR⟩
      · rw [if_neg hv, if_neg (show ¬ qVa (qTh' Q 0) (nI m).toNatClampNeg = 0 from hv), zbind_some]
        exact ⟨_, _, _, rfl, rfl, hR⟩
  · obtain ⟨c, hc, hc4, -, -, -, hp⟩ := m8 m hmn
    have ne : ∀ k : Nat, k < 4 → ¬ nI w = nI k := fun k hk e => by rw [nI_eq hw (by omega)] at e; omega
    have ecm : (nI m).toNatClampNeg = m := nI_clamp (by omega)
    rw [if_neg (show ¬ nI w ≤ 3 from nI_ge (a := 3) (by omega) hw), if_neg (show ¬ nI w = 0 from ne 0 (by omega)), if_neg (show ¬ nI w = 1 from ne 1 (by omega)), if_neg (show ¬ nI w = 2 from ne 2 (by omega)), if_neg (show ¬ nI w = 3 from ne 3 (by omega)), if_neg (show ¬ nI w < 4 from nI_nlt (b := 4) (by omega) (by omega)), if_neg hz, if_neg hz, if_neg hz]
    have e4 : nI w - 4 = nI (w - 4) := pk_sub (show 4 ≤ w by omega)
    rw [e4, show qMa Q (nI m).toNatClampNeg = nI c by rw [ecm]; exact hc, show (4 : Int32) + nI c = nI (4 + c) from nI_add 4 c]
    by_cases hwc : 4 + c ≤ w
    · rw [if_pos (nI_le hwc hw), if_pos (nI_le (by omega) (by omega)), zbind_some]
      exact ⟨_, _, _, rfl, rfl, hR⟩
    · rw [if_neg (nI_ge (by omega) (by omega)), if_neg (nI_ge (by omega) (by omega)), c_byteAt _ (show w - 4 < 8 by omega), zbind1_some, zbind_some]
      have e5 : (4 : Int32) * nI m + nI w - 4 = nI (4 * m + (w - 4)) := by
        rw [nL4, pk_mul, nI_add, pk_sub (by omega)]
        congr 1
        omega
      rw [e5, if_neg (by rw [zoob_nI (by omega)]; omega), nI_clamp (n := 4 * m + (w - 4)) (by omega), show qPa (qTh' Q 0) (4 * m + (w - 4)) = _ from (hp (w - 4) (by omega)).1, ecm]
      exact ⟨_, _, _, rfl, rfl, hR⟩
end
