/-! PURE ROWS: class and reference stand alike -/
def zRT (C : ZC) (Q : ZQ) (tn : Nat) : Prop := tTo C = nI tn ∧ qTy Q = nI (8 + tn) ∧ zWT tn (qAb Q) (qFm Q) (qFa Q) ∧ tFm C = qIf Q ∧ tCa C = qAb Q ∧ tFc C = qFm Q ∧ (∀ t k, k < 24 → tGr C t k = qFa Q (32 * t + k)) ∧ zUP tn (zed tn (qAb Q) (qFm Q) (qFa Q)) (tUp C) ∧ ∀ u, qIo Q u = 0 ∨ qIo Q u = 1
def zMem (C : ZC) (Q : ZQ) (tn m : Nat) : Prop := ∃ c, qMa Q m = nI c ∧ c ≤ 4 ∧ (qVa Q m = 0 ∨ qVa Q m = 1) ∧ (qVa Q m = 1 → 1 ≤ c) ∧ (mPa C m).toBitVec.toNat < 2 ^ (8 * c) ∧ ∀ k, k < c → qPa Q (4 * m + k) = nI (zby (mPa C m) k) ∧ zby (mPa C m) k < 8 + tn
def zRM (C : ZC) (Q : ZQ) (tn mn : Nat) : Prop := mTo C = nI mn ∧ qMe Q = nI mn ∧ mn ≤ 80 ∧ mOw C = qOw Q ∧ mNa C = qNa Q ∧ mSz C = qMa Q ∧ mVa C = qVa Q ∧ ∀ m, m < mn → zMem C Q tn m
def zRK (C : ZC) (Q : ZQ) : Prop := ∃ kn, kHe C = nI kn ∧ qKe Q = nI kn ∧ kn ≤ 100 ∧ kTy C = qKt Q ∧ kNa C = qKn Q ∧ kSz C = qKm Q ∧ kCl C = qKc Q ∧ kOu C = qKa Q
def zRX (C : ZC) (Q : ZQ) : Prop := xWk C = qWo Q ∧ xFk C = qHa Q ∧ hPh C = qPh Q
def zR (C : ZC) (Q : ZQ) : Prop := ∃ tn mn, zRT C Q tn ∧ zRM C Q tn mn ∧ zRK C Q ∧ zRX C Q
theorem zRM.up {C : ZC} {Q : ZQ} {tn tn' mn : Nat} (h : zRM C Q tn mn) (ht : tn ≤ tn') : zRM C Q tn' mn := by
  obtain ⟨h1, h2, h3, h4, h5, h6, h7, h8⟩ := h
  refine ⟨h1, h2, h3, h4, h5, h6, h7, fun m hm => ?_⟩
  obtain ⟨c, a1, a2, a3, a4, a5, a6⟩ := h8 m hm
  exact ⟨c, a1, a2, a3, a4, a5, fun k hk => ⟨(a6 k hk).1, by have := (a6 k hk).2; omega⟩⟩
theorem zneg1 {y : Nat} (hy : y < 2 ^ 31) : ¬ (-1 : Int32) = nI y := fun h => by
  have h9 := congrArg Int32.toInt h
  rw [i32_neg1, nI_toInt hy] at h9
  omega
/-- a type more: what is above what -/
theorem zWT_add {tn : Nat} {ab fc fa : Nat → Int32} {a2 : Int32} (hw : zWT tn ab fc fa) (ht : tn < 24) (ha : a2 = -1 ∨ ∃ j, a2 = nI j ∧ 8 ≤ j ∧ j < 8 + tn) : upd fc (8 + tn) 0 = fc ∧ zWT (tn + 1) (upd ab (8 + tn) a2) fc fa := by
  obtain ⟨h1, h2, h3, h4, h5⟩ := hw
  obtain ⟨c, e, -, hc⟩ := h3 (8 + tn)
  rw [hc (Nat.le_refl _)] at e
  refine ⟨zupd_self e, by omega, fun x hx hx2 => ?_, fun x => ?_, fun x k hk => ?_, h5⟩
  · by_cases ex : x = 8 + tn
    · subst ex
      rw [zupd_at]
      rcases ha with q | ⟨j, q, q1, q2⟩
      · exact Or.inl q
      · exact Or.inr ⟨j, q, q1, q2⟩
    · rw [zupd_ne _ _ ex]
      exact h2 x hx (by omega)
  · obtain ⟨c, a1, a2, a3⟩ := h3 x
    exact ⟨c, a1, a2, fun q => a3 (by omega)⟩
  · obtain ⟨f, a1, a2, a3⟩ := h4 x k hk
    exact ⟨f, a1, a2, by omega⟩
theorem zUP_add {tn : Nat} {ab fc fa up : Nat → Int32} {a2 x : Int32} (hw : zWT tn ab fc fa) (ht : tn < 24) (hu : zUP tn (zed tn ab fc fa) up) (hx : (a2 = -1 ∧ ∀ u, zbt x u = (decide (u = 8 + tn) || decide (u = 7))) ∨ ∃ j, a2 = nI j ∧ 8 ≤ j ∧ j < 8 + tn ∧ ∀ u, zbt x u = ((decide (u = 8 + tn) || decide (u = 7)) || zbt (up j) u)) :
    zUP (tn + 1) (zed (tn + 1) (upd ab (8 + tn) a2) fc fa) (upd up (8 + tn) x) := by
  have hlen : ∀ y, ¬ y ∈ zfl fc fa (8 + tn) := fun y hy => by
    obtain ⟨k, hk, -⟩ := zfl_mem.mp hy
    obtain ⟨c, e, -, hc⟩ := hw.2.2.1 (8 + tn)
    rw [e, hc (Nat.le_refl _)] at hk
    rw [nI_clamp (by omega)] at hk
    omega
  have h1 : ∀ x y, zed tn ab fc fa x y → zed (tn + 1) (upd ab (8 + tn) a2) fc fa x y := fun x y h => by
    obtain ⟨⟨q1, q2⟩, q3⟩ := h
    refine ⟨⟨q1, by omega⟩, ?_⟩
    rw [zupd_ne _ _ (by omega)]
    exact q3
  have h2 : ∀ x y, zed (tn + 1) (upd ab (8 + tn) a2) fc fa x y → x ≠ 8 + tn → zed tn ab fc fa x y := fun x y h hne => by
    obtain ⟨⟨q1, q2⟩, q3⟩ := h
    rw [zupd_ne _ _ hne] at q3
    exact ⟨⟨q1, by omega⟩, q3⟩
  have he : ∀ x y, zed tn ab fc fa x y → y ≠ 8 + tn := fun x y h => by have := zed_in hw h; omega
  intro t htt u
  by_cases et : t = 8 + tn
  · subst et
    rw [zupd_at]
    rcases hx with ⟨q1, q2⟩ | ⟨j, q1, q2, q3, q4⟩
    · have h3 : ∀ y, ¬ zed (tn + 1) (upd ab (8 + tn) a2) fc fa (8 + tn) y := fun y h => by
        rcases h.2 with ⟨a, b⟩ | a
        · rw [zupd_at, q1] at a
          exact zneg1 (by omega) a
        · exact hlen y a
      rw [q2, zsub_new0 (e := zed tn ab fc fa) h3 (fun y h => by have := h.1.1; omega) (by omega)]
      simp
    · have h3 : ∀ y, zed (tn + 1) (upd ab (8 + tn) a2) fc fa (8 + tn) y → y = j := fun y h => by
        rcases h.2 with ⟨a, b⟩ | a
        · rw [zupd_at, q1, nI_eq (by omega) (by omega)] at a
          exact a.symm
        · exact absurd a (hlen y)
      rw [q4, zsub_new h1 h2 h3 ⟨⟨by omega, by omega⟩, Or.inl ⟨by rw [zupd_at]; exact q1, by omega⟩⟩ (fun x y h => ⟨he x y h, zed_lo h⟩) q2 (by omega) (by omega)]
      rw [Bool.or_eq_true, Bool.or_eq_true, decide_eq_true_eq, decide_eq_true_eq, hu j q3 u, or_assoc]
  · rw [zupd_ne _ _ et, hu t (by omega) u]
    exact (zsub_old h1 h2 he et (by omega)).symm
section
variable {n : Nat} {C : ZC} {Q : ZQ} {tn mn : Nat}
theorem o_add {b a2 : Int32} (hb : b = 0 ∨ b = 1) (ht : tn < 24) (ha : a2 = -1 ∨ ∃ j, a2 = nI j ∧ 8 ≤ j ∧ j < 8 + tn) (hT : zRT C Q tn) (hM : zRM C Q tn mn) (hK : zRK C Q) (hX : zRX C Q) :
    ∃ C' Q', fx_T_add n C b a2 = some (nI (8 + tn), C') ∧ fx_Q_add n Q b a2 = some (nI (8 + tn), Q') ∧ zR C' Q' ∧ qTh Q' = qTh Q := by
  obtain ⟨t1, t2, t3, t4, t5, t6, t7, t8, t9⟩ := id hT
  obtain ⟨w1, w2⟩ := zWT_add t3 ht ha
  have ecl : (nI (8 + tn)).toNatClampNeg = 8 + tn := nI_clamp (by omega)
  have hz : ¬ zoob (nI (8 + tn)) 32 := by rw [zoob_nI (by omega)]; omega
  have main : ∀ x : Int32, ((a2 = -1 ∧ ∀ u, zbt x u = (decide (u = 8 + tn) || decide (u = 7))) ∨ ∃ j, a2 = nI j ∧ 8 ≤ j ∧ j < 8 + tn ∧ ∀ u, zbt x u = ((decide (u = 8 + tn) || decide (u = 7)) || zbt (tUp C j) u)) →
      zR (tTo' (tUp' (tCa' (tFm' C (upd (tFm C) (8 + tn) b)) (upd (tCa C) (8 + tn) a2)) (upd (tUp C) (8 + tn) x)) (nI (tn + 1))) (qTy' (qFm' (qAb' (qIf' Q (upd (qIf Q) (8 + tn) b)) (upd (qAb Q) (8 + tn) a2)) (upd (qFm Q) (8 + tn) 0)) (nI (8 + (tn + 1)))) := by
    intro x hx
    rw [w1]
    refine ⟨tn + 1, mn, ⟨rfl, rfl, w2, ?_, ?_, t6, t7, zUP_add t3 ht t8 hx, t9⟩, hM.up (by omega), hK, hX⟩
    · show upd (tFm C) (8 + tn) b = upd (qIf Q) (8 + tn) b
      rw [t4]
    · show upd (tCa C) (8 + tn) a2 = upd (qAb Q) (8 + tn) a2
      rw [t5]
  have eQ : fx_Q_add n Q b a2 = some (nI (8 + tn), qTy' (qFm' (qAb' (qIf' Q (upd (qIf Q) (8 + tn) b)) (upd (qAb Q) (8 + tn) a2)) (upd (qFm Q) (8 + tn) 0)) (nI (8 + (tn + 1)))) := by
    unfold fx_Q_add
    rw [if_neg (by rw [t2]; exact hz), zlet_eq, if_neg (by show ¬ zoob (qTy Q) 32; rw [t2]; exact hz), zlet_eq, if_neg (by show ¬ zoob (qTy Q) 32; rw [t2]; exact hz), zlet_eq, zlet_eq]
    show some (qTy Q + 1 - 1, qTy' (qFm' (qAb' (qIf' Q (upd (qIf Q) (qTy Q).toNatClampNeg (vp_nar .boolean b))) (upd (qAb Q) (qTy Q).toNatClampNeg a2)) (upd (qFm Q) (qTy Q).toNatClampNeg 0)) (qTy Q + 1)) = _
    rw [t2, ecl, vnar01 hb, nI_1, nI_pred]
    rfl
  have hbits : ∀ u, zbt (((1 : Int32) <<< (nI (8 + tn) &&& 31)) ||| ((1 : Int32) <<< (nI 7 &&& 31))) u = (decide (u = 8 + tn) || decide (u = 7)) := fun u => by
    rw [zbt_or, zbt_bit (by omega), zbt_bit (by omega)]
  have eC : fx_T_add n C b a2 = (if xO tn a2 = true then some (nI (8 + tn), tTo' (tUp' (tCa' (tFm' C (upd (tFm C) (8 + tn) b)) (upd (tCa C) (8 + tn) a2)) (upd (tUp C) (8 + tn) ((((1 : Int32) <<< (nI (8 + tn) &&& 31)) ||| ((1 : Int32) <<< (nI 7 &&& 31))) ||| tUp C a2.toNatClampNeg))) (nI (tn + 1))) else some (nI (8 + tn), tTo' (tUp' (tCa' (tFm' C (upd (tFm C) (8 + tn) b)) (upd (tCa C) (8 + tn) a2)) (upd (tUp C) (8 + tn) (((1 : Int32) <<< (nI (8 + tn) &&& 31)) ||| ((1 : Int32) <<< (nI 7 &&& 31))))) (nI (tn + 1)))) := by
    unfold fx_T_add
    have e8 : (8 : Int32) + tTo C = nI (8 + tn) := by rw [t1, nI8]
    rw [e8, if_pos (by rw [nL32]; exact nI_lt (by omega) (by omega)), if_neg hz, zlet_eq, if_neg hz, zlet_eq, c_bit, zbind1_some]
    show zbind1 (fx_T_bit n (nI 7)) _ = _
    rw [c_bit, zbind1_some, if_neg hz, zlet_eq]
    have e1 : ∀ S9 : ZC, tTo S9 = nI tn → fx_T_isTold n S9 a2 = some (b2i (xO tn a2), S9) := fun S9 h => c_isTold h (by omega) a2
    rw [e1]
    · rw [zbind_some, b2i_if0]
      rcases xO_cases tn a2 (by omega) with q | ⟨j, q1, q2, rfl⟩
      · rw [q, if_neg (by decide), if_neg (by decide), zlet_eq, ecl, vnar01 hb]
        show some (nI (8 + tn), tTo' _ (tTo C + 1)) = _
        rw [t1, nI_1]
      · rw [xO_in (by omega) q1 q2, if_pos rfl, if_pos rfl, if_neg hz, if_neg (by rw [zoob_nI (by omega)]; omega), if_neg hz, zlet_eq, zlet_eq, ecl, vnar01 hb]
        show some (nI (8 + tn), tTo' (tUp' _ (upd (upd (tUp C) (8 + tn) _) (8 + tn) (upd (tUp C) (8 + tn) _ (8 + tn) ||| upd (tUp C) (8 + tn) _ (nI j).toNatClampNeg))) (tTo C + 1)) = _
        rw [t1, nI_1, zupd_at, nI_clamp (by omega), zupd_ne _ _ (by omega)]
        have eu : ∀ (f : Nat → Int32) (i : Nat) (x y : Int32), upd (upd f i x) i y = upd f i y := fun f i x y => by
          funext k
          by_cases e : k = i
          · subst e; rw [zupd_at, zupd_at]
          · rw [zupd_ne _ _ e, zupd_ne _ _ e, zupd_ne _ _ e]
        rw [eu]
    · exact t1
  refine ⟨_, _, ?_, eQ, main (if xO tn a2 = true then ((((1 : Int32) <<< (nI (8 + tn) &&& 31)) ||| ((1 : Int32) <<< (nI 7 &&& 31))) ||| tUp C a2.toNatClampNeg) else (((1 : Int32) <<< (nI (8 + tn) &&& 31)) ||| ((1 : Int32) <<< (nI 7 &&& 31)))) ?_, rfl⟩
  · rw [eC]
    split <;> rfl
  · rcases ha with q | ⟨j, q, q1, q2⟩
    · refine Or.inl ⟨q, fun u => ?_⟩
      rw [q, xO_lt (by decide), if_neg (by decide)]
      exact hbits u
    · refine Or.inr ⟨j, q, q1, q2, fun u => ?_⟩
      rw [q, xO_in (by omega) q1 q2, if_pos rfl, zbt_or, hbits u, nI_clamp (by omega)]
end
