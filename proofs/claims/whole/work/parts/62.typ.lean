/-! PURE ROWS: types, class and reference -/
theorem i32_neg1 : (-1 : Int32).toInt = -1 := by decide
theorem xT_neg {tn : Nat} {a : Int32} (h : a < 0) : xT tn a = false := by
  unfold xT
  rw [decide_eq_false_iff_not]
  have := i32_lt.mp h
  have h0 : (0 : Int32).toInt = 0 := by decide
  omega
theorem xT_ge {tn : Nat} {a : Int32} (ht : tn ≤ 24) (h : nI (8 + tn) ≤ a) : xT tn a = false := by
  unfold xT
  rw [decide_eq_false_iff_not]
  have := i32_le.mp h
  rw [nI_toInt (by omega)] at this
  omega
theorem xT_in {tn j : Nat} (ht : tn ≤ 24) (h : j < 8 + tn) : xT tn (nI j) = true := (xT_iff ht).mpr ⟨j, h, rfl⟩
theorem xO_lt {tn : Nat} {a : Int32} (h : a < 8) : xO tn a = false := by
  unfold xO
  rw [decide_eq_false_iff_not]
  have := i32_lt.mp h
  have h0 : (8 : Int32).toInt = 8 := by decide
  omega
theorem xO_ge {tn : Nat} {a : Int32} (ht : tn ≤ 24) (h : nI (8 + tn) ≤ a) : xO tn a = false := by
  unfold xO
  rw [decide_eq_false_iff_not]
  have := i32_le.mp h
  rw [nI_toInt (by omega)] at this
  omega
theorem xO_in {tn j : Nat} (ht : tn ≤ 24) (h8 : 8 ≤ j) (h : j < 8 + tn) : xO tn (nI j) = true := (xO_iff ht).mpr ⟨j, h8, h, rfl⟩
theorem xO_cases (tn : Nat) (a : Int32) (ht : tn ≤ 24) : xO tn a = false ∨ ∃ j, 8 ≤ j ∧ j < 8 + tn ∧ a = nI j := by
  cases h : xO tn a with
  | false => exact Or.inl rfl
  | true => exact Or.inr ((xO_iff ht).mp h)
theorem xT_cases (tn : Nat) (a : Int32) (ht : tn ≤ 24) : xT tn a = false ∨ ∃ j, j < 8 + tn ∧ a = nI j := by
  cases h : xT tn a with
  | false => exact Or.inl rfl
  | true => exact Or.inr ((xT_iff ht).mp h)
theorem xT_ifs {α : Type} {tn : Nat} {a : Int32} (ht : tn ≤ 24) (x y : α) : (if a < 0 then x else if nI (8 + tn) ≤ a then x else y) = if xT tn a = true then y else x := by
  by_cases h1 : a < 0
  · rw [if_pos h1, xT_neg h1]; rfl
  · rw [if_neg h1]
    by_cases h2 : nI (8 + tn) ≤ a
    · rw [if_pos h2, xT_ge ht h2]; rfl
    · obtain ⟨j, hj, rfl⟩ := nI_of h1
      rw [if_neg h2, xT_in ht (by rw [nI_leI (by omega) hj] at h2; omega)]; rfl
theorem xO_ifs {α : Type} {tn : Nat} {a : Int32} (ht : tn ≤ 24) (x y : α) : (if a < 8 then x else if nI (8 + tn) ≤ a then x else y) = if xO tn a = true then y else x := by
  by_cases h1 : a < 8
  · rw [if_pos h1, xO_lt h1]; rfl
  · rw [if_neg h1]
    by_cases h2 : nI (8 + tn) ≤ a
    · rw [if_pos h2, xO_ge ht h2]; rfl
    · have h0 : ¬ a < 0 := by
        have e0 : (0 : Int32).toInt = 0 := by decide
        have e8 : (8 : Int32).toInt = 8 := by decide
        rw [i32_lt] at h1 ⊢
        omega
      obtain ⟨j, hj, rfl⟩ := nI_of h0
      rw [nL8, nI_ltI hj (by omega)] at h1
      rw [if_neg h2, xO_in ht (by omega) (by rw [nI_leI (by omega) hj] at h2; omega)]; rfl
theorem b2i_if {σ : Type} (b : Bool) (S : σ) : (if b = true then some ((1 : Int32), S) else some ((0 : Int32), S)) = some (b2i b, S) := by cases b <;> rfl
theorem b2i_if' {σ : Type} (b : Bool) (S : σ) : (if b2i b = 0 then some ((0 : Int32), S) else some ((1 : Int32), S)) = some (b2i b, S) := by cases b <;> rfl
theorem b2i_if0 {α : Type} (b : Bool) (x y : α) : (if b2i b = 0 then x else y) = if b = true then y else x := by cases b <;> rfl
theorem nI8 (tn : Nat) : (8 : Int32) + nI tn = nI (8 + tn) := nI_add 8 tn
section
variable {n : Nat} {S : ZC} {Q : ZQ} {tn : Nat}
theorem c_exists (hT : tTo S = nI tn) (ht : tn ≤ 24) (a : Int32) : fx_T_exists n S a = some (b2i (xT tn a), S) := by
  unfold fx_T_exists
  rw [hT, nI8, xT_ifs ht, b2i_if]
theorem c_isTold (hT : tTo S = nI tn) (ht : tn ≤ 24) (a : Int32) : fx_T_isTold n S a = some (b2i (xO tn a), S) := by
  unfold fx_T_isTold
  rw [c_exists hT ht, zbind_some, b2i_if0]
  by_cases h1 : a < 8
  · rw [if_pos h1, xO_lt h1]; rfl
  · rw [if_neg h1]
    have e : xT tn a = xO tn a := by
      unfold xT xO
      rw [i32_lt] at h1
      have e8 : (8 : Int32).toInt = 8 := by decide
      apply decide_eq_decide.mpr
      omega
    rw [e, b2i_if]
theorem c_isToldClass (hT : tTo S = nI tn) (ht : tn ≤ 24) (a : Int32) : fx_T_isToldClass n S a = some (b2i (xO tn a && decide (tFm S a.toNatClampNeg = 0)), S) := by
  unfold fx_T_isToldClass
  rw [c_isTold hT ht, zbind_some, b2i_if0]
  rcases xO_cases tn a ht with h | ⟨j, h1, h2, rfl⟩
  · rw [h]; rfl
  · rw [xO_in ht h1 h2, if_pos rfl, if_neg (by rw [zoob_nI (by omega)]; omega), Bool.true_and]
    by_cases h : tFm S (nI j).toNatClampNeg = 0
    · rw [if_pos h, decide_eq_true h]; rfl
    · rw [if_neg h, decide_eq_false h]; rfl
theorem c_isToldFace (hT : tTo S = nI tn) (ht : tn ≤ 24) (a : Int32) : fx_T_isToldFace n S a = some (b2i (xO tn a && !decide (tFm S a.toNatClampNeg = 0)), S) := by
  unfold fx_T_isToldFace
  rw [c_isTold hT ht, zbind_some, b2i_if0]
  rcases xO_cases tn a ht with h | ⟨j, h1, h2, rfl⟩
  · rw [h]; rfl
  · rw [xO_in ht h1 h2, if_pos rfl, if_neg (by rw [zoob_nI (by omega)]; omega), Bool.true_and]
    by_cases h : tFm S (nI j).toNatClampNeg = 0
    · rw [if_pos h, decide_eq_true h]; rfl
    · rw [if_neg h, decide_eq_false h]; rfl
theorem c_isFull (hT : tTo S = nI tn) (ht : tn ≤ 24) : fx_T_isFull n S = some (b2i (decide (24 ≤ tn)), S) := by
  unfold fx_T_isFull
  rw [hT, nL24]
  by_cases h : tn < 24
  · rw [if_pos (nI_lt h (by omega)), decide_eq_false (by omega)]; rfl
  · rw [if_neg (nI_nlt (by omega) (by omega)), decide_eq_true (by omega)]; rfl
theorem c_bit (u : Nat) : fx_T_bit n (nI u) = some ((1 : Int32) <<< (nI u &&& 31)) := rfl
theorem c_isSub (hT : tTo S = nI tn) (ht : tn ≤ 24) (a b : Int32) : fx_T_isSubtype n S a b = some (b2i (xT tn a && (xT tn b && zbt (tUp S a.toNatClampNeg) b.toNatClampNeg)), S) := by
  unfold fx_T_isSubtype
  rw [c_exists hT ht, zbind_some, b2i_if0]
  rcases xT_cases tn a ht with h | ⟨j, h2, rfl⟩
  · rw [h]; rfl
  · rw [xT_in ht h2, if_pos rfl, c_exists hT ht, zbind_some, b2i_if0, Bool.true_and]
    rcases xT_cases tn b ht with h | ⟨u, h4, rfl⟩
    · rw [h]; rfl
    · rw [xT_in ht h4, if_pos rfl, if_neg (by rw [zoob_nI (by omega)]; omega), c_bit, zbind1_some, Bool.true_and, nI_clamp (n := u) (by omega)]
      cases h : zbt (tUp S (nI j).toNatClampNeg) u with
      | false => rw [if_pos ((zbt_and0 _ (by omega)).mpr h)]; rfl
      | true => rw [if_neg (fun q => by rw [(zbt_and0 _ (by omega)).mp q] at h; cases h)]; rfl
theorem c_isSubN (hT : tTo S = nI tn) (ht : tn ≤ 24) {a b : Nat} (ha : a < 8 + tn) (hb : b < 8 + tn) : fx_T_isSubtype n S (nI a) (nI b) = some (b2i (zbt (tUp S a) b), S) := by
  rw [c_isSub hT ht, xT_in ht ha, xT_in ht hb, nI_clamp (by omega), nI_clamp (by omega)]; rfl
theorem q_isOwn (hT : qTy Q = nI (8 + tn)) (ht : tn ≤ 24) (a : Int32) : fx_Q_isOwn n Q a = some (b2i (xO tn a), Q) := by
  unfold fx_Q_isOwn
  rw [hT, xO_ifs ht, b2i_if]
theorem q_isType (hT : qTy Q = nI (8 + tn)) (ht : tn ≤ 24) (a : Int32) : fx_Q_isType n Q a = some (b2i (xT tn a), Q) := by
  unfold fx_Q_isType
  rw [hT, xT_ifs ht, b2i_if]
end
/-! what is above what -/
def zfl (fc fa : Nat → Int32) (t : Nat) : List Nat := (List.range (fc t).toNatClampNeg).map (fun k => (fa (32 * t + k)).toNatClampNeg)
def zed (tn : Nat) (ab fc fa : Nat → Int32) (x y : Nat) : Prop := (8 ≤ x ∧ x < 8 + tn) ∧ ((ab x = nI y ∧ y < 32) ∨ y ∈ zfl fc fa x)
def zWT (tn : Nat) (ab fc fa : Nat → Int32) : Prop := tn ≤ 24 ∧ (∀ x, 8 ≤ x → x < 8 + tn → ab x = -1 ∨ ∃ a, ab x = nI a ∧ 8 ≤ a ∧ a < x) ∧ (∀ x, ∃ c, fc x = nI c ∧ c ≤ 24 ∧ (8 + tn ≤ x → c = 0)) ∧ (∀ x k, k < (fc x).toNatClampNeg → ∃ f, fa (32 * x + k) = nI f ∧ 8 ≤ f ∧ f < 8 + tn) ∧ ∀ x, (zfl fc fa x).Nodup
theorem zfl_mem {fc fa : Nat → Int32} {t y : Nat} : y ∈ zfl fc fa t ↔ ∃ k, k < (fc t).toNatClampNeg ∧ (fa (32 * t + k)).toNatClampNeg = y := by
  unfold zfl
  rw [List.mem_map]
  constructor
  · rintro ⟨k, h1, h2⟩; exact ⟨k, List.mem_range.mp h1, h2⟩
  · rintro ⟨k, h1, h2⟩; exact ⟨k, List.mem_range.mpr h1, h2⟩
theorem zfl_len {fc fa : Nat → Int32} {t : Nat} : (zfl fc fa t).length = (fc t).toNatClampNeg := by
  unfold zfl
  rw [List.length_map, List.length_range]
theorem zfl_get {fc fa : Nat → Int32} {t k : Nat} (h : k < (fc t).toNatClampNeg) : (zfl fc fa t)[k]? = some (fa (32 * t + k)).toNatClampNeg := by
  unfold zfl
  rw [List.getElem?_map, List.getElem?_range h]; rfl
theorem zfl_in {tn : Nat} {ab fc fa : Nat → Int32} (h : zWT tn ab fc fa) {t y : Nat} (hy : y ∈ zfl fc fa t) : 8 ≤ y ∧ y < 8 + tn := by
  obtain ⟨k, h1, rfl⟩ := zfl_mem.mp hy
  obtain ⟨f, e, h2, h3⟩ := h.2.2.2.1 t k h1
  have := h.1
  rw [e, nI_clamp (by omega)]
  exact ⟨h2, h3⟩
theorem zed_lo {tn : Nat} {ab fc fa : Nat → Int32} {x y : Nat} (h : zed tn ab fc fa x y) : 8 ≤ x := h.1.1
theorem zed_in {tn : Nat} {ab fc fa : Nat → Int32} (hw : zWT tn ab fc fa) {x y : Nat} (h : zed tn ab fc fa x y) : 8 ≤ y ∧ y < 8 + tn := by
  obtain ⟨⟨h1, h2⟩, h3 | h3⟩ := h
  · have := hw.1
    rcases hw.2.1 x h1 h2 with e | ⟨a, e, h4, h5⟩
    · rw [e] at h3
      have h9 := congrArg Int32.toInt h3.1
      rw [i32_neg1, nI_toInt (by omega)] at h9
      omega
    · rw [e, nI_eq (by omega) (by omega)] at h3
      omega
  · exact zfl_in hw h3
