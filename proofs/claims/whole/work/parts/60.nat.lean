/-! PURE ROWS: numbers, subtypes as a closure, the line of types by a pile -/
def b2i (b : Bool) : Int32 := if b = true then 1 else 0
theorem b2i_0 (b : Bool) : b2i b = 0 ↔ b = false := by cases b <;> decide
theorem b2i_1 (b : Bool) : b2i b = 1 ↔ b = true := by cases b <;> decide
theorem b2i_01 (b : Bool) : b2i b = 0 ∨ b2i b = 1 := by cases b <;> decide
theorem i32_lt {a b : Int32} : a < b ↔ a.toInt < b.toInt := Int32.lt_iff_toInt_lt
theorem i32_le {a b : Int32} : a ≤ b ↔ a.toInt ≤ b.toInt := Int32.le_iff_toInt_le
/-- a type's number is one of those that exist, one of those that are told -/
def xT (tn : Nat) (a : Int32) : Bool := decide (0 ≤ a.toInt ∧ a.toInt < 8 + (tn : Int))
def xO (tn : Nat) (a : Int32) : Bool := decide (8 ≤ a.toInt ∧ a.toInt < 8 + (tn : Int))
theorem xT_iff {tn : Nat} {a : Int32} (h : tn ≤ 24) : xT tn a = true ↔ ∃ j : Nat, j < 8 + tn ∧ a = nI j := by
  unfold xT
  rw [decide_eq_true_eq]
  constructor
  · rintro ⟨h1, h2⟩
    have hn : ¬ a < 0 := by rw [i32_lt]; exact Int.not_lt.mpr h1
    obtain ⟨j, hj, rfl⟩ := nI_of hn
    rw [nI_toInt hj] at h2
    exact ⟨j, by omega, rfl⟩
  · rintro ⟨j, hj, rfl⟩
    rw [nI_toInt (by omega)]
    omega
theorem xO_iff {tn : Nat} {a : Int32} (h : tn ≤ 24) : xO tn a = true ↔ ∃ j : Nat, 8 ≤ j ∧ j < 8 + tn ∧ a = nI j := by
  unfold xO
  rw [decide_eq_true_eq]
  constructor
  · rintro ⟨h1, h2⟩
    have hn : ¬ a < 0 := by rw [i32_lt]; show ¬ a.toInt < 0; omega
    obtain ⟨j, hj, rfl⟩ := nI_of hn
    rw [nI_toInt hj] at h1 h2
    exact ⟨j, by omega, by omega, rfl⟩
  · rintro ⟨j, hj, hj2, rfl⟩
    rw [nI_toInt (by omega)]
    omega
/-! the closure -/
def zsub (e : Nat → Nat → Prop) (t u : Nat) : Prop := ∀ P : Nat → Prop, P t → (t = 0 → P 1) → (2 < t → P 7) → (∀ x y, P x → e x y → P y) → P u
theorem zsub_rf {e : Nat → Nat → Prop} {t : Nat} : zsub e t t := fun _ h _ _ _ => h
theorem zsub_long {e : Nat → Nat → Prop} : zsub e 0 1 := fun _ _ h _ _ => h rfl
theorem zsub_any {e : Nat → Nat → Prop} {t : Nat} (h : 2 < t) : zsub e t 7 := fun _ _ _ q _ => q h
theorem zsub_step {e : Nat → Nat → Prop} {t x y : Nat} (h : zsub e t x) (hxy : e x y) : zsub e t y := fun P a b c d => d x y (h P a b c d) hxy
theorem zsub_mono {e e' : Nat → Nat → Prop} {t u : Nat} (h : ∀ x y, e x y → e' x y) (q : zsub e t u) : zsub e' t u := fun P a b c d => q P a b c fun x y hx hxy => d x y hx (h x y hxy)
theorem zsub_lt {e : Nat → Nat → Prop} {t u N : Nat} (he : ∀ x y, e x y → y < N) (ht : t < N) (hN : 8 ≤ N) (h : zsub e t u) : u < N := h (fun q => q < N) ht (fun _ => by omega) (fun _ => by omega) fun x y _ hxy => he x y hxy
theorem zsub_prim {e : Nat → Nat → Prop} {t u : Nat} (he : ∀ x y, e x y → 8 ≤ x) (ht : t ≤ 2) (h : zsub e t u) : u ≤ 2 := h (fun q => q ≤ 2) ht (fun _ => by omega) (fun _ => by omega) fun x y hx hxy => by have := he x y hxy; omega
theorem zsub_join {e : Nat → Nat → Prop} {a f t u : Nat} (he : ∀ x y, e x y → 8 ≤ x) (ha : 8 ≤ a) (hf : 8 ≤ f) : zsub (fun x y => e x y ∨ (x = a ∧ y = f)) t u ↔ zsub e t u ∨ (zsub e t a ∧ zsub e f u) := by
  constructor
  · intro h
    refine h (fun u => zsub e t u ∨ (zsub e t a ∧ zsub e f u)) (Or.inl zsub_rf) (fun q => Or.inl (by subst q; exact zsub_long)) (fun q => Or.inl (zsub_any q)) ?_
    intro x y hx hxy
    rcases hxy with hxy | ⟨rfl, rfl⟩
    · rcases hx with hx | ⟨h1, h2⟩
      · exact Or.inl (zsub_step hx hxy)
      · exact Or.inr ⟨h1, zsub_step h2 hxy⟩
    · rcases hx with hx | ⟨h1, _⟩
      · exact Or.inr ⟨hx, zsub_rf⟩
      · exact Or.inr ⟨h1, zsub_rf⟩
  · rintro (h | ⟨h1, h2⟩)
    · exact zsub_mono (fun x y q => Or.inl q) h
    · intro P pt p1 p7 hc
      have pa : P a := h1 P pt p1 p7 fun x y hx hxy => hc x y hx (Or.inl hxy)
      have pf : P f := hc a f pa (Or.inr ⟨rfl, rfl⟩)
      have ht : 2 < t := by
        rcases Nat.lt_or_ge 2 t with q | q
        · exact q
        · have := zsub_prim he q h1
          omega
      exact h2 P pf (fun q => by omega) (fun _ => p7 ht) fun x y hx hxy => hc x y hx (Or.inl hxy)
theorem zsub_ne {e : Nat → Nat → Prop} {t u w : Nat} (he : ∀ x y, e x y → y ≠ w) (ht : t ≠ w) (hw : 8 ≤ w) (h : zsub e t u) : u ≠ w := h (fun q => q ≠ w) ht (fun _ => by omega) (fun _ => by omega) fun x y _ hxy => he x y hxy
/-- a new type w: from an old one nothing changes -/
theorem zsub_old {e e' : Nat → Nat → Prop} {t u w : Nat} (h1 : ∀ x y, e x y → e' x y) (h2 : ∀ x y, e' x y → x ≠ w → e x y) (he : ∀ x y, e x y → y ≠ w) (ht : t ≠ w) (hw : 8 ≤ w) : zsub e' t u ↔ zsub e t u := by
  constructor
  · intro h
    refine (h (fun u => zsub e t u) zsub_rf (fun q => by subst q; exact zsub_long) zsub_any ?_)
    intro x y hx hxy
    exact zsub_step hx (h2 x y hxy (zsub_ne he ht hw hx))
  · exact zsub_mono h1
/-- a new type w, under a -/
theorem zsub_new {e e' : Nat → Nat → Prop} {u w a : Nat} (h1 : ∀ x y, e x y → e' x y) (h2 : ∀ x y, e' x y → x ≠ w → e x y) (h3 : ∀ y, e' w y → y = a) (h4 : e' w a) (he : ∀ x y, e x y → y ≠ w ∧ 8 ≤ x) (ha : 8 ≤ a) (haw : a ≠ w) (hw : 8 ≤ w) : zsub e' w u ↔ u = w ∨ u = 7 ∨ zsub e a u := by
  constructor
  · intro h
    refine h (fun u => u = w ∨ u = 7 ∨ zsub e a u) (Or.inl rfl) (fun q => by omega) (fun _ => Or.inr (Or.inl rfl)) ?_
    intro x y hx hxy
    by_cases hxw : x = w
    · subst hxw
      rw [h3 y hxy]
      exact Or.inr (Or.inr zsub_rf)
    · have q := h2 x y hxy hxw
      rcases hx with hx | hx | hx
      · exact absurd hx hxw
      · subst hx
        have := (he _ _ q).2
        omega
      · exact Or.inr (Or.inr (zsub_step hx q))
  · rintro (rfl | rfl | h)
    · exact zsub_rf
    · exact zsub_any (by omega)
    · intro P pw p1 p7 hc
      exact h P (hc w a pw h4) (fun q => by omega) (fun _ => p7 (by omega)) fun x y hx hxy => hc x y hx (h1 x y hxy)
/-- a new type w, under none -/
theorem zsub_new0 {e e' : Nat → Nat → Prop} {u w : Nat} (h3 : ∀ y, ¬ e' w y) (h5 : ∀ y, ¬ e' 7 y) (hw : 8 ≤ w) : zsub e' w u ↔ u = w ∨ u = 7 := by
  constructor
  · intro h
    refine h (fun u => u = w ∨ u = 7) (Or.inl rfl) (fun q => by omega) (fun _ => Or.inr rfl) ?_
    intro x y hx hxy
    rcases hx with rfl | rfl
    · exact absurd hxy (h3 y)
    · exact absurd hxy (h5 y)
  · rintro (rfl | rfl)
    · exact zsub_rf
    · exact zsub_any (by omega)
/-! bits -/
theorem zb_sh : ∀ u, u < 32 → ((1 : Int32) <<< (nI u &&& 31)).toBitVec = BitVec.twoPow 32 u := by decide +kernel
def zbt (x : Int32) (u : Nat) : Bool := x.toBitVec.getLsbD u
theorem zbt_or (x y : Int32) (u : Nat) : zbt (x ||| y) u = (zbt x u || zbt y u) := by
  unfold zbt
  rw [Int32.toBitVec_or, BitVec.getLsbD_or]
theorem zbt_bit {v u : Nat} (hv : v < 32) : zbt ((1 : Int32) <<< (nI v &&& 31)) u = decide (u = v) := by
  unfold zbt
  rw [zb_sh v hv, BitVec.getLsbD_twoPow]
  by_cases h : u = v
  · subst h; simp [hv]
  · have : ¬ v = u := fun q => h q.symm
    simp [h, this]
theorem zbt_and0 (x : Int32) {u : Nat} (hu : u < 32) : (x &&& ((1 : Int32) <<< (nI u &&& 31))) = 0 ↔ zbt x u = false := by
  constructor
  · intro h
    have h1 : zbt (x &&& ((1 : Int32) <<< (nI u &&& 31))) u = false := by rw [h]; unfold zbt; simp
    unfold zbt at h1 ⊢
    rw [Int32.toBitVec_and, BitVec.getLsbD_and, zb_sh u hu, BitVec.getLsbD_twoPow] at h1
    simpa [hu] using h1
  · intro h
    apply Int32.toBitVec_inj.mp
    rw [Int32.toBitVec_and, zb_sh u hu]
    apply BitVec.eq_of_getLsbD_eq
    intro i hi
    rw [BitVec.getLsbD_and, BitVec.getLsbD_twoPow]
    unfold zbt at h
    by_cases e : u = i
    · subst e; simp [h]
    · simp [e]
theorem zbt_ge {x : Int32} {u : Nat} (h : 32 ≤ u) : zbt x u = false := by
  unfold zbt
  exact BitVec.getLsbD_of_ge _ _ h
/-! the line by a pile: n steps at the most -/
def zstk (fl : Nat → List Nat) : Nat → List Nat → List Nat → Option (List Nat)
  | 0, _, _ => none
  | n + 1, pile, L => match pile with
    | [] => some L
    | f :: rest => if f ∈ L then zstk fl n rest L else zstk fl n (fl f ++ rest) (L ++ [f])
theorem zstk_nil (fl : Nat → List Nat) (n : Nat) (L : List Nat) : zstk fl (n + 1) [] L = some L := rfl
theorem zstk_cons (fl : Nat → List Nat) (n f : Nat) (rest L : List Nat) : zstk fl (n + 1) (f :: rest) L = if f ∈ L then zstk fl n rest L else zstk fl n (fl f ++ rest) (L ++ [f]) := rfl
theorem zstk_succ {fl : Nat → List Nat} : ∀ {n : Nat} {p L R : List Nat}, zstk fl n p L = some R → zstk fl (n + 1) p L = some R := by
  intro n
  induction n with
  | zero => intro p L R h; cases h
  | succ n ih =>
    intro p L R h
    cases p with
    | nil => exact h
    | cons f rest =>
      rw [zstk_cons] at h ⊢
      split
      · rename_i hf; rw [if_pos hf] at h; exact ih h
      · rename_i hf; rw [if_neg hf] at h; exact ih h
theorem zstk_le {fl : Nat → List Nat} {n k : Nat} {p L R : List Nat} (hk : n ≤ k) (h : zstk fl n p L = some R) : zstk fl k p L = some R := by
  induction k with
  | zero => rw [Nat.le_zero.mp hk] at h; exact h
  | succ k ih =>
    rcases Nat.lt_or_ge n (k + 1) with q | q
    · exact zstk_succ (ih (by omega))
    · rw [show k + 1 = n by omega]; exact h
def zST (fl : Nat → List Nat) (p L R : List Nat) : Prop := ∃ n, zstk fl n p L = some R
theorem zST_nil {fl : Nat → List Nat} {L : List Nat} : zST fl [] L L := ⟨1, rfl⟩
theorem zST_in {fl : Nat → List Nat} {f : Nat} {rest L R : List Nat} (hf : f ∈ L) : zST fl (f :: rest) L R ↔ zST fl rest L R := by
  constructor
  · rintro ⟨n, h⟩
    cases n with
    | zero => cases h
    | succ n => rw [zstk_cons, if_pos hf] at h; exact ⟨n, h⟩
  · rintro ⟨n, h⟩
    exact ⟨n + 1, by rw [zstk_cons, if_pos hf]; exact h⟩
theorem zST_out {fl : Nat → List Nat} {f : Nat} {rest L R : List Nat} (hf : f ∉ L) : zST fl (f :: rest) L R ↔ zST fl (fl f ++ rest) (L ++ [f]) R := by
  constructor
  · rintro ⟨n, h⟩
    cases n with
    | zero => cases h
    | succ n => rw [zstk_cons, if_neg hf] at h; exact ⟨n, h⟩
  · rintro ⟨n, h⟩
    exact ⟨n + 1, by rw [zstk_cons, if_neg hf]; exact h⟩
theorem zST_det {fl : Nat → List Nat} {p L R R' : List Nat} (h : zST fl p L R) (h' : zST fl p L R') : R = R' := by
  obtain ⟨n, h⟩ := h
  obtain ⟨k, h'⟩ := h'
  have a := zstk_le (Nat.le_max_left n k) h
  have b := zstk_le (Nat.le_max_right n k) h'
  exact Option.some.inj (a.symm.trans b)
theorem zST_allin {fl : Nat → List Nat} {p rest L R : List Nat} (h : ∀ f ∈ p, f ∈ L) : zST fl (p ++ rest) L R ↔ zST fl rest L R := by
  induction p with
  | nil => exact Iff.rfl
  | cons f p ih =>
    rw [List.cons_append, zST_in (h f List.mem_cons_self)]
    exact ih fun g hg => h g (List.mem_cons_of_mem _ hg)
/-! PURE ROWS: counters, loops -/
theorem zoob_nI {k N : Nat} (h : k < 2 ^ 31) : zoob (nI k) N ↔ N ≤ k := by
  unfold zoob
  rw [nI_clamp h]
  constructor
  · rintro (q | q)
    · exact absurd q (nI_pos h)
    · exact q
  · exact Or.inr
theorem nL0 : (0 : Int32) = nI 0 := rfl
theorem nL1 : (1 : Int32) = nI 1 := rfl
theorem nL2 : (2 : Int32) = nI 2 := rfl
theorem nL3 : (3 : Int32) = nI 3 := rfl
theorem nL4 : (4 : Int32) = nI 4 := rfl
theorem nL5 : (5 : Int32) = nI 5 := rfl
theorem nL6 : (6 : Int32) = nI 6 := rfl
theorem nL7 : (7 : Int32) = nI 7 := rfl
theorem nL8 : (8 : Int32) = nI 8 := rfl
theorem nL10 : (10 : Int32) = nI 10 := rfl
theorem nL24 : (24 : Int32) = nI 24 := rfl
theorem nL32 : (32 : Int32) = nI 32 := rfl
theorem nL80 : (80 : Int32) = nI 80 := rfl
theorem nL100 : (100 : Int32) = nI 100 := rfl
theorem nL255 : (255 : Int32) = nI 255 := rfl
theorem nL15 : (15 : Int32) = nI 15 := rfl
theorem b2i_t : b2i true = nI 1 := rfl
theorem b2i_f : b2i false = nI 0 := rfl
theorem vnar1 : vp_nar .boolean (1 : Int32) = 1 := rfl
theorem vnar0 : vp_nar .boolean (0 : Int32) = 0 := rfl
theorem vnar01 {x : Int32} (h : x = 0 ∨ x = 1) : vp_nar .boolean x = x := by rcases h with rfl | rfl <;> rfl
theorem zlet_eq {α β : Type} (x : α) (f : α → Option β) : zlet x f = f x := rfl
theorem zbind_some {α β γ : Type} (a : α) (b : β) (f : α → β → Option γ) : zbind (some (a, b)) f = f a b := rfl
theorem zbind1_some {α γ : Type} (a : α) (f : α → Option γ) : zbind1 (some a) f = f a := rfl
theorem zbL0_some {γ : Type} (x : Nat) (u : Unit) (f : Nat → Option γ) : zbL0 (some (x, u)) f = f x := rfl
theorem zbL1_some {α γ : Type} (x : Nat) (a : α) (f : Nat → α → Option γ) : zbL1 (some (x, a)) f = f x a := rfl
theorem zbL2_some {α β γ : Type} (x : Nat) (a : α) (b : β) (f : Nat → α → β → Option γ) : zbL2 (some (x, a, b)) f = f x a b := rfl
theorem zbL3_some {α β δ γ : Type} (x : Nat) (a : α) (b : β) (d : δ) (f : Nat → α → β → δ → Option γ) : zbL3 (some (x, a, b, d)) f = f x a b d := rfl
theorem zbL4_some {α β δ ε γ : Type} (x : Nat) (a : α) (b : β) (d : δ) (e : ε) (f : Nat → α → β → δ → ε → Option γ) : zbL4 (some (x, a, b, d, e)) f = f x a b d e := rfl
theorem zbL5_some {α β δ ε ζ γ : Type} (x : Nat) (a : α) (b : β) (d : δ) (e : ε) (g : ζ) (f : Nat → α → β → δ → ε → ζ → Option γ) : zbL5 (some (x, a, b, d, e, g)) f = f x a b d e g := rfl
theorem zbL3x_some {α β γ δ : Type} (a : α) (b : β) (c : γ) (f : α → β → γ → Option δ) : zbL3x (some (a, b, c)) f = f a b c := rfl
/-- a loop that goes K times, then ends -/
theorem zl_scan {σ ρ : Type} {step : σ → Option (σ ⊕ ρ)} {r : ρ} (st : Nat → σ) (K : Nat) : ∀ {n : Nat}, K < n → (∀ k, k < K → step (st k) = some (.inl (st (k + 1)))) → step (st K) = some (.inr r) → zloop step n (st 0) = some r := by
  suffices h : ∀ (d k n : Nat), k + d = K → d < n → (∀ k, k < K → step (st k) = some (.inl (st (k + 1)))) → step (st K) = some (.inr r) → zloop step n (st k) = some r by
    intro n hn h1 h2
    exact h K 0 n (by omega) hn h1 h2
  intro d
  induction d with
  | zero =>
    intro k n hk hn h1 h2
    have : k = K := by omega
    subst this
    cases n with
    | zero => omega
    | succ n => rw [zloop_succ, h2]
  | succ d ih =>
    intro k n hk hn h1 h2
    cases n with
    | zero => omega
    | succ n =>
      rw [zloop_succ, h1 k (by omega)]
      exact ih (k + 1) n (by omega) (by omega) h1 h2
/-- the first place where something holds -/
theorem zl_first (P : Nat → Bool) (N : Nat) : (∃ k, k < N ∧ P k = true ∧ ∀ j, j < k → P j = false) ∨ ∀ k, k < N → P k = false := by
  induction N with
  | zero => exact Or.inr fun k h => by omega
  | succ N ih =>
    rcases ih with ⟨k, h1, h2, h3⟩ | h
    · exact Or.inl ⟨k, by omega, h2, h3⟩
    · cases hN : P N with
      | true => exact Or.inl ⟨N, by omega, hN, h⟩
      | false =>
        refine Or.inr fun k hk => ?_
        rcases Nat.lt_or_ge k N with q | q
        · exact h k q
        · rw [show k = N by omega]; exact hN
def zany (P : Nat → Bool) : Nat → Bool
  | 0 => false
  | N + 1 => zany P N || P N
theorem zany_iff {P : Nat → Bool} {N : Nat} : zany P N = true ↔ ∃ k, k < N ∧ P k = true := by
  induction N with
  | zero => simp [zany]
  | succ N ih =>
    rw [zany, Bool.or_eq_true, ih]
    constructor
    · rintro (⟨k, h1, h2⟩ | h)
      · exact ⟨k, by omega, h2⟩
      · exact ⟨N, by omega, h⟩
    · rintro ⟨k, h1, h2⟩
      rcases Nat.lt_or_ge k N with q | q
      · exact Or.inl ⟨k, q, h2⟩
      · rw [show k = N by omega] at h2; exact Or.inr h2
theorem zany_f {P : Nat → Bool} {N : Nat} (h : ∀ k, k < N → P k = false) : zany P N = false := by
  cases e : zany P N with
  | false => rfl
  | true =>
    obtain ⟨k, h1, h2⟩ := zany_iff.mp e
    rw [h k h1] at h2
    cases h2
theorem zany_t {P : Nat → Bool} {N k : Nat} (hk : k < N) (h : P k = true) : zany P N = true := zany_iff.mpr ⟨k, hk, h⟩
theorem zany_congr {P Q : Nat → Bool} {N : Nat} (h : ∀ k, k < N → P k = Q k) : zany P N = zany Q N := by
  induction N with
  | zero => rfl
  | succ N ih => rw [zany, zany, ih fun k hk => h k (by omega), h N (by omega)]
def zall (P : Nat → Bool) (N : Nat) : Bool := !(zany (fun k => !(P k)) N)
theorem zall_iff {P : Nat → Bool} {N : Nat} : zall P N = true ↔ ∀ k, k < N → P k = true := by
  unfold zall
  rw [Bool.not_eq_true', ← Bool.not_eq_true, zany_iff]
  constructor
  · intro h k hk
    cases e : P k with
    | true => rfl
    | false => exact absurd ⟨k, hk, by rw [e]; rfl⟩ h
  · rintro h ⟨k, hk, q⟩
    rw [h k hk] at q
    cases q
theorem zall_f {P : Nat → Bool} {N k : Nat} (hk : k < N) (h : P k = false) : zall P N = false := by
  cases e : zall P N with
  | false => rfl
  | true => rw [zall_iff.mp e k hk] at h; cases h
theorem zall_congr {P Q : Nat → Bool} {N : Nat} (h : ∀ k, k < N → P k = Q k) : zall P N = zall Q N := by
  unfold zall
  rw [zany_congr fun k hk => by rw [h k hk]]
/-- pigeons -/
theorem z_pig : ∀ (N : Nat) (l : List Nat), l.Nodup → (∀ x ∈ l, x < N) → l.length ≤ N := by
  intro N
  induction N with
  | zero =>
    intro l _ h
    cases l with
    | nil => exact Nat.le_refl _
    | cons x l => exact absurd (h x List.mem_cons_self) (Nat.not_lt_zero _)
  | succ N ih =>
    intro l hn h
    by_cases hm : N ∈ l
    · have h1 := ih (l.erase N) (hn.erase N) (fun x hx => by
        have hx1 : x ∈ l := List.mem_of_mem_erase hx
        have h2 := h x hx1
        have h3 : x ≠ N := fun q => by
          subst q
          exact (List.Nodup.not_mem_erase hn) hx
        omega)
      rw [List.length_erase_of_mem hm] at h1
      omega
    · have := ih l hn fun x hx => by
        have h2 := h x hx
        have h3 : x ≠ N := fun q => by subst q; exact hm hx
        omega
      omega
theorem z_pig2 {a N : Nat} {l : List Nat} (hn : l.Nodup) (h : ∀ x ∈ l, a ≤ x ∧ x < a + N) : l.length ≤ N := by
  have h1 : (l.map (fun x => x - a)).Nodup := by
    unfold List.Nodup at hn ⊢
    rw [List.pairwise_map]
    exact hn.imp_of_mem fun {x y} hx hy q => by
      have := h x hx
      have := h y hy
      omega
  have h2 := z_pig N _ h1 (fun x hx => by
    obtain ⟨y, hy, rfl⟩ := List.mem_map.mp hx
    have := h y hy
    omega)
  rw [List.length_map] at h2
  exact h2
/-- as many as there are: each is there -/
theorem z_pig3 {a N : Nat} {l : List Nat} (hn : l.Nodup) (h : ∀ x ∈ l, a ≤ x ∧ x < a + N) (hl : N ≤ l.length) {y : Nat} (h1 : a ≤ y) (h2 : y < a + N) : y ∈ l := by
  apply Classical.byContradiction
  intro hy
  have := z_pig2 (l := y :: l) (List.nodup_cons.mpr ⟨hy, hn⟩) (fun x hx => by
    rcases List.mem_cons.mp hx with rfl | hx
    · exact ⟨h1, h2⟩
    · exact h x hx)
  rw [List.length_cons] at this
  omega
