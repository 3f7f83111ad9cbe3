/-! OWN LAYER: a method's contract as an equation of the function that a program read off its bytecode ('fx_..'); none stands for what is out of range or has no end. -/
abbrev zoob (i : Int32) (n : Nat) : Prop := i < 0 ∨ n ≤ i.toNatClampNeg
def zlet {α β : Type} (x : α) (f : α → Option β) : Option β := f x
def zbind {α β γ : Type} (o : Option (α × β)) (f : α → β → Option γ) : Option γ := match o with
  | none => none
  | some (a, b) => f a b
def zbind1 {α γ : Type} (o : Option α) (f : α → Option γ) : Option γ := match o with
  | none => none
  | some a => f a
theorem zz_let {α β : Type} {x : α} {f : α → Option β} {y : β} (h : zlet x f = some y) : ∃ z, z = x ∧ f z = some y := ⟨x, rfl, h⟩
theorem zz_bind {α β γ : Type} {o : Option (α × β)} {f : α → β → Option γ} {y : γ} (h : zbind o f = some y) : ∃ a b, o = some (a, b) ∧ f a b = some y := by
  cases o with
  | none => cases h
  | some q => exact ⟨q.1, q.2, rfl, h⟩
theorem zz_bind1 {α γ : Type} {o : Option α} {f : α → Option γ} {y : γ} (h : zbind1 o f = some y) : ∃ a, o = some a ∧ f a = some y := by
  cases o with
  | none => cases h
  | some q => exact ⟨q, rfl, h⟩
theorem zz_t {α : Type} {c : Prop} [Decidable c] {a b y : α} (hc : c) (h : (if c then a else b) = y) : a = y := by rw [if_pos hc] at h; exact h
theorem zz_f {α : Type} {c : Prop} [Decidable c] {a b y : α} (hc : ¬ c) (h : (if c then a else b) = y) : b = y := by rw [if_neg hc] at h; exact h
theorem zz_oob {α : Type} {c : Prop} [Decidable c] {b : Option α} {y : α} (h : (if c then none else b) = some y) : ¬ c ∧ b = some y := by
  by_cases hc : c
  · rw [if_pos hc] at h; cases h
  · rw [if_neg hc] at h; exact ⟨hc, h⟩
theorem zz_grd {α : Type} {c : Prop} [Decidable c] {b : Option α} {y : α} (h : (if c then b else none) = some y) : c ∧ b = some y := by
  by_cases hc : c
  · rw [if_pos hc] at h; exact ⟨hc, h⟩
  · rw [if_neg hc] at h; cases h
theorem zz_bool {v : Int32} (h : v = 0 ∨ v = 1) : narrow .boolean (.int v) = .int v := by
  rcases h with rfl | rfl <;> rfl
def zloop {σ ρ : Type} (step : σ → Option (σ ⊕ ρ)) : Nat → σ → Option ρ
  | 0, _ => none
  | k + 1, s => match step s with
    | none => none
    | some (.inl s') => zloop step k s'
    | some (.inr r) => some r
theorem zloop_succ {σ ρ : Type} (step : σ → Option (σ ⊕ ρ)) (k : Nat) (s : σ) : zloop step (k + 1) s = (match step s with
    | none => none
    | some (.inl s') => zloop step k s'
    | some (.inr r) => some r) := rfl
theorem zz_loop {σ ρ : Type} {step : σ → Option (σ ⊕ ρ)} (G : σ → Prop) (E : ρ → Prop) (hs : ∀ (s : σ) (o : σ ⊕ ρ), step s = some o → (∀ s', o = .inl s' → G s') → (∀ r, o = .inr r → E r) → G s) : ∀ (k : Nat) (s : σ) (r : ρ), zloop step k s = some r → E r → G s := by
  intro k
  induction k with
  | zero => intro s r h; cases h
  | succ k ih =>
    intro s r h hE
    rw [zloop_succ] at h
    cases ho : step s with
    | none => rw [ho] at h; cases h
    | some o =>
      rw [ho] at h
      refine hs s o ho (fun s' e => ?_) (fun r' e => ?_)
      · subst e; exact ih s' r h hE
      · subst e; cases h; exact hE
/-! the pure side: an answer, and what holds of it -/
def zok {α : Type} (o : Option α) (Q : α → Prop) : Prop := ∃ a, o = some a ∧ Q a
theorem zok_some {α : Type} {a : α} {Q : α → Prop} (h : Q a) : zok (some a) Q := ⟨a, rfl, h⟩
theorem zok_if {α : Type} {c : Prop} [Decidable c] {a b : Option α} {Q : α → Prop} (ht : c → zok a Q) (hf : ¬ c → zok b Q) : zok (if c then a else b) Q := by
  by_cases hc : c
  · rw [if_pos hc]; exact ht hc
  · rw [if_neg hc]; exact hf hc
theorem zok_oob {α : Type} {c : Prop} [Decidable c] {b : Option α} {Q : α → Prop} (hc : ¬ c) (hf : zok b Q) : zok (if c then none else b) Q := by
  rw [if_neg hc]; exact hf
theorem zok_grd {α : Type} {c : Prop} [Decidable c] {b : Option α} {Q : α → Prop} (hc : c) (hf : zok b Q) : zok (if c then b else none) Q := by
  rw [if_pos hc]; exact hf
theorem zok_let {α β : Type} {x : α} {f : α → Option β} {Q : β → Prop} (h : zok (f x) Q) : zok (zlet x f) Q := h
theorem zok_bind {α β γ : Type} {o : Option (α × β)} {f : α → β → Option γ} {Q : γ → Prop} (P : α → β → Prop) (ho : zok o (fun q => P q.1 q.2)) (hf : ∀ a b, P a b → zok (f a b) Q) : zok (zbind o f) Q := by
  obtain ⟨⟨a, b⟩, rfl, h⟩ := ho
  exact hf a b h
theorem zok_bind1 {α γ : Type} {o : Option α} {f : α → Option γ} {Q : γ → Prop} (P : α → Prop) (ho : zok o P) (hf : ∀ a, P a → zok (f a) Q) : zok (zbind1 o f) Q := by
  obtain ⟨a, rfl, h⟩ := ho
  exact hf a h
theorem zok_mono {α : Type} {o : Option α} {P Q : α → Prop} (h : zok o P) (hq : ∀ a, P a → Q a) : zok o Q := by
  obtain ⟨a, e, h⟩ := h
  exact ⟨a, e, hq a h⟩
theorem zok_eq {α : Type} {o : Option α} {a : α} {Q : α → Prop} (e : o = some a) (h : Q a) : zok o Q := ⟨a, e, h⟩
theorem zok_get {α : Type} {o : Option α} {a : α} (h : zok o (fun x => x = a)) : o = some a := by
  obtain ⟨b, e, rfl⟩ := h
  exact e
/-- a loop: an invariant, a measure that falls -/
theorem zok_loop {σ ρ : Type} {step : σ → Option (σ ⊕ ρ)} {Q : ρ → Prop} (Inv : σ → Prop) (μ : σ → Nat) (hs : ∀ s, Inv s → zok (step s) (fun o => (∀ s', o = .inl s' → Inv s' ∧ μ s' < μ s) ∧ ∀ r, o = .inr r → Q r)) : ∀ (k : Nat) (s : σ), Inv s → μ s < k → zok (zloop step k s) Q := by
  intro k
  induction k with
  | zero => intro s _ h; exact absurd h (Nat.not_lt_zero _)
  | succ k ih =>
    intro s hI hk
    obtain ⟨o, ho, h1, h2⟩ := hs s hI
    rw [zloop_succ, ho]
    cases o with
    | inl s' =>
      obtain ⟨a, b⟩ := h1 s' rfl
      exact ih s' a (by omega)
    | inr r => exact ⟨r, rfl, h2 r rfl⟩
theorem zok_inl {σ ρ : Type} {s : σ} {P : σ → Prop} {Q : ρ → Prop} (h : P s) : zok (some (.inl s : σ ⊕ ρ)) (fun o => (∀ s', o = .inl s' → P s') ∧ ∀ r, o = .inr r → Q r) := by
  refine ⟨_, rfl, ?_, ?_⟩
  · intro s' e; cases e; exact h
  · intro r e; cases e
theorem zok_inr {σ ρ : Type} {r : ρ} {P : σ → Prop} {Q : ρ → Prop} (h : Q r) : zok (some (.inr r : σ ⊕ ρ)) (fun o => (∀ s', o = .inl s' → P s') ∧ ∀ r, o = .inr r → Q r) := by
  refine ⟨_, rfl, ?_, ?_⟩
  · intro s' e; cases e
  · intro r' e; cases e; exact h
def zbL0 { γ : Type} (o : Option (Nat × Unit)) (f : Nat → Option γ) : Option γ := match o with
  | none => none
  | some (x, _) => f x
theorem zz_bL0 { γ : Type} {o : Option (Nat × Unit)} {f : Nat → Option γ} {y : γ} (h : zbL0 o f = some y) : ∃ x, o = some (x, ()) ∧ f x = some y := by
  cases o with
  | none => cases h
  | some q =>
    obtain ⟨x, u⟩ := q
    exact ⟨x, rfl, h⟩
theorem zok_bL0 { γ : Type} {o : Option (Nat × Unit)} {f : Nat → Option γ} {Q : γ → Prop} (P : Nat → Prop) (ho : zok o (fun q => P q.1)) (hf : ∀ x, P x → zok (f x) Q) : zok (zbL0 o f) Q := by
  obtain ⟨⟨x, u⟩, rfl, h⟩ := ho
  exact hf _ h
def zbL1 {α0 γ : Type} (o : Option (Nat × α0)) (f : Nat → α0 → Option γ) : Option γ := match o with
  | none => none
  | some (x, a0) => f x a0
theorem zz_bL1 {α0 γ : Type} {o : Option (Nat × α0)} {f : Nat → α0 → Option γ} {y : γ} (h : zbL1 o f = some y) : ∃ x a0, o = some (x, a0) ∧ f x a0 = some y := by
  cases o with
  | none => cases h
  | some q =>
    obtain ⟨x, a0⟩ := q
    exact ⟨x, a0, rfl, h⟩
theorem zok_bL1 {α0 γ : Type} {o : Option (Nat × α0)} {f : Nat → α0 → Option γ} {Q : γ → Prop} (P : Nat → α0 → Prop) (ho : zok o (fun q => P q.1 q.2)) (hf : ∀ x a0, P x a0 → zok (f x a0) Q) : zok (zbL1 o f) Q := by
  obtain ⟨⟨x, a0⟩, rfl, h⟩ := ho
  exact hf _ _ h
def zbL2 {α0 α1 γ : Type} (o : Option (Nat × α0 × α1)) (f : Nat → α0 → α1 → Option γ) : Option γ := match o with
  | none => none
  | some (x, a0, a1) => f x a0 a1
theorem zz_bL2 {α0 α1 γ : Type} {o : Option (Nat × α0 × α1)} {f : Nat → α0 → α1 → Option γ} {y : γ} (h : zbL2 o f = some y) : ∃ x a0 a1, o = some (x, a0, a1) ∧ f x a0 a1 = some y := by
  cases o with
  | none => cases h
  | some q =>
    obtain ⟨x, a0, a1⟩ := q
    exact ⟨x, a0, a1, rfl, h⟩
theorem zok_bL2 {α0 α1 γ : Type} {o : Option (Nat × α0 × α1)} {f : Nat → α0 → α1 → Option γ} {Q : γ → Prop} (P : Nat → α0 → α1 → Prop) (ho : zok o (fun q => P q.1 q.2.1 q.2.2)) (hf : ∀ x a0 a1, P x a0 a1 → zok (f x a0 a1) Q) : zok (zbL2 o f) Q := by
  obtain ⟨⟨x, a0, a1⟩, rfl, h⟩ := ho
  exact hf _ _ _ h
def zbL3 {α0 α1 α2 γ : Type} (o : Option (Nat × α0 × α1 × α2)) (f : Nat → α0 → α1 → α2 → Option γ) : Option γ := match o with
  | none => none
  | some (x, a0, a1, a2) => f x a0 a1 a2
theorem zz_bL3 {α0 α1 α2 γ : Type} {o : Option (Nat × α0 × α1 × α2)} {f : Nat → α0 → α1 → α2 → Option γ} {y : γ} (h : zbL3 o f = some y) : ∃ x a0 a1 a2, o = some (x, a0, a1, a2) ∧ f x a0 a1 a2 = some y := by
  cases o with
  | none => cases h
  | some q =>
    obtain ⟨x, a0, a1, a2⟩ := q
    exact ⟨x, a0, a1, a2, rfl, h⟩
theorem zok_bL3 {α0 α1 α2 γ : Type} {o : Option (Nat × α0 × α1 × α2)} {f : Nat → α0 → α1 → α2 → Option γ} {Q : γ → Prop} (P : Nat → α0 → α1 → α2 → Prop) (ho : zok o (fun q => P q.1 q.2.1 q.2.2.1 q.2.2.2)) (hf : ∀ x a0 a1 a2, P x a0 a1 a2 → zok (f x a0 a1 a2) Q) : zok (zbL3 o f) Q := by
  obtain ⟨⟨x, a0, a1, a2⟩, rfl, h⟩ := ho
  exact hf _ _ _ _ h
def zbL4 {α0 α1 α2 α3 γ : Type} (o : Option (Nat × α0 × α1 × α2 × α3)) (f : Nat → α0 → α1 → α2 → α3 → Option γ) : Option γ := match o with
  | none => none
  | some (x, a0, a1, a2, a3) => f x a0 a1 a2 a3
theorem zz_bL4 {α0 α1 α2 α3 γ : Type} {o : Option (Nat × α0 × α1 × α2 × α3)} {f : Nat → α0 → α1 → α2 → α3 → Option γ} {y : γ} (h : zbL4 o f = some y) : ∃ x a0 a1 a2 a3, o = some (x, a0, a1, a2, a3) ∧ f x a0 a1 a2 a3 = some y := by
  cases o with
  | none => cases h
  | some q =>
    obtain ⟨x, a0, a1, a2, a3⟩ := q
    exact ⟨x, a0, a1, a2, a3, rfl, h⟩
theorem zok_bL4 {α0 α1 α2 α3 γ : Type} {o : Option (Nat × α0 × α1 × α2 × α3)} {f : Nat → α0 → α1 → α2 → α3 → Option γ} {Q : γ → Prop} (P : Nat → α0 → α1 → α2 → α3 → Prop) (ho : zok o (fun q => P q.1 q.2.1 q.2.2.1 q.2.2.2.1 q.2.2.2.2)) (hf : ∀ x a0 a1 a2 a3, P x a0 a1 a2 a3 → zok (f x a0 a1 a2 a3) Q) : zok (zbL4 o f) Q := by
  obtain ⟨⟨x, a0, a1, a2, a3⟩, rfl, h⟩ := ho
  exact hf _ _ _ _ _ h
def zbL5 {α0 α1 α2 α3 α4 γ : Type} (o : Option (Nat × α0 × α1 × α2 × α3 × α4)) (f : Nat → α0 → α1 → α2 → α3 → α4 → Option γ) : Option γ := match o with
  | none => none
  | some (x, a0, a1, a2, a3, a4) => f x a0 a1 a2 a3 a4
theorem zz_bL5 {α0 α1 α2 α3 α4 γ : Type} {o : Option (Nat × α0 × α1 × α2 × α3 × α4)} {f : Nat → α0 → α1 → α2 → α3 → α4 → Option γ} {y : γ} (h : zbL5 o f = some y) : ∃ x a0 a1 a2 a3 a4, o = some (x, a0, a1, a2, a3, a4) ∧ f x a0 a1 a2 a3 a4 = some y := by
  cases o with
  | none => cases h
  | some q =>
    obtain ⟨x, a0, a1, a2, a3, a4⟩ := q
    exact ⟨x, a0, a1, a2, a3, a4, rfl, h⟩
theorem zok_bL5 {α0 α1 α2 α3 α4 γ : Type} {o : Option (Nat × α0 × α1 × α2 × α3 × α4)} {f : Nat → α0 → α1 → α2 → α3 → α4 → Option γ} {Q : γ → Prop} (P : Nat → α0 → α1 → α2 → α3 → α4 → Prop) (ho : zok o (fun q => P q.1 q.2.1 q.2.2.1 q.2.2.2.1 q.2.2.2.2.1 q.2.2.2.2.2)) (hf : ∀ x a0 a1 a2 a3 a4, P x a0 a1 a2 a3 a4 → zok (f x a0 a1 a2 a3 a4) Q) : zok (zbL5 o f) Q := by
  obtain ⟨⟨x, a0, a1, a2, a3, a4⟩, rfl, h⟩ := ho
  exact hf _ _ _ _ _ _ h
def zbL6 {α0 α1 α2 α3 α4 α5 γ : Type} (o : Option (Nat × α0 × α1 × α2 × α3 × α4 × α5)) (f : Nat → α0 → α1 → α2 → α3 → α4 → α5 → Option γ) : Option γ := match o with
  | none => none
  | some (x, a0, a1, a2, a3, a4, a5) => f x a0 a1 a2 a3 a4 a5
theorem zz_bL6 {α0 α1 α2 α3 α4 α5 γ : Type} {o : Option (Nat × α0 × α1 × α2 × α3 × α4 × α5)} {f : Nat → α0 → α1 → α2 → α3 → α4 → α5 → Option γ} {y : γ} (h : zbL6 o f = some y) : ∃ x a0 a1 a2 a3 a4 a5, o = some (x, a0, a1, a2, a3, a4, a5) ∧ f x a0 a1 a2 a3 a4 a5 = some y := by
  cases o with
  | none => cases h
  | some q =>
    obtain ⟨x, a0, a1, a2, a3, a4, a5⟩ := q
    exact ⟨x, a0, a1, a2, a3, a4, a5, rfl, h⟩
theorem zok_bL6 {α0 α1 α2 α3 α4 α5 γ : Type} {o : Option (Nat × α0 × α1 × α2 × α3 × α4 × α5)} {f : Nat → α0 → α1 → α2 → α3 → α4 → α5 → Option γ} {Q : γ → Prop} (P : Nat → α0 → α1 → α2 → α3 → α4 → α5 → Prop) (ho : zok o (fun q => P q.1 q.2.1 q.2.2.1 q.2.2.2.1 q.2.2.2.2.1 q.2.2.2.2.2.1 q.2.2.2.2.2.2)) (hf : ∀ x a0 a1 a2 a3 a4 a5, P x a0 a1 a2 a3 a4 a5 → zok (f x a0 a1 a2 a3 a4 a5) Q) : zok (zbL6 o f) Q := by
  obtain ⟨⟨x, a0, a1, a2, a3, a4, a5⟩, rfl, h⟩ := ho
  exact hf _ _ _ _ _ _ _ h
def zbL7 {α0 α1 α2 α3 α4 α5 α6 γ : Type} (o : Option (Nat × α0 × α1 × α2 × α3 × α4 × α5 × α6)) (f : Nat → α0 → α1 → α2 → α3 → α4 → α5 → α6 → Option γ) : Option γ := match o with
  | none => none
  | some (x, a0, a1, a2, a3, a4, a5, a6) => f x a0 a1 a2 a3 a4 a5 a6
theorem zz_bL7 {α0 α1 α2 α3 α4 α5 α6 γ : Type} {o : Option (Nat × α0 × α1 × α2 × α3 × α4 × α5 × α6)} {f : Nat → α0 → α1 → α2 → α3 → α4 → α5 → α6 → Option γ} {y : γ} (h : zbL7 o f = some y) : ∃ x a0 a1 a2 a3 a4 a5 a6, o = some (x, a0, a1, a2, a3, a4, a5, a6) ∧ f x a0 a1 a2 a3 a4 a5 a6 = some y := by
  cases o with
  | none => cases h
  | some q =>
    obtain ⟨x, a0, a1, a2, a3, a4, a5, a6⟩ := q
    exact ⟨x, a0, a1, a2, a3, a4, a5, a6, rfl, h⟩
theorem zok_bL7 {α0 α1 α2 α3 α4 α5 α6 γ : Type} {o : Option (Nat × α0 × α1 × α2 × α3 × α4 × α5 × α6)} {f : Nat → α0 → α1 → α2 → α3 → α4 → α5 → α6 → Option γ} {Q : γ → Prop} (P : Nat → α0 → α1 → α2 → α3 → α4 → α5 → α6 → Prop) (ho : zok o (fun q => P q.1 q.2.1 q.2.2.1 q.2.2.2.1 q.2.2.2.2.1 q.2.2.2.2.2.1 q.2.2.2.2.2.2.1 q.2.2.2.2.2.2.2)) (hf : ∀ x a0 a1 a2 a3 a4 a5 a6, P x a0 a1 a2 a3 a4 a5 a6 → zok (f x a0 a1 a2 a3 a4 a5 a6) Q) : zok (zbL7 o f) Q := by
  obtain ⟨⟨x, a0, a1, a2, a3, a4, a5, a6⟩, rfl, h⟩ := ho
  exact hf _ _ _ _ _ _ _ _ h
theorem zz_tne {x k : Int32} {a : Int} (hk : k.toInt = a) (h : ¬ x = k) : x.toInt ≠ a := fun q => h (Int32.toInt_inj.mp (q.trans hk.symm))
/-! the tables' words that every call keeps -/
def zTb : List Cond := lw_tbl.filter goodWord
theorem zz_in {w : Cond} (i : Nat) (h : tables_1[i]? = some w) (g : goodWord w = true) : w ∈ zTb := List.mem_filter.mpr ⟨List.mem_append_right _ (List.mem_of_getElem? h), g⟩
theorem zz_inp {w : Cond} (i : Nat) (h : (k2_sels lw_privs)[i]? = some w) (g : goodWord w = true) : w ∈ zTb := List.mem_filter.mpr ⟨List.mem_append_left _ (List.mem_of_getElem? h), g⟩
theorem zz_good {w : Cond} (h : w ∈ zTb) : w ∈ zTb ∧ ((w.onTables && w.keeps) = true ∨ ∃ ty, w = .arrayClass ty) := ⟨h, good_of_word (List.mem_filter.mp h).2⟩
theorem zz_gC {w : Cond} (h : w ∈ zTb) : GoodIn zTb (w :: zTb) := fun x hx => (List.mem_cons.mp hx).elim (fun e => by rw [e]; exact zz_good h) zz_good
theorem zz_gV {own C : String} {idx : Nat} {y : MethodName} {w : Cond} (h1 : Cond.methodLink own idx y ∈ zTb) (h2 : Cond.instanceMethod y ∈ zTb) (h3 : Cond.selects C y y ∈ zTb) (h4 : Cond.initialized C ∈ zTb) (h5 : w ∈ zTb) : GoodIn zTb (wsV own idx C y (w :: zTb)) := by
  intro x hx
  rcases List.mem_append.mp (show x ∈ ([.methodLink own idx y, .instanceMethod y, .selects C y y, .initialized C] : List Cond) ++ (w :: zTb) from hx) with h | h
  · simp only [List.mem_cons, List.not_mem_nil, or_false] at h
    rcases h with rfl | rfl | rfl | rfl
    · exact zz_good h1
    · exact zz_good h2
    · exact zz_good h3
    · exact zz_good h4
  · exact zz_gC h5 x h
theorem zz_gS {own : String} {idx : Nat} {y : MethodName} {w : Cond} (h1 : Cond.methodLink own idx y ∈ zTb) (h2 : Cond.static y ∈ zTb) (h4 : Cond.initialized y.cls ∈ zTb) (h5 : w ∈ zTb) : GoodIn zTb (va_wsS own idx y (w :: zTb)) := by
  intro x hx
  rcases List.mem_append.mp (show x ∈ ([.methodLink own idx y, .static y, .initialized y.cls] : List Cond) ++ (w :: zTb) from hx) with h | h
  · simp only [List.mem_cons, List.not_mem_nil, or_false] at h
    rcases h with rfl | rfl | rfl
    · exact zz_good h1
    · exact zz_good h2
    · exact zz_good h4
  · exact zz_gC h5 x h
