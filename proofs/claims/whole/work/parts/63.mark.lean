/-! PURE ROWS: the reference marks what is above a type -/
def zcnt (f : Nat → Int32) : Nat → Nat
  | 0 => 0
  | N + 1 => zcnt f N + (if f N = 0 then 1 else 0)
theorem zcnt_le {f g : Nat → Int32} (h : ∀ u, g u = 0 → f u = 0) : ∀ N, zcnt g N ≤ zcnt f N := by
  intro N
  induction N with
  | zero => exact Nat.le_refl _
  | succ N ih =>
    unfold zcnt
    by_cases q : g N = 0
    · rw [if_pos q, if_pos (h N q)]; omega
    · rw [if_neg q]; omega
theorem zcnt_lt {f g : Nat → Int32} (h : ∀ u, g u = 0 → f u = 0) {u : Nat} (h1 : f u = 0) (h2 : ¬ g u = 0) : ∀ N, u < N → zcnt g N < zcnt f N := by
  intro N
  induction N with
  | zero => intro q; omega
  | succ N ih =>
    intro q
    unfold zcnt
    by_cases e : u = N
    · subst e
      rw [if_neg h2, if_pos h1]
      have := zcnt_le h u
      omega
    · have := ih (by omega)
      by_cases q : g N = 0
      · rw [if_pos q, if_pos (h N q)]; omega
      · rw [if_neg q]; omega
theorem zcnt_32 (f : Nat → Int32) : ∀ N, zcnt f N ≤ N := by
  intro N
  induction N with
  | zero => exact Nat.le_refl _
  | succ N ih =>
    unfold zcnt
    split <;> omega
theorem i01 : ¬ (1 : Int32) = 0 := by decide
def zmk (ok : Nat → Prop) (f0 f : Nat → Int32) : Prop := (∀ u, f u = 0 ∨ f u = 1) ∧ (∀ u, f0 u = 1 → f u = 1) ∧ ∀ u, f u = 1 → f0 u = 1 ∨ (u < 32 ∧ ok u)
theorem zmk.rf {ok : Nat → Prop} {f : Nat → Int32} (h : ∀ u, f u = 0 ∨ f u = 1) : zmk ok f f := ⟨h, fun _ q => q, fun _ q => Or.inl q⟩
theorem zmk.tr {ok : Nat → Prop} {f g h : Nat → Int32} (a : zmk ok f g) (b : zmk ok g h) : zmk ok f h := ⟨b.1, fun u q => b.2.1 u (a.2.1 u q), fun u q => by
  rcases b.2.2 u q with q | q
  · exact a.2.2 u q
  · exact Or.inr q⟩
theorem zupd_at (f : Nat → Int32) (i : Nat) (x : Int32) : upd f i x i = x := by simp [upd]
theorem zupd_ne (f : Nat → Int32) {i j : Nat} (x : Int32) (h : j ≠ i) : upd f i x j = f j := by simp [upd, h]
theorem zupd_self {f : Nat → Int32} {i : Nat} {x : Int32} (h : f i = x) : upd f i x = f := by
  funext j
  by_cases e : j = i
  · subst e; rw [zupd_at, h]
  · rw [zupd_ne f x e]
theorem zmk.up {ok : Nat → Prop} {f : Nat → Int32} (h : ∀ u, f u = 0 ∨ f u = 1) {y : Nat} (hy : y < 32) (ho : ok y) : zmk ok f (upd f y 1) := by
  refine ⟨fun u => ?_, fun u q => ?_, fun u q => ?_⟩
  · by_cases e : u = y
    · subst e; rw [zupd_at]; exact Or.inr rfl
    · rw [zupd_ne f 1 e]; exact h u
  · by_cases e : u = y
    · subst e; rw [zupd_at]
    · rw [zupd_ne f 1 e]; exact q
  · by_cases e : u = y
    · subst e; exact Or.inr ⟨hy, ho⟩
    · rw [zupd_ne f 1 e] at q; exact Or.inl q
theorem zmk_0 {ok : Nat → Prop} {f g : Nat → Int32} (hf : ∀ u, f u = 0 ∨ f u = 1) (h : zmk ok f g) {u : Nat} (q : g u = 0) : f u = 0 := by
  rcases hf u with e | e
  · exact e
  · rw [h.2.1 u e] at q; cases q
section
variable {n : Nat} {S : ZQ} {tn : Nat}
theorem m_L2 {t : Nat} (f0 : Nat → Int32) (ht : t < 32) (hn : 32 < n) : fx_Q_mark_L2 n (nI t) 0 (qIo' S f0) = some (30, nI 32, qIo' S (fun u => if u < 32 then (if u = t then 1 else 0) else f0 u)) := by
  unfold fx_Q_mark_L2
  refine zl_scan (st := fun k => (nI k, qIo' S (fun u => if u < k then (if u = t then 1 else 0) else f0 u))) 32 hn (fun k hk => ?_) ?_
  · show st_Q_mark_L2 n (nI t) (nI k) (qIo' S _) = _
    unfold st_Q_mark_L2
    have hz : ¬ zoob (nI k) 32 := by rw [zoob_nI (by omega)]; omega
    have key : ∀ x : Int32, (if k = t then (1 : Int32) else 0) = x → upd (fun u => if u < k then (if u = t then (1 : Int32) else 0) else f0 u) k x = fun u => if u < k + 1 then (if u = t then (1 : Int32) else 0) else f0 u := by
      intro x hx
      funext u
      by_cases e : u = k
      · subst e; rw [zupd_at, if_pos (by omega), hx]
      · rw [zupd_ne _ _ e]
        by_cases q : u < k
        · rw [if_pos q, if_pos (show u < k + 1 by omega)]
        · rw [if_neg q, if_neg (show ¬ u < k + 1 by omega)]
    rw [nL32, if_neg (nI_ge hk (by omega))]
    by_cases e : k = t
    · rw [if_pos (by rw [e]), if_neg hz, zlet_eq, nI_clamp (by omega), vnar1, nI_1]
      show some (Sum.inl (nI (k + 1), qIo' S (upd _ k 1))) = _
      rw [key 1 (if_pos e)]
    · rw [if_neg (by rw [nI_eq (by omega) (by omega)]; exact e), if_neg hz, zlet_eq, nI_clamp (by omega), vnar0, nI_1]
      show some (Sum.inl (nI (k + 1), qIo' S (upd _ k 0))) = _
      rw [key 0 (if_neg e)]
  · show st_Q_mark_L2 n (nI t) (nI 32) (qIo' S _) = _
    unfold st_Q_mark_L2
    rw [nL32, if_pos (nI_le (Nat.le_refl _) (by omega))]
theorem m_L125 {ok : Nat → Prop} {x : Nat} {f : Nat → Int32} {mo : Int32} (hw : zWT tn (qAb S) (qFm S) (qFa S)) (hx : x < 32) (hf : ∀ u, f u = 0 ∨ f u = 1) (hok : ∀ y ∈ zfl (qFm S) (qFa S) x, ok y) (hmo : mo = 0 ∨ mo = 1) (hn : 32 < n) :
    ∃ (mo' v : Int32) (f' : Nat → Int32), fx_Q_mark_L125 n (nI x) mo 0 (qIo' S f) = some (190, mo', v, qIo' S f') ∧ zmk ok f f' ∧ (∀ y ∈ zfl (qFm S) (qFa S) x, f' y = 1) ∧ (mo' = 0 ∨ mo' = 1) ∧ (mo' = 0 → mo = 0 ∧ f' = f) ∧ (mo' = 1 → mo = 1 ∨ ∃ u, u < 32 ∧ f u = 0 ∧ f' u = 1) := by
  obtain ⟨c, hc, hc24, -⟩ := hw.2.2.1 x
  have h24 := hw.1
  have hfa : ∀ k, k < c → ∃ y, qFa S (32 * x + k) = nI y ∧ y < 32 ∧ ok y := fun k hk => by
    obtain ⟨y, e, h1, h2⟩ := hw.2.2.2.1 x k (by rw [hc, nI_clamp (by omega)]; exact hk)
    refine ⟨y, e, by omega, hok y (zfl_mem.mpr ⟨k, by rw [hc, nI_clamp (by omega)]; exact hk, by rw [e, nI_clamp (by omega)]⟩)⟩
  have key : zok (fx_Q_mark_L125 n (nI x) mo 0 (qIo' S f)) (fun r => ∃ (mo' v : Int32) (f' : Nat → Int32), r = (190, mo', v, qIo' S f') ∧ zmk ok f f' ∧ (∀ k, k < c → f' (qFa S (32 * x + k)).toNatClampNeg = 1) ∧ (mo' = 0 ∨ mo' = 1) ∧ (mo' = 0 → mo = 0 ∧ f' = f) ∧ (mo' = 1 → mo = 1 ∨ ∃ u, u < 32 ∧ f u = 0 ∧ f' u = 1)) := by
    unfold fx_Q_mark_L125
    refine zok_loop (Inv := fun st => ∃ (k : Nat) (f' : Nat → Int32), st.2.1 = nI k ∧ k ≤ c ∧ st.2.2 = qIo' S f' ∧ zmk ok f f' ∧ (∀ j, j < k → f' (qFa S (32 * x + j)).toNatClampNeg = 1) ∧ (st.1 = 0 ∨ st.1 = 1) ∧ (st.1 = 0 → mo = 0 ∧ f' = f) ∧ (st.1 = 1 → mo = 1 ∨ ∃ u, u < 32 ∧ f u = 0 ∧ f' u = 1)) (μ := fun st => c - st.2.1.toNatClampNeg) ?_ n (mo, 0, qIo' S f) ⟨0, f, rfl, by omega, rfl, zmk.rf hf, fun j h => by omega, hmo, fun h => ⟨h, rfl⟩, fun h => Or.inl h⟩ (by show c - 0 < n; omega)
    rintro ⟨v2, v4, T⟩ ⟨k, f', e1, hk, e2, hz, hm, h01, h0, h1⟩
    dsimp only at e1 e2 h01 h0 h1
    subst e1 e2
    show zok (st_Q_mark_L125 n (nI x) v2 (nI k) (qIo' S f')) _
    unfold st_Q_mark_L125
    have hfm : qFm (qIo' S f') (nI x).toNatClampNeg = nI c := by rw [nI_clamp (by omega)]; exact hc
    refine zok_oob (by rw [zoob_nI (by omega)]; omega) ?_
    rw [hfm]
    by_cases hkc : c ≤ k
    · rw [if_pos (nI_le hkc (by omega))]
      refine ⟨_, rfl, fun s' q => (by cases q), fun r q => ?_⟩
      cases q
      exact ⟨v2, nI k, f', rfl, hz, fun j hj => hm j (by omega), h01, h0, h1⟩
    · have hkc : k < c := by omega
      rw [if_neg (nI_ge hkc (by omega))]
      obtain ⟨y, ey, hy, hoy⟩ := hfa k hkc
      have ei : (32 : Int32) * nI x + nI k = nI (32 * x + k) := by rw [nL32, pk_mul, nI_add]
      have ecl : (nI (32 * x + k)).toNatClampNeg = 32 * x + k := nI_clamp (by omega)
      have key : ∀ (k0 : Int32) (m : Int32), (k0 = 0 ∨ k0 = 1) → (k0 = 0 → mo = 0 ∧ f' = f ∧ f' y = 1) → (k0 = 1 → mo = 1 ∨ (∃ u, u < 32 ∧ f u = 0 ∧ f' u = 1) ∨ f' y = 0) → zok (jx_Q_mark_L125_165 n k0 (nI x) (nI k) (qIo' S f')) (fun o => (∀ (s' : Int32 × Int32 × ZQ), o = Sum.inl s' → (∃ (k : Nat) (f' : Nat → Int32), s'.2.1 = nI k ∧ k ≤ c ∧ s'.2.2 = qIo' S f' ∧ zmk ok f f' ∧ (∀ j, j < k → f' (qFa S (32 * x + j)).toNatClampNeg = 1) ∧ (s'.1 = 0 ∨ s'.1 = 1) ∧ (s'.1 = 0 → mo = 0 ∧ f' = f) ∧ (s'.1 = 1 → mo = 1 ∨ ∃ u, u < 32 ∧ f u = 0 ∧ f' u = 1)) ∧ c - s'.2.1.toNatClampNeg < c - (nI k).toNatClampNeg) ∧ ∀ (r : Nat × Int32 × Int32 × ZQ), o = Sum.inr r → ∃ (mo' v : Int32) (f' : Nat → Int32), r = (190, mo', v, qIo' S f') ∧ zmk ok f f' ∧ (∀ k, k < c → f' (qFa S (32 * x + k)).toNatClampNeg = 1) ∧ (mo' = 0 ∨ mo' = 1) ∧ (mo' = 0 → mo = 0 ∧ f' = f) ∧ (mo' = 1 → mo = 1 ∨ ∃ u, u < 32 ∧ f u = 0 ∧ f' u = 1)) := by
        intro k0 m hk0 hk00 hk01
        unfold jx_Q_mark_L125_165
        rw [ei]
        refine zok_oob (by rw [zoob_nI (by omega)]; omega) ?_
        rw [ecl]
        have e9 : qFa (qIo' S f') (32 * x + k) = nI y := ey
        rw [e9]
        refine zok_oob (by rw [zoob_nI (by omega)]; omega) ?_
        rw [zlet_eq, nI_clamp (n := y) (by omega), vnar1, nI_1]
        refine ⟨_, rfl, fun s' q => ?_, fun r q => (by cases q)⟩
        cases q
        have hz2 := hz.tr (zmk.up hz.1 hy hoy)
        refine ⟨⟨k + 1, upd f' y 1, rfl, hkc, rfl, hz2, fun j hj => ?_, hk0, fun q => ?_, fun q => ?_⟩, ?_⟩
        · by_cases ej : j = k
          · subst ej; rw [ey, nI_clamp (by omega), zupd_at]
          · exact (zmk.up (ok := ok) hz.1 hy hoy).2.1 _ (hm j (by omega))
        · obtain ⟨a, b, d⟩ := hk00 q
          exact ⟨a, by rw [zupd_self d]; exact b⟩
        · rcases hk01 q with a | ⟨u, a, b, d⟩ | a
          · exact Or.inl a
          · exact Or.inr ⟨u, a, b, (zmk.up (ok := ok) hz.1 hy hoy).2.1 _ d⟩
          · exact Or.inr ⟨y, hy, zmk_0 hf hz a, zupd_at _ _ _⟩
        · show c - (nI (k + 1)).toNatClampNeg < c - (nI k).toNatClampNeg
          rw [nI_clamp (by omega), nI_clamp (by omega)]
          omega
      by_cases hv : v2 = 0
      · rw [if_pos hv, ei]
        refine zok_oob (by rw [zoob_nI (by omega)]; omega) ?_
        rw [ecl]
        have e9 : qFa (qIo' S f') (32 * x + k) = nI y := ey
        rw [e9]
        refine zok_oob (by rw [zoob_nI (by omega)]; omega) ?_
        rw [nI_clamp (n := y) (by omega)]
        obtain ⟨a1, a2⟩ := h0 hv
        by_cases hy0 : f' y = 0
        · rw [if_pos (show qIo (qIo' S f') y = 0 from hy0)]
          exact key 1 0 (Or.inr rfl) (fun q => absurd q i01) (fun _ => Or.inr (Or.inr hy0))
        · rw [if_neg (show ¬ qIo (qIo' S f') y = 0 from hy0)]
          exact key 0 0 (Or.inl rfl) (fun _ => ⟨a1, a2, (hz.1 y).resolve_left hy0⟩) (fun q => absurd q.symm i01)
      · rw [if_neg hv]
        have hv1 := h01.resolve_left hv
        exact key 1 0 (Or.inr rfl) (fun q => absurd q i01) (fun _ => by
          rcases h1 hv1 with a | a
          · exact Or.inl a
          · exact Or.inr (Or.inl a))
  obtain ⟨r, e, mo', v, f', rfl, h1, h2, h3, h4, h5⟩ := key
  refine ⟨mo', v, f', e, h1, fun y hy => ?_, h3, h4, h5⟩
  obtain ⟨k, hk, rfl⟩ := zfl_mem.mp hy
  rw [hc, nI_clamp (by omega)] at hk
  exact h2 k hk
/-- a whole pass -/
theorem m_L65 {ok : Nat → Prop} {f : Nat → Int32} (hT : qTy S = nI (8 + tn)) (hw : zWT tn (qAb S) (qFm S) (qFa S)) (hf : ∀ u, f u = 0 ∨ f u = 1) (hfo : ∀ u, f u = 1 → ok u) (hok : ∀ x y, ok x → zed tn (qAb S) (qFm S) (qFa S) x y → ok y) (hn : 32 < n) :
    ∃ (mo' v : Int32) (f' : Nat → Int32), fx_Q_mark_L65 n 0 8 (qIo' S f) = some (196, mo', v, qIo' S f') ∧ zmk ok f f' ∧ (mo' = 0 ∨ mo' = 1) ∧ (mo' = 0 → f' = f ∧ ∀ x y, f x = 1 → zed tn (qAb S) (qFm S) (qFa S) x y → f y = 1) ∧ (mo' = 1 → ∃ u, u < 32 ∧ f u = 0 ∧ f' u = 1) := by
  have h24 := hw.1
  have key : zok (fx_Q_mark_L65 n 0 8 (qIo' S f)) (fun r => ∃ (mo' v : Int32) (f' : Nat → Int32), r = (196, mo', v, qIo' S f') ∧ zmk ok f f' ∧ (mo' = 0 ∨ mo' = 1) ∧ (mo' = 0 → f' = f ∧ ∀ x y, f x = 1 → zed tn (qAb S) (qFm S) (qFa S) x y → f y = 1) ∧ (mo' = 1 → ∃ u, u < 32 ∧ f u = 0 ∧ f' u = 1)) := by
    unfold fx_Q_mark_L65
    refine zok_loop (Inv := fun st => ∃ (k : Nat) (f' : Nat → Int32), st.2.1 = nI k ∧ 8 ≤ k ∧ k ≤ 8 + tn ∧ st.2.2 = qIo' S f' ∧ zmk ok f f' ∧ (st.1 = 0 ∨ st.1 = 1) ∧ (st.1 = 0 → f' = f ∧ ∀ x y, x < k → f x = 1 → zed tn (qAb S) (qFm S) (qFa S) x y → f y = 1) ∧ (st.1 = 1 → ∃ u, u < 32 ∧ f u = 0 ∧ f' u = 1)) (μ := fun st => 8 + tn - st.2.1.toNatClampNeg) ?_ n (0, 8, qIo' S f) ⟨8, f, rfl, by omega, by omega, rfl, zmk.rf hf, Or.inl rfl, fun _ => ⟨rfl, fun x y h1 h2 h3 => by have := zed_lo h3; omega⟩, fun h => absurd h.symm i01⟩ (by show 8 + tn - (8 : Int32).toNatClampNeg < n; omega)
    rintro ⟨v2, v3, T⟩ ⟨k, f', e1, hk8, hk, e2, hz, h01, h0, h1⟩
    dsimp only at e1 e2 h01 h0 h1
    subst e1 e2
    show zok (st_Q_mark_L65 n v2 (nI k) (qIo' S f')) _
    unfold st_Q_mark_L65
    rw [show qTy (qIo' S f') = nI (8 + tn) from hT]
    by_cases hkc : 8 + tn ≤ k
    · rw [if_pos (nI_le hkc (by omega))]
      refine ⟨_, rfl, fun s' q => (by cases q), fun r q => ?_⟩
      cases q
      refine ⟨v2, nI k, f', rfl, hz, h01, fun q => ⟨(h0 q).1, fun x y a b => (h0 q).2 x y (by have := b.1.2; omega) a b⟩, h1⟩
    · have hkc : k < 8 + tn := by omega
      have hz1 : ¬ zoob (nI k) 32 := by rw [zoob_nI (by omega)]; omega
      have ecl : (nI k).toNatClampNeg = k := nI_clamp (by omega)
      rw [if_neg (nI_ge hkc (by omega))]
      refine zok_oob hz1 ?_
      have hmu : ∀ v : Int32, 8 + tn - (v, nI k + 1, (qIo' S f')).2.1.toNatClampNeg < 8 + tn - (nI k).toNatClampNeg := fun v => by
        show 8 + tn - (nI k + 1).toNatClampNeg < _
        rw [nI_1, nI_clamp (by omega), ecl]
        omega
      by_cases hm : f' k = 0
      · rw [if_pos (show qIo (qIo' S f') (nI k).toNatClampNeg = 0 by rw [ecl]; exact hm)]
        refine ⟨_, rfl, fun s' q => ?_, fun r q => (by cases q)⟩
        cases q
        refine ⟨⟨k + 1, f', nI_1 k, by omega, hkc, rfl, hz, h01, fun q => ⟨(h0 q).1, fun x y a b c => ?_⟩, h1⟩, hmu v2⟩
        by_cases ex : x = k
        · subst ex
          rw [(h0 q).1] at hm
          rw [hm] at b
          exact absurd b.symm i01
        · exact (h0 q).2 x y (by omega) b c
      · rw [if_neg (show ¬ qIo (qIo' S f') (nI k).toNatClampNeg = 0 by rw [ecl]; exact hm)]
        have hm1 : f' k = 1 := (hz.1 k).resolve_left hm
        have hokk : ok k := by
          rcases hz.2.2 k hm1 with q | q
          · exact hfo k q
          · exact q.2
        have hin : 8 ≤ k ∧ k < 8 + tn := ⟨hk8, hkc⟩
        -- what the inner loop gives
        have fin : ∀ (g : Nat → Int32) (mo : Int32), zmk ok f' g → (mo = 0 ∨ mo = 1) → (mo = 0 → v2 = 0 ∧ g = f') → (mo = 1 → v2 = 1 ∨ ∃ u, u < 32 ∧ f' u = 0 ∧ g u = 1) → (∀ y, qAb S k = nI y → y < 32 → g y = 1) → zok (zbL3 (fx_Q_mark_L125 n (nI k) mo 0 (qIo' S g)) (fun x_27 v2_27 v4_27 S_27 => if x_27 = 190 then some (.inl (v2_27, (nI k + (1 : Int32)), S_27)) else none)) (fun o => (∀ (s' : Int32 × Int32 × ZQ), o = Sum.inl s' → (∃ (k : Nat) (f' : Nat → Int32), s'.2.1 = nI k ∧ 8 ≤ k ∧ k ≤ 8 + tn ∧ s'.2.2 = qIo' S f' ∧ zmk ok f f' ∧ (s'.1 = 0 ∨ s'.1 = 1) ∧ (s'.1 = 0 → f' = f ∧ ∀ x y, x < k → f x = 1 → zed tn (qAb S) (qFm S) (qFa S) x y → f y = 1) ∧ (s'.1 = 1 → ∃ u, u < 32 ∧ f u = 0 ∧ f' u = 1)) ∧ 8 + tn - s'.2.1.toNatClampNeg < 8 + tn - (nI k).toNatClampNeg) ∧ ∀ (r : Nat × Int32 × Int32 × ZQ), o = Sum.inr r → ∃ (mo' v : Int32) (f' : Nat → Int32), r = (196, mo', v, qIo' S f') ∧ zmk ok f f' ∧ (mo' = 0 ∨ mo' = 1) ∧ (mo' = 0 → f' = f ∧ ∀ x y, f x = 1 → zed tn (qAb S) (qFm S) (qFa S) x y → f y = 1) ∧ (mo' = 1 → ∃ u, u < 32 ∧ f u = 0 ∧ f' u = 1)) := by
          intro g mo hg hmo hg0 hg1 hab
          obtain ⟨mo', v, g', e, q1, q2, q3, q4, q5⟩ := m_L125 (n := n) (ok := ok) (x := k) (mo := mo) hw (by omega) hg.1 (fun y hy => hok k y hokk ⟨hin, Or.inr hy⟩) hmo hn
          rw [e, zbL3_some, if_pos rfl]
          refine ⟨_, rfl, fun s' q => ?_, fun r q => (by cases q)⟩
          cases q
          refine ⟨⟨k + 1, g', nI_1 k, by omega, hkc, rfl, (hz.tr hg).tr q1, q3, fun q => ?_, fun q => ?_⟩, hmu mo'⟩
          · obtain ⟨a1, a2⟩ := q4 q
            obtain ⟨b1, b2⟩ := hg0 a1
            obtain ⟨d1, d2⟩ := h0 b1
            have eg : g' = f := by rw [a2, b2, d1]
            refine ⟨eg, fun x y hx hxf hxy => ?_⟩
            by_cases ex : x = k
            · subst ex
              rcases hxy.2 with ⟨y1, y2⟩ | y1
              · have := hab y y1 y2
                rw [← a2, eg] at this
                exact this
              · have := q2 y y1
                rw [eg] at this
                exact this
            · exact d2 x y (by omega) hxf hxy
          · rcases q5 q with a | ⟨u, a, b, d⟩
            · rcases hg1 a with a | ⟨u, a, b, d⟩
              · obtain ⟨u, a, b, d⟩ := h1 a
                exact ⟨u, a, b, (hg.tr q1).2.1 u d⟩
              · exact ⟨u, a, zmk_0 hf hz b, q1.2.1 u d⟩
            · exact ⟨u, a, zmk_0 hf (hz.tr hg) b, d⟩
        refine zok_oob hz1 ?_
        rcases hw.2.1 k hk8 hkc with e | ⟨a, e, ha8, hak⟩
        · rw [show qAb (qIo' S f') (nI k).toNatClampNeg = -1 by rw [ecl]; exact e, if_pos (by decide)]
          exact fin f' v2 (zmk.rf hz.1) h01 (fun q => ⟨q, rfl⟩) (fun q => Or.inl q) (fun y hy hy2 => by
            rw [e] at hy
            have h9 := congrArg Int32.toInt hy
            rw [i32_neg1, nI_toInt (by omega)] at h9
            omega)
        · rw [show qAb (qIo' S f') (nI k).toNatClampNeg = nI a by rw [ecl]; exact e, if_neg (nI_pos (by omega))]
          have hza : ¬ zoob (nI a) 32 := by rw [zoob_nI (by omega)]; omega
          refine zok_oob hz1 (zok_oob hza ?_)
          have eca : (nI a).toNatClampNeg = a := nI_clamp (by omega)
          have hoa : ok a := hok k a hokk ⟨hin, Or.inl ⟨e, by omega⟩⟩
          by_cases hfa : f' a = 0
          · rw [if_pos (show qIo (qIo' S f') (nI a).toNatClampNeg = 0 by rw [eca]; exact hfa)]
            refine zok_oob hz1 (zok_oob hza ?_)
            rw [zlet_eq, vnar1, eca]
            exact fin (upd f' a 1) 1 (zmk.up hz.1 (by omega) hoa) (Or.inr rfl) (fun q => absurd q i01) (fun _ => Or.inr ⟨a, by omega, hfa, zupd_at _ _ _⟩) (fun y hy hy2 => by
              rw [e, nI_eq (by omega) (by omega)] at hy
              subst hy
              exact zupd_at _ _ _)
          · rw [if_neg (show ¬ qIo (qIo' S f') (nI a).toNatClampNeg = 0 by rw [eca]; exact hfa)]
            exact fin f' v2 (zmk.rf hz.1) h01 (fun q => ⟨q, rfl⟩) (fun q => Or.inl q) (fun y hy hy2 => by
              rw [e, nI_eq (by omega) (by omega)] at hy
              subst hy
              exact (hz.1 _).resolve_left hfa)
  obtain ⟨r, e, mo', v, f', rfl, h1⟩ := key
  exact ⟨mo', v, f', e, h1⟩
theorem m_L56 {ok : Nat → Prop} {f : Nat → Int32} (hT : qTy S = nI (8 + tn)) (hw : zWT tn (qAb S) (qFm S) (qFa S)) (hf : ∀ u, f u = 0 ∨ f u = 1) (hfo : ∀ u, f u = 1 → ok u) (hok : ∀ x y, ok x → zed tn (qAb S) (qFm S) (qFa S) x y → ok y) (hn : 64 < n) :
    ∃ (f' : Nat → Int32), fx_Q_mark_L56 n 1 (qIo' S f) = some (199, 0, qIo' S f') ∧ (∀ u, f' u = 0 ∨ f' u = 1) ∧ (∀ u, f u = 1 → f' u = 1) ∧ (∀ u, f' u = 1 → ok u) ∧ ∀ x y, f' x = 1 → zed tn (qAb S) (qFm S) (qFa S) x y → f' y = 1 := by
  have key : zok (fx_Q_mark_L56 n 1 (qIo' S f)) (fun r => ∃ (f' : Nat → Int32), r = (199, 0, qIo' S f') ∧ (∀ u, f' u = 0 ∨ f' u = 1) ∧ (∀ u, f u = 1 → f' u = 1) ∧ (∀ u, f' u = 1 → ok u) ∧ ∀ x y, f' x = 1 → zed tn (qAb S) (qFm S) (qFa S) x y → f' y = 1) := by
    unfold fx_Q_mark_L56
    refine zok_loop (Inv := fun st => ∃ (f' : Nat → Int32), (st.1 = 0 ∨ st.1 = 1) ∧ st.2 = qIo' S f' ∧ (∀ u, f' u = 0 ∨ f' u = 1) ∧ (∀ u, f u = 1 → f' u = 1) ∧ (∀ u, f' u = 1 → ok u) ∧ (st.1 = 0 → ∀ x y, f' x = 1 → zed tn (qAb S) (qFm S) (qFa S) x y → f' y = 1)) (μ := fun st => if st.1 = 0 then 0 else zcnt (qIo st.2) 32 + 1) ?_ n (1, qIo' S f) ⟨f, Or.inr rfl, rfl, hf, fun _ q => q, hfo, fun q => absurd q i01⟩ (by show (if (1 : Int32) = 0 then 0 else zcnt f 32 + 1) < n; rw [if_neg i01]; have := zcnt_32 f 32; omega)
    rintro ⟨v2, T⟩ ⟨f', h01, e2, hz, hm, hfo', h0⟩
    dsimp only at h01 e2 h0
    subst e2
    show zok (st_Q_mark_L56 n v2 (qIo' S f')) _
    unfold st_Q_mark_L56
    by_cases hv : v2 = 0
    · rw [if_pos hv]
      refine ⟨_, rfl, fun s' q => (by cases q), fun r q => ?_⟩
      cases q
      exact ⟨f', by rw [hv], hz, hm, hfo', h0 hv⟩
    · rw [if_neg hv]
      obtain ⟨mo', v, g, e, q1, q2, q3, q4⟩ := m_L65 (n := n) (f := f') hT hw hz hfo' hok (by omega)
      rw [e, zbL3_some, if_pos rfl]
      refine ⟨_, rfl, fun s' q => ?_, fun r q => (by cases q)⟩
      cases q
      refine ⟨⟨g, q2, rfl, q1.1, fun u q => q1.2.1 u (hm u q), fun u q => ?_, fun q => ?_⟩, ?_⟩
      · rcases q1.2.2 u q with a | a
        · exact hfo' u a
        · exact a.2
      · obtain ⟨a, b⟩ := q3 q
        rw [a]
        exact b
      · show (if mo' = 0 then 0 else zcnt g 32 + 1) < (if v2 = 0 then 0 else zcnt f' 32 + 1)
        rw [if_neg hv]
        rcases q2 with a | a
        · rw [if_pos a]; omega
        · obtain ⟨u, b1, b2, b3⟩ := q4 a
          rw [if_neg (by rw [a]; exact i01)]
          have := zcnt_lt (f := f') (g := g) (fun u q => zmk_0 hz q1 q) b2 (by rw [b3]; exact i01) 32 b1
          omega
  obtain ⟨r, e, f', rfl, h1⟩ := key
  exact ⟨f', e, h1⟩
/-- what is marked is just what is above -/
theorem q_mark {t : Nat} (hT : qTy S = nI (8 + tn)) (hw : zWT tn (qAb S) (qFm S) (qFa S)) (h01 : ∀ u, qIo S u = 0 ∨ qIo S u = 1) (ht : t < 8 + tn) (hn : 64 < n) :
    ∃ f : Nat → Int32, fx_Q_mark n S (nI t) = some (qIo' S f) ∧ (∀ u, f u = 0 ∨ f u = 1) ∧ ∀ u, u < 32 → (f u = 1 ↔ zsub (zed tn (qAb S) (qFm S) (qFa S)) t u) := by
  have h24 := hw.1
  have e0 : qIo' S (qIo S) = S := rfl
  unfold fx_Q_mark
  have a1 := m_L2 (n := n) (S := S) (t := t) (qIo S) (by omega) (by omega)
  rw [e0] at a1
  rw [a1, zbL2_some, if_pos rfl]
  generalize hf1 : (fun u => if u < 32 then (if u = t then (1 : Int32) else 0) else qIo S u) = f1
  have g01 : ∀ u, f1 u = 0 ∨ f1 u = 1 := fun u => by
    rw [← hf1]
    show (if u < 32 then (if u = t then (1 : Int32) else 0) else qIo S u) = 0 ∨ (if u < 32 then (if u = t then (1 : Int32) else 0) else qIo S u) = 1
    split
    · split
      · exact Or.inr rfl
      · exact Or.inl rfl
    · exact h01 u
  have g1 : ∀ u, u < 32 → (f1 u = 1 ↔ u = t) := fun u hu => by
    rw [← hf1]
    show (if u < 32 then (if u = t then (1 : Int32) else 0) else qIo S u) = 1 ↔ u = t
    rw [if_pos hu]
    split
    · rename_i q; exact ⟨fun _ => q, fun _ => rfl⟩
    · rename_i q; exact ⟨fun a => absurd a.symm i01, fun a => absurd a q⟩
  clear hf1
  have main : ∀ g : Nat → Int32, (∀ u, g u = 0 ∨ g u = 1) → g t = 1 → (t = 0 → g 1 = 1) → (2 < t → g 7 = 1) → (∀ u, u < 32 → g u = 1 → zsub (zed tn (qAb S) (qFm S) (qFa S)) t u) → ∃ f : Nat → Int32, fx_Q_mark_L56 n 1 (qIo' S g) = some (199, 0, qIo' S f) ∧ (∀ u, (f u = 0 ∨ f u = 1)) ∧ ∀ u, u < 32 → (f u = 1 ↔ zsub (zed tn (qAb S) (qFm S) (qFa S)) t u) := by
    intro g b01 bt b1 b7 bs
    obtain ⟨f, q1, q2, q3, q4, q5⟩ := m_L56 (n := n) (S := S) (f := g) (ok := fun u => u < 32 → zsub (zed tn (qAb S) (qFm S) (qFa S)) t u) hT hw b01 (fun u h hu => bs u hu h) (fun x y hx hxy hy => zsub_step (hx (by have := hxy.1; omega)) hxy) hn
    refine ⟨f, q1, q2, fun u hu => ⟨fun q => q4 u q hu, fun q => ?_⟩⟩
    exact q (fun u => f u = 1) (q3 _ bt) (fun h => q3 _ (b1 h)) (fun h => q3 _ (b7 h)) (fun x y hx hxy => q5 x y hx hxy)
  have j41 : ∀ g : Nat → Int32, (∀ u, g u = 0 ∨ g u = 1) → g t = 1 → (t = 0 → g 1 = 1) → (∀ u, u < 32 → g u = 1 → zsub (zed tn (qAb S) (qFm S) (qFa S)) t u) → ∃ f : Nat → Int32, jx_Q_mark_41 n (nI t) (qIo' S g) = some (qIo' S f) ∧ (∀ u, f u = 0 ∨ f u = 1) ∧ ∀ u, u < 32 → (f u = 1 ↔ zsub (zed tn (qAb S) (qFm S) (qFa S)) t u) := by
    intro g b01 bt b1 bs
    unfold jx_Q_mark_41
    by_cases h2 : t ≤ 2
    · rw [if_pos (by rw [nL2]; exact nI_le h2 (by omega))]
      obtain ⟨f, q1, q2⟩ := main g b01 bt b1 (fun h => by omega) bs
      rw [q1, zbL2_some, if_pos rfl]
      exact ⟨f, rfl, q2⟩
    · rw [if_neg (by rw [nL2]; exact nI_ge (by omega) (by omega)), if_neg (by rw [nL7, zoob_nI (by omega)]; omega), zlet_eq, vnar1]
      have h7 := zmk.up (ok := fun _ => True) b01 (y := 7) (by omega) trivial
      obtain ⟨f, q1, q2⟩ := main (upd g 7 1) h7.1 (h7.2.1 _ bt) (fun h => by omega) (fun _ => zupd_at _ _ _) (fun u hu q => by
        by_cases e : u = 7
        · subst e; exact zsub_any (by omega)
        · rw [zupd_ne _ _ e] at q; exact bs u hu q)
      have e7 : qIo' (qIo' S g) (upd (qIo (qIo' S g)) (7 : Int32).toNatClampNeg 1) = qIo' S (upd g 7 1) := rfl
      rw [e7, q1, zbL2_some, if_pos rfl]
      exact ⟨f, rfl, q2⟩
  by_cases h0 : t = 0
  · subst h0
    rw [if_pos (show nI 0 = 0 from rfl), if_neg (by rw [nL1, zoob_nI (by omega)]; omega), zlet_eq, vnar1]
    have h7 := zmk.up (ok := fun _ => True) g01 (y := 1) (by omega) trivial
    exact j41 (upd f1 1 1) h7.1 (h7.2.1 _ ((g1 0 (by omega)).mpr rfl)) (fun _ => zupd_at _ _ _) (fun u hu q => by
      by_cases e : u = 1
      · subst e; exact zsub_long
      · rw [zupd_ne _ _ e] at q
        rw [(g1 u hu).mp q]
        exact zsub_rf)
  · rw [if_neg (by rw [nL0, nI_eq (by omega) (by omega)]; exact h0)]
    exact j41 f1 g01 ((g1 t (by omega)).mpr rfl) (fun h => absurd h h0) (fun u hu q => by
      rw [(g1 u hu).mp q]
      exact zsub_rf)
/-- the bits and the closure -/
def zUP (tn : Nat) (e : Nat → Nat → Prop) (up : Nat → Int32) : Prop := ∀ t, t < 8 + tn → ∀ u, zbt (up t) u = true ↔ zsub e t u
theorem q_isUnder {t u : Nat} {up : Nat → Int32} (hT : qTy S = nI (8 + tn)) (hw : zWT tn (qAb S) (qFm S) (qFa S)) (hup : zUP tn (zed tn (qAb S) (qFm S) (qFa S)) up) (h01 : ∀ u, qIo S u = 0 ∨ qIo S u = 1) (ht : t < 8 + tn) (hu : u < 32) (hn : 64 < n) :
    ∃ f : Nat → Int32, fx_Q_isUnder n S (nI t) (nI u) = some (b2i (zbt (up t) u), qIo' S f) ∧ ∀ u, f u = 0 ∨ f u = 1 := by
  obtain ⟨f, e, h1, h2⟩ := q_mark hT hw h01 ht hn
  refine ⟨f, ?_, h1⟩
  unfold fx_Q_isUnder
  rw [e, zbind1_some, if_neg (by rw [zoob_nI (by omega)]; omega), nI_clamp (by omega), if_pos (h1 u)]
  have e2 : f u = b2i (zbt (up t) u) := by
    cases h : zbt (up t) u with
    | true => exact (h2 u hu).mpr ((hup t ht u).mp h)
    | false =>
      rcases h1 u with q | q
      · exact q
      · rw [(hup t ht u).mpr ((h2 u hu).mp q)] at h
        cases h
  show some (f u, qIo' S f) = _
  rw [e2]
end
