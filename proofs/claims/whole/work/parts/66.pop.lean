/-! PURE ROWS: how many bits -/
def zpc (f : Nat → Bool) : Nat → Nat
  | 0 => 0
  | N + 1 => zpc f N + (if f N = true then 1 else 0)
theorem zpc_succ (f : Nat → Bool) (N : Nat) : zpc f (N + 1) = zpc f N + (if f N = true then 1 else 0) := rfl
theorem zpc_split (f : Nat → Bool) (M : Nat) : ∀ N, zpc f (M + N) = zpc f M + zpc (fun i => f (M + i)) N := by
  intro N
  induction N with
  | zero => rfl
  | succ N ih =>
    rw [← Nat.add_assoc, zpc_succ, zpc_succ, ih, Nat.add_assoc]
theorem zpc_congr {f g : Nat → Bool} : ∀ N, (∀ i, i < N → f i = g i) → zpc f N = zpc g N := by
  intro N
  induction N with
  | zero => intro _; rfl
  | succ N ih =>
    intro h
    unfold zpc
    rw [ih fun i hi => h i (by omega), h N (by omega)]
theorem zpc_zero {f : Nat → Bool} : ∀ N, (∀ i, i < N → f i = false) → zpc f N = 0 := by
  intro N
  induction N with
  | zero => intro _; rfl
  | succ N ih =>
    intro h
    unfold zpc
    rw [ih fun i hi => h i (by omega), h N (by omega)]
    rfl
theorem zp_and (a q c d : Nat) (ha : a < 256) (hc : c < 256) : (a + 256 * q) &&& (c + 256 * d) = (a &&& c) + 256 * (q &&& d) := by
  have e1 : ((a + 256 * q) &&& (c + 256 * d)) % 2 ^ 8 = a &&& c := by
    rw [Nat.and_mod_two_pow]
    have h1 : (a + 256 * q) % 2 ^ 8 = a := by omega
    have h2 : (c + 256 * d) % 2 ^ 8 = c := by omega
    rw [h1, h2]
  have e2 : ((a + 256 * q) &&& (c + 256 * d)) / 2 ^ 8 = q &&& d := by
    rw [Nat.and_div_two_pow]
    have h1 : (a + 256 * q) / 2 ^ 8 = q := by omega
    have h2 : (c + 256 * d) / 2 ^ 8 = d := by omega
    rw [h1, h2]
  have := Nat.div_add_mod ((a + 256 * q) &&& (c + 256 * d)) (2 ^ 8)
  rw [e1, e2] at this
  omega
/-- four bytes -/
def zq (a b c d : Nat) : Nat := a + 256 * (b + 256 * (c + 256 * d))
theorem zq_and {a b c d m : Nat} (ha : a < 256) (hb : b < 256) (hc : c < 256) (hm : m < 256) : zq a b c d &&& zq m m m m = zq (a &&& m) (b &&& m) (c &&& m) (d &&& m) := by
  unfold zq
  rw [zp_and _ _ _ _ ha hm, zp_and _ _ _ _ hb hm, zp_and _ _ _ _ hc hm]
def zs1 (b : Nat) : Nat := b - ((b / 2) &&& 85)
def zs2 (c : Nat) : Nat := (c &&& 51) + ((c / 4) &&& 51)
def zs3 (d : Nat) : Nat := (d + d / 16) &&& 15
theorem zs_a : ∀ b, b < 256 → ((b / 2) &&& 85) ≤ b ∧ zs1 b < 256 ∧ zs2 (zs1 b) ≤ 68 ∧ zs2 (zs1 b) % 16 ≤ 4 ∧ zs3 (zs2 (zs1 b)) ≤ 8 ∧ zs3 (zs2 (zs1 b)) = zpc (fun i => b.testBit i) 8 := by decide +kernel
theorem zs_b1 : ∀ b, b < 256 → ∀ p, p < 2 → (b / 2 + 128 * p) &&& 85 = (b / 2) &&& 85 := by decide +kernel
theorem zs_b2 : ∀ b, b < 256 → ∀ p, p < 4 → (b / 4 + 64 * p) &&& 51 = (b / 4) &&& 51 := by decide +kernel
theorem zs_b3 : ∀ b, b < 69 → ∀ p, p < 5 → (b + b / 16 + 16 * p) &&& 15 = (b + b / 16) &&& 15 := by decide +kernel
theorem zn_and {a b : Nat} (ha : a < 2 ^ 32) (hb : b < 2 ^ 32) : nI a &&& nI b = nI (a &&& b) := by
  apply Int32.toBitVec_inj.mp
  apply BitVec.eq_of_toNat_eq
  rw [Int32.toBitVec_and, BitVec.toNat_and, pk_tn ha, pk_tn hb, pk_tn (Nat.lt_of_le_of_lt Nat.and_le_left ha)]
theorem zn_self (x : Int32) : x = nI x.toBitVec.toNat := by
  apply Int32.toBitVec_inj.mp
  apply BitVec.eq_of_toNat_eq
  rw [pk_tn x.toBitVec.isLt]
theorem zpop {n b0 b1 b2 b3 : Nat} (h0 : b0 < 256) (h1 : b1 < 256) (h2 : b2 < 256) (h3 : b3 < 256) : fx_I_bitCount n (nI (zq b0 b1 b2 b3)) = some (nI (zs3 (zs2 (zs1 b0)) + zs3 (zs2 (zs1 b1)) + zs3 (zs2 (zs1 b2)) + zs3 (zs2 (zs1 b3)))) := by
  obtain ⟨a0, a1, a2, a3, a4, -⟩ := zs_a b0 h0
  obtain ⟨c0, c1, c2, c3, c4, -⟩ := zs_a b1 h1
  obtain ⟨d0, d1, d2, d3, d4, -⟩ := zs_a b2 h2
  obtain ⟨e0, e1, e2, e3, e4, -⟩ := zs_a b3 h3
  have hX : zq b0 b1 b2 b3 < 2 ^ 32 := by unfold zq; omega
  have k1 : (1431655765 : Int32) = nI (zq 85 85 85 85) := by decide
  have k2 : (858993459 : Int32) = nI (zq 51 51 51 51) := by decide
  have k3 : (252645135 : Int32) = nI (zq 15 15 15 15) := by decide
  have k63 : (63 : Int32) = nI 63 := rfl
  -- first
  have s1 : nI (zq b0 b1 b2 b3) - (((nI (zq b0 b1 b2 b3)).toUInt32 >>> ((1 : Int32).toUInt32 &&& Int32.toUInt32 31)).toInt32 &&& (1431655765 : Int32)) = nI (zq (zs1 b0) (zs1 b1) (zs1 b2) (zs1 b3)) := by
    have q1 : zq b0 b1 b2 b3 / 2 ^ 1 = zq (b0 / 2 + 128 * (b1 % 2)) (b1 / 2 + 128 * (b2 % 2)) (b2 / 2 + 128 * (b3 % 2)) (b3 / 2) := by unfold zq; omega
    rw [pk_ushrN hX 1 1 (by decide), k1, zn_and (by omega) (by decide), q1, zq_and (by omega) (by omega) (by omega) (by omega), zs_b1 b0 h0 _ (by omega), zs_b1 b1 h1 _ (by omega), zs_b1 b2 h2 _ (by omega), pk_sub (by unfold zq; omega)]
    congr 1
    unfold zq zs1
    omega
  rw [show fx_I_bitCount n (nI (zq b0 b1 b2 b3)) = fx_I_bitCount n (nI (zq b0 b1 b2 b3)) from rfl]
  unfold fx_I_bitCount
  rw [s1]
  have hY : zq (zs1 b0) (zs1 b1) (zs1 b2) (zs1 b3) < 2 ^ 32 := by unfold zq; omega
  have s2 : (nI (zq (zs1 b0) (zs1 b1) (zs1 b2) (zs1 b3)) &&& (858993459 : Int32)) + (((nI (zq (zs1 b0) (zs1 b1) (zs1 b2) (zs1 b3))).toUInt32 >>> ((2 : Int32).toUInt32 &&& Int32.toUInt32 31)).toInt32 &&& (858993459 : Int32)) = nI (zq (zs2 (zs1 b0)) (zs2 (zs1 b1)) (zs2 (zs1 b2)) (zs2 (zs1 b3))) := by
    generalize zs1 b0 = b0 at *
    generalize zs1 b1 = b1 at *
    generalize zs1 b2 = b2 at *
    generalize zs1 b3 = b3 at *
    have q1 : zq b0 b1 b2 b3 / 2 ^ 2 = zq (b0 / 4 + 64 * (b1 % 4)) (b1 / 4 + 64 * (b2 % 4)) (b2 / 4 + 64 * (b3 % 4)) (b3 / 4) := by unfold zq; omega
    rw [pk_ushrN hY 2 2 (by decide), k2, zn_and hY (by decide), zn_and (by omega) (by decide), q1, zq_and a1 c1 d1 (by omega), zq_and (by omega) (by omega) (by omega) (by omega), zs_b2 b0 a1 _ (by omega), zs_b2 b1 c1 _ (by omega), zs_b2 b2 d1 _ (by omega), nI_add]
    congr 1
    unfold zq zs2
    omega
  rw [s2]
  generalize zs2 (zs1 b0) = g0 at *
  generalize zs2 (zs1 b1) = g1 at *
  generalize zs2 (zs1 b2) = g2 at *
  generalize zs2 (zs1 b3) = g3 at *
  have hZ : zq g0 g1 g2 g3 < 2 ^ 32 := by unfold zq; omega
  have s3 : (nI (zq g0 g1 g2 g3) + ((nI (zq g0 g1 g2 g3)).toUInt32 >>> ((4 : Int32).toUInt32 &&& Int32.toUInt32 31)).toInt32) &&& (252645135 : Int32) = nI (zq (zs3 g0) (zs3 g1) (zs3 g2) (zs3 g3)) := by
    have q1 : zq g0 g1 g2 g3 + zq g0 g1 g2 g3 / 2 ^ 4 = zq (g0 + g0 / 16 + 16 * (g1 % 16)) (g1 + g1 / 16 + 16 * (g2 % 16)) (g2 + g2 / 16 + 16 * (g3 % 16)) (g3 + g3 / 16) := by unfold zq; omega
    rw [pk_ushrN hZ 4 4 (by decide), nI_add, k3, q1, zn_and (by unfold zq; omega) (by decide), zq_and (by omega) (by omega) (by omega) (by omega), zs_b3 g0 (by omega) _ (by omega), zs_b3 g1 (by omega) _ (by omega), zs_b3 g2 (by omega) _ (by omega)]
    rfl
  rw [s3]
  generalize zs3 g0 = p0 at *
  generalize zs3 g1 = p1 at *
  generalize zs3 g2 = p2 at *
  generalize zs3 g3 = p3 at *
  have hW : zq p0 p1 p2 p3 < 2 ^ 32 := by unfold zq; omega
  have s4 : nI (zq p0 p1 p2 p3) + ((nI (zq p0 p1 p2 p3)).toUInt32 >>> ((8 : Int32).toUInt32 &&& Int32.toUInt32 31)).toInt32 = nI (zq (p0 + p1) (p1 + p2) (p2 + p3) p3) := by
    rw [pk_ushrN hW 8 8 (by decide), nI_add]
    congr 1
    unfold zq
    omega
  rw [s4]
  have hV : zq (p0 + p1) (p1 + p2) (p2 + p3) p3 < 2 ^ 32 := by unfold zq; omega
  have s5 : nI (zq (p0 + p1) (p1 + p2) (p2 + p3) p3) + ((nI (zq (p0 + p1) (p1 + p2) (p2 + p3) p3)).toUInt32 >>> ((16 : Int32).toUInt32 &&& Int32.toUInt32 31)).toInt32 = nI (zq (p0 + p1 + p2 + p3) (p1 + p2 + p3) (p2 + p3) p3) := by
    rw [pk_ushrN hV 16 16 (by decide), nI_add]
    congr 1
    unfold zq
    omega
  rw [s5, pk_andN (by unfold zq; omega) 6 (by decide)]
  congr 2
  unfold zq
  omega
theorem c_bitCount {n : Nat} (x : Int32) : fx_I_bitCount n x = some (nI (zpc (fun u => zbt x u) 32)) := by
  have hX := x.toBitVec.isLt
  have e := zn_self x
  obtain ⟨b0, b1, b2, b3, h0, h1, h2, h3, hb⟩ : ∃ b0 b1 b2 b3, b0 < 256 ∧ b1 < 256 ∧ b2 < 256 ∧ b3 < 256 ∧ x.toBitVec.toNat = zq b0 b1 b2 b3 := by
    refine ⟨x.toBitVec.toNat % 256, x.toBitVec.toNat / 256 % 256, x.toBitVec.toNat / 65536 % 256, x.toBitVec.toNat / 16777216, by omega, by omega, by omega, by omega, ?_⟩
    unfold zq
    omega
  have ez : ∀ u, zbt x u = (zq b0 b1 b2 b3).testBit u := fun u => by
    unfold zbt
    rw [← hb]
    rfl
  rw [e, hb, zpop h0 h1 h2 h3, ← hb, ← e]
  congr 2
  rw [(zs_a b0 h0).2.2.2.2.2, (zs_a b1 h1).2.2.2.2.2, (zs_a b2 h2).2.2.2.2.2, (zs_a b3 h3).2.2.2.2.2]
  rw [show (32 : Nat) = 8 + (8 + (8 + 8)) from rfl, zpc_split, zpc_split, zpc_split]
  have t : ∀ (q k r i : Nat), i < 8 → q / 2 ^ k % 256 = r → q.testBit (k + i) = r.testBit i := fun q k r i hi hr => by
    have h1 : (q / 2 ^ k).testBit i = q.testBit (k + i) := by rw [Nat.testBit_div_two_pow, Nat.add_comm]
    rw [← h1, ← hr, show (256 : Nat) = 2 ^ 8 from rfl, Nat.testBit_mod_two_pow]
    simp [hi]
  have g0 : zpc (fun u => zbt x u) 8 = zpc (fun i => b0.testBit i) 8 := zpc_congr 8 fun i hi => by
    rw [ez, show i = 0 + i by omega, t _ 0 b0 i hi (by unfold zq; omega), Nat.zero_add]
  have g1 : zpc (fun i => zbt x (8 + i)) 8 = zpc (fun i => b1.testBit i) 8 := zpc_congr 8 fun i hi => by
    rw [ez, t _ 8 b1 i hi (by unfold zq; omega)]
  have g2 : zpc (fun i => zbt x (8 + (8 + i))) 8 = zpc (fun i => b2.testBit i) 8 := zpc_congr 8 fun i hi => by
    rw [ez, ← Nat.add_assoc, t _ 16 b2 i hi (by unfold zq; omega)]
  have g3 : zpc (fun i => zbt x (8 + (8 + (8 + i)))) 8 = zpc (fun i => b3.testBit i) 8 := zpc_congr 8 fun i hi => by
    rw [ez, ← Nat.add_assoc, ← Nat.add_assoc, t _ 24 b3 i hi (by unfold zq; omega)]
  rw [g0, g1, g2, g3]
  omega
