/-! PURE ROWS: bytes of a long -/
def zby (x : Int64) (k : Nat) : Nat := x.toBitVec.toNat / 2 ^ (8 * k) % 256
theorem zby_lt (x : Int64) (k : Nat) : zby x k < 256 := Nat.mod_lt _ (by decide)
theorem zsh_u : ∀ k, k < 8 → (((8 : Int32) * nI k).toInt64.toUInt64 &&& Int64.toUInt64 63).toNat % 64 = 8 * k := by decide +kernel
theorem zsh_s : ∀ k, k < 8 → ((((8 : Int32) * nI k).toInt64 &&& 63).toBitVec.smod 64).toNat = 8 * k := by decide +kernel
theorem zsh_m : ∀ n, n < 7 → ((((1 : Int64) <<< (((8 : Int32) * nI n).toInt64 &&& 63)) - 1).toBitVec.toNat = 2 ^ (8 * n) - 1) := by decide +kernel
theorem z255 : (255 : Int64).toBitVec.toNat = 2 ^ 8 - 1 := by decide
theorem zand_mask (x m : Int64) (k : Nat) (hm : m.toBitVec.toNat = 2 ^ k - 1) : (x &&& m).toBitVec.toNat = x.toBitVec.toNat % 2 ^ k := by
  rw [Int64.toBitVec_and, BitVec.toNat_and, hm, Nat.and_two_pow_sub_one_eq_mod]
theorem zl2i {x : Int64} {q : Nat} (h : x.toBitVec.toNat = q) (hq : q < 2 ^ 31) : x.toInt32 = nI q := by
  apply Int32.toBitVec_inj.mp
  apply BitVec.eq_of_toNat_eq
  rw [Int64.toBitVec_toInt32]
  show _ = (BitVec.ofNat 32 q).toNat
  rw [BitVec.signExtend_eq_setWidth_of_le _ (by decide), BitVec.toNat_setWidth, BitVec.toNat_ofNat, h]
theorem zbyte_u (x : Int64) {k : Nat} (hk : k < 8) : (((x.toUInt64 >>> (((8 : Int32) * nI k).toInt64.toUInt64 &&& Int64.toUInt64 63)).toInt64 &&& (255 : Int64)).toInt32) = nI (zby x k) := by
  refine zl2i ?_ (Nat.lt_of_lt_of_le (zby_lt x k) (by decide))
  rw [zand_mask _ _ 8 z255]
  unfold zby
  have e : (x.toUInt64 >>> (((8 : Int32) * nI k).toInt64.toUInt64 &&& Int64.toUInt64 63)).toInt64.toBitVec.toNat = x.toBitVec.toNat / 2 ^ (8 * k) := by
    show (x.toUInt64 >>> (((8 : Int32) * nI k).toInt64.toUInt64 &&& Int64.toUInt64 63)).toNat = _
    rw [UInt64.toNat_shiftRight, zsh_u k hk, Nat.shiftRight_eq_div_pow]
    rfl
  rw [e]
theorem zbyte_s (x : Int64) {k : Nat} (hk : k < 8) : (((x >>> (((8 : Int32) * nI k).toInt64 &&& 63)) &&& (255 : Int64)).toInt32) = nI (zby x k) := by
  refine zl2i ?_ (Nat.lt_of_lt_of_le (zby_lt x k) (by decide))
  unfold zby
  have e : (x >>> (((8 : Int32) * nI k).toInt64 &&& 63)).toBitVec = x.toBitVec.sshiftRight (8 * k) := by
    show x.toBitVec.sshiftRight ((((8 : Int32) * nI k).toInt64 &&& 63).toBitVec.smod 64).toNat = _
    rw [zsh_s k hk]
  have e2 : ((x >>> (((8 : Int32) * nI k).toInt64 &&& 63)) &&& (255 : Int64)).toBitVec = (x.toBitVec >>> (8 * k)) &&& 255#64 := by
    rw [Int64.toBitVec_and, e]
    show x.toBitVec.sshiftRight (8 * k) &&& 255#64 = _
    apply BitVec.eq_of_getLsbD_eq
    intro i hi
    rw [BitVec.getLsbD_and, BitVec.getLsbD_and, BitVec.getLsbD_sshiftRight, BitVec.getLsbD_ushiftRight]
    by_cases h8 : i < 8
    · have h1 : 8 * k + i < 64 := by omega
      have h64 : ¬ 64 ≤ i := by omega
      simp [hi, h1, h64]
    · have : (255#64).getLsbD i = false := by
        have h9 : (255#64).toNat.testBit i = false := by
          show Nat.testBit (2 ^ 8 - 1) i = false
          rw [Nat.testBit_two_pow_sub_one]
          simp [h8]
        exact h9
      rw [this]
      simp
  rw [e2, BitVec.toNat_and, show (255#64).toNat = 2 ^ 8 - 1 from rfl, Nat.and_two_pow_sub_one_eq_mod, BitVec.toNat_ushiftRight, Nat.shiftRight_eq_div_pow]
/-- the n lowest bytes -/
theorem zlow_nat (x : Int64) {n : Nat} (hn : n < 7) : (x &&& (((1 : Int64) <<< (((8 : Int32) * nI n).toInt64 &&& 63)) - 1)).toBitVec.toNat = x.toBitVec.toNat % 2 ^ (8 * n) := zand_mask _ _ _ (zsh_m n hn)
theorem zby_mod {a n k : Nat} (hk : k < n) : a % 2 ^ (8 * n) / 2 ^ (8 * k) % 256 = a / 2 ^ (8 * k) % 256 := by
  have h1 : 2 ^ (8 * n) = 2 ^ (8 * k) * (256 * 2 ^ (8 * (n - k - 1))) := by
    rw [show (256 : Nat) = 2 ^ 8 from rfl, ← Nat.pow_add, ← Nat.pow_add]
    congr 1
    omega
  rw [h1, Nat.mod_mul_right_div_self, Nat.mod_mul_right_mod]
theorem zlow_by (x : Int64) {n k : Nat} (hn : n < 7) (hk : k < n) : zby (x &&& (((1 : Int64) <<< (((8 : Int32) * nI n).toInt64 &&& 63)) - 1)) k = zby x k := by
  unfold zby
  rw [zlow_nat x hn, zby_mod hk]
theorem zdig {a b : Nat} : ∀ n, (∀ k, k < n → a / 2 ^ (8 * k) % 256 = b / 2 ^ (8 * k) % 256) → a % 2 ^ (8 * n) = b % 2 ^ (8 * n) := by
  intro n
  induction n with
  | zero => intro _; simp [Nat.mod_one]
  | succ n ih =>
    intro h
    have h1 := ih fun k hk => h k (by omega)
    have h2 := h n (by omega)
    have e : 2 ^ (8 * (n + 1)) = 2 ^ (8 * n) * 256 := by rw [show 8 * (n + 1) = 8 * n + 8 by omega, Nat.pow_add]
    rw [e, Nat.mod_mul, Nat.mod_mul, h1, h2]
/-- two rows of n bytes are one when their bytes are -/
theorem zlow_eq {x y : Int64} {n : Nat} (hx : x.toBitVec.toNat < 2 ^ (8 * n)) (hy : y.toBitVec.toNat < 2 ^ (8 * n)) (h : ∀ k, k < n → zby x k = zby y k) : x = y := by
  apply Int64.toBitVec_inj.mp
  apply BitVec.eq_of_toNat_eq
  have q := zdig (a := x.toBitVec.toNat) (b := y.toBitVec.toNat) n h
  rw [Nat.mod_eq_of_lt hx, Nat.mod_eq_of_lt hy] at q
  exact q
theorem zcmp0 (x y : Int64) : lg_cmp x y = 0 ↔ x = y := by
  unfold lg_cmp
  constructor
  · intro h
    split at h
    · exact absurd h (by decide)
    · split at h
      · assumption
      · exact absurd h (by decide)
  · intro h
    subst h
    simp
