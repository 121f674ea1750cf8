/-! bits -/
def rv_pc (m : Nat) : Nat := rv_sm (fun c => m / 2 ^ c % 2) 12
def rv_bc (a1 : Int32) : Int32 :=
  let x1 := a1 - (((a1 : Int32).toUInt32 >>> ((1 : Int32).toUInt32 &&& Int32.toUInt32 31)).toInt32 &&& 1431655765)
  let x2 := (x1 &&& 858993459) + (((x1 : Int32).toUInt32 >>> ((2 : Int32).toUInt32 &&& Int32.toUInt32 31)).toInt32 &&& 858993459)
  let x3 := (x2 + ((x2 : Int32).toUInt32 >>> ((4 : Int32).toUInt32 &&& Int32.toUInt32 31)).toInt32) &&& 252645135
  let x4 := x3 + ((x3 : Int32).toUInt32 >>> ((8 : Int32).toUInt32 &&& Int32.toUInt32 31)).toInt32
  let x5 := x4 + ((x4 : Int32).toUInt32 >>> ((16 : Int32).toUInt32 &&& Int32.toUInt32 31)).toInt32
  x5 &&& 63
theorem rv_bce (S : rs_St) (x : Int32) : xf_J6_bitCount_0f7a4 S x = some (rv_bc x) := rfl
def rv_bk (a : Nat) : Nat → Bool
  | 0 => true
  | n + 1 => rv_bk a n && decide (rv_bc (nI (64 * a + n)) = nI (rv_pc (64 * a + n)))
def rv_bl : Nat → Bool
  | 0 => true
  | n + 1 => rv_bl n && rv_bk n 64
theorem rv_bl64 : rv_bl 64 = true := by decide +kernel
theorem rv_bkn {a : Nat} : ∀ {n : Nat}, rv_bk a n = true → ∀ m, m < n → rv_bc (nI (64 * a + m)) = nI (rv_pc (64 * a + m))
  | 0, _, m, hm => by omega
  | n + 1, h, m, hm => by
    rw [rv_bk, Bool.and_eq_true, decide_eq_true_eq] at h
    by_cases e : m = n
    · rw [e]
      exact h.2
    · exact rv_bkn h.1 m (by omega)
theorem rv_bln : ∀ {n : Nat}, rv_bl n = true → ∀ a, a < n → rv_bk a 64 = true
  | 0, _, a, ha => by omega
  | n + 1, h, a, ha => by
    rw [rv_bl, Bool.and_eq_true] at h
    by_cases e : a = n
    · rw [e]
      exact h.2
    · exact rv_bln h.1 a (by omega)
theorem rv_bitCount (S : rs_St) {m : Nat} (hm : m < 4096) : xf_J6_bitCount_0f7a4 S (nI m) = some (nI (rv_pc m)) := by
  rw [rv_bce]
  have h := rv_bkn (rv_bln rv_bl64 (m / 64) (by omega)) (m % 64) (by omega)
  rw [show 64 * (m / 64) + m % 64 = m by omega] at h
  rw [h]
/-- the number whose bits are P's -/
def rv_mn2 (P : Nat → Bool) : Nat → Nat
  | 0 => 0
  | n + 1 => rv_mn2 P n + (if P n then 2 ^ n else 0)
def rv_cn (P : Nat → Bool) (n : Nat) : Nat := rv_sm (fun p => if P p then 1 else 0) n
theorem rv_mn2_lt (P : Nat → Bool) : ∀ n : Nat, rv_mn2 P n < 2 ^ n
  | 0 => Nat.zero_lt_one
  | n + 1 => by
    have := rv_mn2_lt P n
    rw [rv_mn2, Nat.pow_succ]
    split <;> omega
theorem rv_mn2_bit (P : Nat → Bool) : ∀ {n c : Nat}, c < n → rv_mn2 P n / 2 ^ c % 2 = if P c then 1 else 0
  | 0, c, h => by omega
  | n + 1, c, h => by
    have hl := rv_mn2_lt P n
    have hp : 0 < 2 ^ c := Nat.two_pow_pos c
    rw [rv_mn2]
    by_cases e : c = n
    · subst e
      split
      · rw [show rv_mn2 P c + 2 ^ c = rv_mn2 P c + 2 ^ c * 1 by rw [Nat.mul_one], Nat.add_mul_div_left _ _ hp, Nat.div_eq_of_lt hl]
      · rw [Nat.add_zero, Nat.div_eq_of_lt hl]
    · have ih := rv_mn2_bit P (n := n) (c := c) (by omega)
      split
      · obtain ⟨k, hk⟩ : ∃ k, n = c + 1 + k := ⟨n - c - 1, by omega⟩
        rw [show rv_mn2 P n + 2 ^ n = rv_mn2 P n + 2 ^ c * (2 * 2 ^ k) by rw [hk, Nat.pow_add, Nat.pow_add, Nat.pow_one, Nat.mul_assoc], Nat.add_mul_div_left _ _ hp, Nat.add_mul_mod_self_left]
        exact ih
      · rw [Nat.add_zero]
        exact ih
theorem rv_pc_mn2 (P : Nat → Bool) : rv_pc (rv_mn2 P 12) = rv_cn P 12 := rv_sm_cg (fun c hc => rv_mn2_bit P hc)
theorem rv_or2 {m c : Nat} (hm : m < 2 ^ c) (hc : c < 12) : nI m ||| nI (2 ^ c) = nI (m + 2 ^ c) := by
  have h2 : 2 ^ c ≤ 2 ^ 11 := Nat.pow_le_pow_right (by omega) (by omega)
  apply Int32.toBitVec_inj.1
  apply BitVec.eq_of_toNat_eq
  show (BitVec.ofNat 32 m ||| BitVec.ofNat 32 (2 ^ c)).toNat = (BitVec.ofNat 32 (m + 2 ^ c)).toNat
  rw [BitVec.toNat_or, BitVec.toNat_ofNat, BitVec.toNat_ofNat, BitVec.toNat_ofNat, Nat.mod_eq_of_lt (by omega), Nat.mod_eq_of_lt (by omega), Nat.mod_eq_of_lt (by omega), Nat.or_two_pow_eq_add_of_lt hm]
theorem rv_shl {c : Nat} (hc : c < 12) : (1 : Int32) <<< (nI c &&& 31) = nI (2 ^ c) := by
  rcases (show c = 0 ∨ c = 1 ∨ c = 2 ∨ c = 3 ∨ c = 4 ∨ c = 5 ∨ c = 6 ∨ c = 7 ∨ c = 8 ∨ c = 9 ∨ c = 10 ∨ c = 11 by omega) with rfl | rfl | rfl | rfl | rfl | rfl | rfl | rfl | rfl | rfl | rfl | rfl <;> rfl
theorem rv_ft_mn2 (P : Nat → Bool) : ∀ {d c : Nat}, c + d ≤ 12 → rv_ft P d c (nI (rv_mn2 P c)) = nI (rv_mn2 P (c + d))
  | 0, _, _ => rfl
  | d + 1, c, h => by
    have ih := rv_ft_mn2 P (d := d) (c := c + 1) (by omega)
    rw [rv_ft, rv_shl (by omega), rv_or2 (rv_mn2_lt P c) (by omega), rv_nite, show (if P c = true then rv_mn2 P c + 2 ^ c else rv_mn2 P c) = rv_mn2 P (c + 1) by rw [rv_mn2]; split <;> rfl, ih, show c + 1 + d = c + (d + 1) by omega]
theorem rv_bt0 {m : Nat} (hm : m < 4096) (c : Nat) : (BitVec.ofNat 32 m).sshiftRight c &&& 1#32 = BitVec.ofNat 32 (m / 2 ^ c % 2) := by
  have hl : m / 2 ^ c % 2 < 2 := Nat.mod_lt _ (by omega)
  have hmm : (BitVec.ofNat 32 m).toNat = m := by rw [BitVec.toNat_ofNat, Nat.mod_eq_of_lt (by omega)]
  rw [BitVec.sshiftRight_eq_of_msb_false (BitVec.msb_eq_false_iff_two_mul_lt.mpr (by rw [hmm]; omega))]
  apply BitVec.eq_of_toNat_eq
  rw [BitVec.toNat_and, BitVec.toNat_ushiftRight, hmm, Nat.shiftRight_eq_div_pow, show (1#32).toNat = 1 from rfl, Nat.and_one_is_mod, BitVec.toNat_ofNat, Nat.mod_eq_of_lt (show m / 2 ^ c % 2 < 2 ^ 32 by omega)]
theorem rv_btc (m : Nat) {c : Nat} (hc : c < 12) : ((nI m >>> (nI c &&& 31)) &&& 1).toBitVec = (BitVec.ofNat 32 m).sshiftRight c &&& 1#32 := by
  rcases (show c = 0 ∨ c = 1 ∨ c = 2 ∨ c = 3 ∨ c = 4 ∨ c = 5 ∨ c = 6 ∨ c = 7 ∨ c = 8 ∨ c = 9 ∨ c = 10 ∨ c = 11 by omega) with rfl | rfl | rfl | rfl | rfl | rfl | rfl | rfl | rfl | rfl | rfl | rfl <;> rfl
theorem rv_bt (P : Nat → Bool) {c : Nat} (hc : c < 12) : (nI (rv_mn2 P 12) >>> (nI c &&& 31)) &&& 1 = if P c then 1 else 0 := by
  have hm := rv_mn2_lt P 12
  apply Int32.toBitVec_inj.1
  rw [rv_btc _ hc, rv_bt0 hm, rv_mn2_bit P hc]
  cases P c <;> rfl
