/-! odds: products, sums over the sets of shots, lowest terms -/
def rv_pd (f : Nat → Nat) : Nat → Nat
  | 0 => 1
  | n + 1 => rv_pd f n * f n
def rv_bi (m k : Nat) : Bool := decide (m / 2 ^ k % 2 = 1)
theorem rv_pd_cg {f g : Nat → Nat} : ∀ {n : Nat}, (∀ i, i < n → f i = g i) → rv_pd f n = rv_pd g n
  | 0, _ => rfl
  | n + 1, h => by rw [rv_pd, rv_pd, rv_pd_cg (n := n) (fun i hi => h i (by omega)), h n (by omega)]
theorem rv_pd_le {f : Nat → Nat} {c : Nat} : ∀ {n : Nat}, (∀ i, i < n → f i ≤ c) → rv_pd f n ≤ c ^ n
  | 0, _ => Nat.le_refl _
  | n + 1, h => by
    rw [rv_pd, Nat.pow_succ]
    exact Nat.mul_le_mul (rv_pd_le (fun i hi => h i (by omega))) (h n (by omega))
theorem rv_pd_const (c : Nat) : ∀ n : Nat, rv_pd (fun _ => c) n = c ^ n
  | 0 => rfl
  | n + 1 => by rw [rv_pd, rv_pd_const c n, Nat.pow_succ]
theorem rv_sm_app (f : Nat → Nat) (a : Nat) : ∀ b : Nat, rv_sm f (a + b) = rv_sm f a + rv_sm (fun i => f (a + i)) b
  | 0 => rfl
  | b + 1 => by
    have ih := rv_sm_app f a b
    show rv_sm f (a + b) + f (a + b) = rv_sm f a + (rv_sm (fun i => f (a + i)) b + f (a + b))
    omega
theorem rv_sm_mulr (f : Nat → Nat) (c : Nat) : ∀ n : Nat, rv_sm (fun i => f i * c) n = rv_sm f n * c
  | 0 => (Nat.zero_mul c).symm
  | n + 1 => by rw [rv_sm, rv_sm, rv_sm_mulr f c n, Nat.add_mul]
theorem rv_bi_lo {m n : Nat} (h : m < 2 ^ n) : rv_bi m n = false := by
  unfold rv_bi
  rw [Nat.div_eq_of_lt h]
  rfl
theorem rv_bi_hi {m n : Nat} (h : m < 2 ^ n) : rv_bi (2 ^ n + m) n = true := by
  unfold rv_bi
  rw [Nat.add_div_left m (Nat.two_pow_pos n), Nat.div_eq_of_lt h]
  rfl
theorem rv_bi_lt {m n k : Nat} (h : k < n) : rv_bi (2 ^ n + m) k = rv_bi m k := by
  obtain ⟨j, rfl⟩ : ∃ j, n = k + 1 + j := ⟨n - k - 1, by omega⟩
  unfold rv_bi
  rw [Nat.pow_add, Nat.pow_succ, Nat.mul_assoc, Nat.mul_add_div (Nat.two_pow_pos k), Nat.mul_add_mod]
theorem rv_ss (g : Nat → Bool → Nat) : ∀ n : Nat, rv_sm (fun m => rv_pd (fun k => g k (rv_bi m k)) n) (2 ^ n) = rv_pd (fun k => g k false + g k true) n
  | 0 => rfl
  | n + 1 => by
    have ih := rv_ss g n
    have e1 : rv_sm (fun m => rv_pd (fun k => g k (rv_bi m k)) (n + 1)) (2 ^ n) = rv_sm (fun m => rv_pd (fun k => g k (rv_bi m k)) n) (2 ^ n) * g n false := by
      rw [← rv_sm_mulr]
      exact rv_sm_cg (fun m hm => by rw [rv_pd, rv_bi_lo hm])
    have e2 : rv_sm (fun i => rv_pd (fun k => g k (rv_bi (2 ^ n + i) k)) (n + 1)) (2 ^ n) = rv_sm (fun m => rv_pd (fun k => g k (rv_bi m k)) n) (2 ^ n) * g n true := by
      rw [← rv_sm_mulr]
      exact rv_sm_cg (fun m hm => by
        rw [rv_pd, rv_bi_hi hm]
        exact congrArg (fun z => z * g n true) (rv_pd_cg (fun k hk => by rw [rv_bi_lt hk])))
    rw [Nat.pow_succ, Nat.mul_two, rv_sm_app, e1, e2, ih, ← Nat.mul_add]
    rfl
theorem rv_cap (F W : Nat → Nat) (b : Nat) : ∀ n : Nat, (if b < rv_mx F n then 0 else rv_pd W n) = rv_pd (fun k => if F k ≤ b then W k else 0) n
  | 0 => if_neg (Nat.not_lt_zero b)
  | n + 1 => by
    have ih := rv_cap F W b n
    show (if b < (if F n ≤ rv_mx F n then rv_mx F n else F n) then 0 else rv_pd W n * W n) = rv_pd (fun k => if F k ≤ b then W k else 0) n * (if F n ≤ b then W n else 0)
    rw [← ih]
    by_cases h1 : b < rv_mx F n
    · have hA : b < (if F n ≤ rv_mx F n then rv_mx F n else F n) := by split <;> omega
      rw [if_pos hA, if_pos h1, Nat.zero_mul]
    · by_cases h2 : F n ≤ b
      · have hA : ¬ b < (if F n ≤ rv_mx F n then rv_mx F n else F n) := by split <;> omega
        rw [if_neg hA, if_neg h1, if_pos h2]
      · have hA : b < (if F n ≤ rv_mx F n then rv_mx F n else F n) := by split <;> omega
        rw [if_pos hA, if_neg h2, Nat.mul_zero]
theorem rv_ten (v : Nat) (hv : v ≤ 10) (n : Nat) : rv_sm (fun m => rv_pd (fun k => if rv_bi m k then v else 10 - v) n) (2 ^ n) = 10 ^ n := by
  have h := rv_ss (fun _ x => if x then v else 10 - v) n
  refine h.trans ?_
  refine Eq.trans (rv_pd_cg (g := fun _ => 10) (fun i _ => ?_)) (rv_pd_const 10 n)
  rw [if_neg (by decide), if_pos rfl]
  omega
theorem rv_mm (v : Nat) (hv : v ≤ 10) (L : Nat → Bool → Nat) : ∀ n : Nat, rv_sm (fun m => rv_pd (fun k => if rv_bi m k then v else 10 - v) n * rv_sm (fun k => L k (rv_bi m k)) n) (2 ^ n) * 10 = 10 ^ n * (rv_sm (fun k => L k false) n * (10 - v) + rv_sm (fun k => L k true) n * v)
  | 0 => by
    show (0 + 1 * 0) * 10 = 1 * (0 * (10 - v) + 0 * v)
    omega
  | n + 1 => by
    have ih := rv_mm v hv L n
    have hT := rv_ten v hv n
    have alg : ∀ A c B l : Nat, A * c * (B + l) = A * B * c + A * (c * l) := fun A c B l => by
      rw [Nat.mul_add, Nat.mul_right_comm, Nat.mul_assoc A c l]
    have e1 : rv_sm (fun m => rv_pd (fun k => if rv_bi m k then v else 10 - v) (n + 1) * rv_sm (fun k => L k (rv_bi m k)) (n + 1)) (2 ^ n) = rv_sm (fun m => rv_pd (fun k => if rv_bi m k then v else 10 - v) n * rv_sm (fun k => L k (rv_bi m k)) n) (2 ^ n) * (10 - v) + rv_sm (fun m => rv_pd (fun k => if rv_bi m k then v else 10 - v) n) (2 ^ n) * ((10 - v) * L n false) := by
      rw [← rv_sm_mulr, ← rv_sm_mulr, ← rv_sm_add]
      exact rv_sm_cg (fun m hm => by
        rw [rv_pd, rv_sm, rv_bi_lo hm, if_neg (by decide)]
        exact alg _ _ _ _)
    have e2 : rv_sm (fun i => rv_pd (fun k => if rv_bi (2 ^ n + i) k then v else 10 - v) (n + 1) * rv_sm (fun k => L k (rv_bi (2 ^ n + i) k)) (n + 1)) (2 ^ n) = rv_sm (fun m => rv_pd (fun k => if rv_bi m k then v else 10 - v) n * rv_sm (fun k => L k (rv_bi m k)) n) (2 ^ n) * v + rv_sm (fun m => rv_pd (fun k => if rv_bi m k then v else 10 - v) n) (2 ^ n) * (v * L n true) := by
      rw [← rv_sm_mulr, ← rv_sm_mulr, ← rv_sm_add]
      exact rv_sm_cg (fun m hm => by
        have f1 : rv_pd (fun k => if rv_bi (2 ^ n + m) k then v else 10 - v) n = rv_pd (fun k => if rv_bi m k then v else 10 - v) n := rv_pd_cg (fun k hk => by rw [rv_bi_lt hk])
        have f2 : rv_sm (fun k => L k (rv_bi (2 ^ n + m) k)) n = rv_sm (fun k => L k (rv_bi m k)) n := rv_sm_cg (fun k hk => by rw [rv_bi_lt hk])
        rw [rv_pd, rv_sm, rv_bi_hi hm, if_pos rfl, f1, f2]
        exact alg _ _ _ _)
    rw [Nat.pow_succ 2, Nat.mul_two, rv_sm_app, e1, e2, hT, rv_sm, rv_sm, Nat.pow_succ 10]
    generalize rv_sm (fun m => rv_pd (fun k => if rv_bi m k then v else 10 - v) n * rv_sm (fun k => L k (rv_bi m k)) n) (2 ^ n) = M at *
    generalize rv_sm (fun k => L k false) n = s0 at *
    generalize rv_sm (fun k => L k true) n = s1 at *
    generalize L n false = l0 at *
    generalize L n true = l1 at *
    generalize 10 ^ n = T at *
    have hM : M * (10 - v) + M * v = M * 10 := by
      rw [← Nat.mul_add]
      exact congrArg (fun z => M * z) (by omega)
    generalize 10 - v = c at *
    have h2 : T * ((s0 + l0) * c + (s1 + l1) * v) = T * (s0 * c + s1 * v) + T * (c * l0) + T * (v * l1) := by
      rw [Nat.add_mul, Nat.add_mul, Nat.mul_comm l0 c, Nat.mul_comm l1 v, show s0 * c + c * l0 + (s1 * v + v * l1) = s0 * c + s1 * v + c * l0 + v * l1 by omega, Nat.mul_add, Nat.mul_add]
    have h1 : M * c + T * (c * l0) + (M * v + T * (v * l1)) = T * ((s0 + l0) * c + (s1 + l1) * v) := by
      rw [h2]
      omega
    rw [h1, Nat.mul_right_comm]
theorem rv_lw {p q c d : Nat} (h : p * d = q * c) (hq : 0 < q) (hd : 0 < d) : p / Nat.gcd p q = c / Nat.gcd c d ∧ q / Nat.gcd p q = d / Nat.gcd c d := by
  have hg : Nat.gcd p q * d = q * Nat.gcd c d := by rw [← Nat.gcd_mul_right, ← Nat.gcd_mul_left, h]
  constructor
  · rw [← Nat.mul_div_mul_right p (Nat.gcd p q) hd, hg, h, Nat.mul_div_mul_left c _ hq]
  · rw [← Nat.mul_div_mul_right q (Nat.gcd p q) hd, hg, Nat.mul_div_mul_left d _ hq]
/-! Euclid's steps -/
theorem rv_l0 : (0 : Int64) = lN 0 := rfl
theorem rv_l1 : (1 : Int64) = lN 1 := rfl
theorem rv_l10 : (10 : Int64) = lN 10 := rfl
theorem rv_cmp_eq {x y : Int64} : lg_cmp x y = 0 ↔ x = y := by
  unfold lg_cmp
  by_cases h1 : x > y
  · rw [if_pos h1]
    exact ⟨fun z => absurd z (by decide), fun z => absurd (z ▸ h1) Int64.lt_irrefl⟩
  · rw [if_neg h1]
    by_cases h2 : x = y
    · rw [if_pos h2]
      exact ⟨fun _ => h2, fun _ => rfl⟩
    · rw [if_neg h2]
      exact ⟨fun z => absurd z (by decide), fun z => absurd z h2⟩
theorem rv_gcd1 (a b : Nat) : Nat.gcd b (a % b) = Nat.gcd a b := by
  rw [Nat.gcd_comm a b, Nat.gcd_rec b a, Nat.gcd_comm]
theorem rv_half {a b s : Nat} (h0 : 0 < a % b) (hb : b < 2 ^ (s + 1)) (hp : 0 < b) : b % (a % b) < 2 ^ s := by
  have h1 := Nat.mod_lt a hp
  have h2 := Nat.mod_lt b h0
  have h3 := Nat.div_add_mod b (a % b)
  have h4 : 0 < b / (a % b) := Nat.div_pos (by omega) h0
  have h5 : a % b * 1 ≤ a % b * (b / (a % b)) := Nat.mul_le_mul_left _ h4
  rw [Nat.pow_succ] at hb
  omega
theorem rv_eur0 (K : Int64 → Int64 → Option Int64) (f a : Nat) : xf_X5_common_l6 K (f + 1) (lN a) (lN 0) = K (lN a) (lN 0) := by
  rw [xf_X5_common_l6, if_pos (show lg_cmp (lN 0) 0 = 0 from rv_cmp_eq.mpr rfl)]
theorem rv_eur1 (K : Int64 → Int64 → Option Int64) (f : Nat) {a b : Nat} (ha : a < 2 ^ 63) (h0 : 0 < b) (hb : b < 2 ^ 63) : xf_X5_common_l6 K (f + 1) (lN a) (lN b) = xf_X5_common_l6 K f (lN b) (lN (a % b)) := by
  have hne : ¬ lN b = 0 := fun z => by
    have := (pk_lEQ hb (by omega)).mp (z.trans rv_l0)
    omega
  rw [xf_X5_common_l6, if_neg (fun z => hne (rv_cmp_eq.mp z)), if_neg hne, rv_lts, pk_lRem ha h0 hb]
theorem rv_eur (K : Int64 → Int64 → Option Int64) : ∀ (s fu a b : Nat), b < 2 ^ s → s ≤ 62 → a < 2 ^ 63 → 2 * s + 1 < fu → xf_X5_common_l6 K fu (lN a) (lN b) = K (lN (Nat.gcd a b)) (lN 0) := by
  intro s
  induction s with
  | zero =>
    intro fu a b hb hs ha hf
    obtain ⟨f, rfl⟩ : ∃ f, fu = f + 1 := ⟨fu - 1, by omega⟩
    obtain rfl : b = 0 := by omega
    rw [rv_eur0, Nat.gcd_zero_right]
  | succ s ih =>
    intro fu a b hb hs ha hf
    obtain ⟨f, rfl⟩ : ∃ f, fu = f + 1 + 1 := ⟨fu - 2, by omega⟩
    by_cases h0 : b = 0
    · rw [h0, rv_eur0, Nat.gcd_zero_right]
    · have hb2 : b < 2 ^ 63 := Nat.lt_of_lt_of_le hb (Nat.pow_le_pow_right (by omega) (by omega))
      rw [rv_eur1 K _ ha (by omega) hb2, ← rv_gcd1 a b]
      by_cases h1 : a % b = 0
      · rw [h1, rv_eur0, Nat.gcd_zero_right]
      · have hl := Nat.mod_lt a (show 0 < b by omega)
        rw [rv_eur1 K _ hb2 (by omega) (by omega), ih f _ _ (rv_half (by omega) hb (by omega)) (by omega) (by omega) (by omega), rv_gcd1]
theorem rv_euc0 (K : Int64 → Int64 → Int32 → Option Int64) (f a : Nat) {i : Nat} (hi : i < 100) : xf_X4_inLowestTerms_l9 K (f + 1) (lN a) (lN 0) (nI i) = K (lN a) (lN 0) (nI i) := by
  rw [xf_X4_inLowestTerms_l9, show (100 : Int32) = nI 100 from rfl, rv_le (by omega) (by omega), if_neg (by omega), if_pos (show lg_cmp (lN 0) 0 = 0 from rv_cmp_eq.mpr rfl)]
theorem rv_euc1 (K : Int64 → Int64 → Int32 → Option Int64) (f : Nat) {a b i : Nat} (hi : i < 100) (ha : a < 2 ^ 63) (h0 : 0 < b) (hb : b < 2 ^ 63) : xf_X4_inLowestTerms_l9 K (f + 1) (lN a) (lN b) (nI i) = xf_X4_inLowestTerms_l9 K f (lN b) (lN (a % b)) (nI (i + 1)) := by
  have hne : ¬ lN b = 0 := fun z => by
    have := (pk_lEQ hb (by omega)).mp (z.trans rv_l0)
    omega
  rw [xf_X4_inLowestTerms_l9, show (100 : Int32) = nI 100 from rfl, rv_le (by omega) (by omega), if_neg (by omega), if_neg (fun z => hne (rv_cmp_eq.mp z)), if_neg hne, rv_lts, rv_lts, pk_lRem ha h0 hb, nI_1]
theorem rv_euc (K : Int64 → Int64 → Int32 → Option Int64) : ∀ (s fu a b i : Nat), b < 2 ^ s → s ≤ 62 → a < 2 ^ 63 → 2 * s + 1 < fu → i + 2 * s < 100 → ∃ j, xf_X4_inLowestTerms_l9 K fu (lN a) (lN b) (nI i) = K (lN (Nat.gcd a b)) (lN 0) j := by
  intro s
  induction s with
  | zero =>
    intro fu a b i hb hs ha hf hi
    obtain ⟨f, rfl⟩ : ∃ f, fu = f + 1 := ⟨fu - 1, by omega⟩
    obtain rfl : b = 0 := by omega
    exact ⟨nI i, by rw [rv_euc0 _ _ _ (by omega), Nat.gcd_zero_right]⟩
  | succ s ih =>
    intro fu a b i hb hs ha hf hi
    obtain ⟨f, rfl⟩ : ∃ f, fu = f + 1 + 1 := ⟨fu - 2, by omega⟩
    by_cases h0 : b = 0
    · exact ⟨nI i, by rw [h0, rv_euc0 _ _ _ (by omega), Nat.gcd_zero_right]⟩
    · have hb2 : b < 2 ^ 63 := Nat.lt_of_lt_of_le hb (Nat.pow_le_pow_right (by omega) (by omega))
      rw [rv_euc1 K _ (by omega) ha (by omega) hb2, ← rv_gcd1 a b]
      by_cases h1 : a % b = 0
      · exact ⟨nI (i + 1), by rw [h1, rv_euc0 _ _ _ (by omega), Nat.gcd_zero_right]⟩
      · have hl := Nat.mod_lt a (show 0 < b by omega)
        rw [rv_euc1 K _ (by omega) hb2 (by omega) (by omega), ← rv_gcd1 b (a % b)]
        exact ih f _ _ (i + 1 + 1) (rv_half (by omega) hb (by omega)) (by omega) (by omega) (by omega) (by omega)
theorem rv_gcd_pos {p q : Nat} (hq : 0 < q) : 0 < Nat.gcd p q ∧ Nat.gcd p q ≤ q := ⟨Nat.gcd_pos_of_pos_right p hq, Nat.gcd_le_right p hq⟩
theorem rv_cLow (S : rs_St) {p q : Nat} (hp : p < 2 ^ 62) (hq0 : 0 < q) (hq : q < 2 ^ 40) (a3 : Int32) : xf_X4_inLowestTerms S (lN p) (lN q) a3 = some (if a3 = 0 then lN (p / Nat.gcd p q) else lN (q / Nat.gcd p q)) := by
  obtain ⟨g1, g2⟩ := rv_gcd_pos (p := p) hq0
  obtain ⟨j, e⟩ := rv_euc (fun (x9 : Int64) (x10 : Int64) (x11 : Int32) => if 0 ≤ (lg_cmp x9 1) then if a3 = 0 then if x9 = 0 then none else some (lN p / x9) else if x9 = 0 then none else some (lN q / x9) else if a3 = 0 then some (lN p) else some (lN q)) 40 rs_fu p q 0 hq (by omega) (by omega) (by unfold rs_fu; omega) (by omega)
  unfold xf_X4_inLowestTerms
  refine e.trans ?_
  have h1 : (0 : Int32) ≤ lg_cmp (lN (Nat.gcd p q)) 1 := Int32.not_lt.mp (fun z => by
    have := (pk_lLT (by omega) (by omega)).mp ((rv_cmp_lt.mp z : lN (Nat.gcd p q) < lN 1))
    omega)
  have hne : ¬ lN (Nat.gcd p q) = 0 := fun z => by
    have := (pk_lEQ (by omega) (by omega)).mp (z.trans rv_l0)
    omega
  rw [if_pos h1, if_neg hne, if_neg hne, pk_lDiv (by omega) g1 (by omega), pk_lDiv (by omega) g1 (by omega)]
  split <;> rfl
theorem rv_rLow (S : rs_St) {p q : Nat} (hp : p < 2 ^ 62) (hq0 : 0 < q) (hq : q < 2 ^ 62) (a3 : Int32) : xf_X5_lowest S (lN p) (lN q) a3 = some (if a3 = 0 then lN (p / Nat.gcd p q) else lN (q / Nat.gcd p q)) := by
  obtain ⟨g1, g2⟩ := rv_gcd_pos (p := p) hq0
  have e : xf_X5_common S (lN q) (lN p) = some (lN (Nat.gcd p q)) := by
    unfold xf_X5_common
    rw [rv_eur _ 62 rs_fu q p hp (by omega) (by omega) (by unfold rs_fu; omega), Nat.gcd_comm]
  have hne : ¬ lN (Nat.gcd p q) = 0 := fun z => by
    have := (pk_lEQ (by omega) (by omega)).mp (z.trans rv_l0)
    omega
  unfold xf_X5_lowest
  rw [e, rv_b1s, if_neg hne, if_neg hne, pk_lDiv (by omega) g1 (by omega), pk_lDiv (by omega) g1 (by omega)]
  split <;> rfl
