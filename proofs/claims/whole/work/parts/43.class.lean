/-! a scene of the class's: what it gives -/
theorem rv_12 : (12 : Int32) = nI 12 := rfl
theorem rv_per {g : Nat → Nat} {p : Nat} (hp : 0 < p) (x : Nat) : ∀ n : Nat, rv_sm (fun i => g ((x + i) % p)) n + rv_sm g (x % p) = ((x % p + n) / p) * rv_sm g p + rv_sm g ((x % p + n) % p)
  | 0 => by
    have h := Nat.mod_lt x hp
    rw [Nat.add_zero, Nat.div_eq_of_lt h, Nat.mod_eq_of_lt h]
    simp [rv_sm]
  | n + 1 => by
    have ih := rv_per (g := g) hp x n
    have hr : (x % p + n) % p < p := Nat.mod_lt _ hp
    have hm : (x + n) % p = (x % p + n) % p := by rw [Nat.mod_add_mod]
    rw [rv_sm, hm]
    have hd := Nat.div_add_mod (x % p + n) p
    generalize hq : (x % p + n) / p = q at *
    generalize hrr : (x % p + n) % p = r at *
    have e : x % p + (n + 1) = p * q + (r + 1) := by omega
    rw [e]
    by_cases h1 : r + 1 < p
    · rw [Nat.mul_add_div hp, Nat.mul_add_mod, Nat.div_eq_of_lt h1, Nat.mod_eq_of_lt h1, Nat.add_zero, rv_sm]
      omega
    · have e2 : r + 1 = p := by omega
      rw [e2, Nat.mul_add_div hp, Nat.mul_add_mod, Nat.div_self hp, Nat.mod_self, Nat.succ_mul]
      have e3 : rv_sm g p = rv_sm g r + g r := by rw [← e2, rv_sm]
      show _ = _ + _ + 0
      omega
def rv_gf (a : Nat → Nat) (l : Nat) : Nat → Nat := rv_gv (a (4 * l)) (a (4 * l + 1)) (a (4 * l + 2))
def rv_lm (S : rs_St) (k : Nat) (a : Nat → Nat) (u : Nat → Bool) (l : Nat) : Prop := (∀ p, p < 4 → rs_gi S (k + 1) p = nI (a (4 * l + p))) ∧ ∀ s, s ≤ a (4 * l + 2) → rs_gi S (k + 2) s = nI (if u l then rv_sm (rv_gf a l) s else 0)
def rv_sc (S : rs_St) (B : Nat) (a : Nat → Nat) (u : Nat → Bool) : Prop := rs_gi S B 1 = nI (a 16) ∧ rs_gi S B 3 = nI (a 21) ∧ (∀ j, j < 4 → rs_gi S (B + 2) j = nI (a (17 + j))) ∧ ∀ l, l < a 16 → rv_lm S (B + 1 + 6 + 3 * l) a u l
theorem rv_G_le {a : Nat → Nat} (w : rv_wf a) {l : Nat} (hl : l < a 16) (b : Bool) {s : Nat} (hs : s ≤ a (4 * l + 2)) : (if b then rv_sm (rv_gf a l) s else 0) ≤ 108 := by
  obtain ⟨h1, h2, h3, h4, h5, h6⟩ := w.2.1 l hl
  split
  · have : rv_sm (rv_gf a l) s ≤ s * 9 := rv_sm_le (fun i hi => Nat.le_trans (rv_gv_le (by omega)) h3)
    omega
  · omega
theorem rv_cgives {S : rs_St} {k : Nat} {a : Nat → Nat} {u : Nat → Bool} {l : Nat} (w : rv_wf a) (hl : l < a 16) (h : rv_lm S k a u l) {t n : Nat} (ht : t < 1000000) (hn : n ≤ 20) : xf_X0_gives S k (nI t) (nI n) = some (nI (if u l then rv_sm (fun i => rv_lp a l (t + i)) n else 0)) := by
  obtain ⟨h1, h2, h3, h4, h5, h6⟩ := w.2.1 l hl
  have g2 : rs_gi S (k + 1) 2 = nI (a (4 * l + 2)) := h.1 2 (by omega)
  have g3 : rs_gi S (k + 1) 3 = nI (a (4 * l + 3)) := h.1 3 (by omega)
  have hm : (t + a (4 * l + 3)) % a (4 * l + 2) < a (4 * l + 2) := Nat.mod_lt _ h4
  have hm2 : n % a (4 * l + 2) < a (4 * l + 2) := Nat.mod_lt _ h4
  have hq : n / a (4 * l + 2) ≤ 20 := Nat.le_trans (Nat.div_le_self _ _) hn
  have hper := rv_per (g := rv_gf a l) (p := a (4 * l + 2)) (by omega) (t + a (4 * l + 3)) n
  have hsm : rv_sm (fun i => rv_lp a l (t + i)) n = rv_sm (fun i => rv_gf a l ((t + a (4 * l + 3) + i) % a (4 * l + 2))) n := rv_sm_cg (fun i _ => by
    unfold rv_lp rv_gf
    rw [show t + i + a (4 * l + 3) = t + a (4 * l + 3) + i by omega])
  have hdm := Nat.div_add_mod n (a (4 * l + 2))
  unfold xf_X0_gives
  simp only [rs_lt, g2, g3]
  simp (disch := omega) only [rv_0, rv_1, rv_12, nI_add, rv_rem]
  have z0 : ¬ nI (a (4 * l + 2)) = nI 0 := fun e => by
    have := (nI_eq (by omega) (by omega)).mp e
    omega
  rw [rv_lt (by omega) (by omega), if_neg (by omega), rv_lt (by omega) (by omega), if_neg (by omega), rv_lt (by omega) (by omega), if_neg (by omega), rv_le (by omega) (by omega), if_pos (by omega)]
  simp only [if_neg z0]
  rw [pk_div (by omega) (by omega) (by omega)]
  rw [hsm]
  generalize hst : (t + a (4 * l + 3)) % a (4 * l + 2) = st at *
  generalize hqq : n / a (4 * l + 2) = q at *
  generalize hrr : n % a (4 * l + 2) = r at *
  have fin : ∀ pa ro : Nat, pa < a (4 * l + 2) → ro ≤ 21 → (st + n) / a (4 * l + 2) = ro → (st + n) % a (4 * l + 2) = pa → (if nI (a (4 * l + 2)) < nI 0 ∨ 13 ≤ (nI (a (4 * l + 2))).toNatClampNeg then none else if nI pa < nI 0 ∨ 13 ≤ (nI pa).toNatClampNeg then none else if nI st < nI 0 ∨ 13 ≤ (nI st).toNatClampNeg then none else some (nI ro * rs_gi S (k + 2) (nI (a (4 * l + 2))).toNatClampNeg + rs_gi S (k + 2) (nI pa).toNatClampNeg - rs_gi S (k + 2) (nI st).toNatClampNeg)) = some (nI (if u l = true then rv_sm (fun i => rv_gf a l ((t + a (4 * l + 3) + i) % a (4 * l + 2))) n else 0)) := by
    intro pa ro hpa hro e1 e2
    rw [nI_0, rv_ckn (by omega) (by omega), rv_ckn (by omega) (by omega), rv_ckn (by omega) (by omega), nI_clamp (by omega), nI_clamp (by omega), nI_clamp (by omega), h.2 _ (by omega), h.2 _ (by omega), h.2 _ (by omega)]
    rw [e1, e2] at hper
    cases hul : u l with
    | false => 
      simp only [Bool.false_eq_true, if_false]
      rw [pk_mul, nI_add, pk_sub (by omega)]
      simp
    | true =>
      simp only [if_true]
      rw [pk_mul, nI_add, pk_sub (by omega), show ro * rv_sm (rv_gf a l) (a (4 * l + 2)) + rv_sm (rv_gf a l) pa - rv_sm (rv_gf a l) st = rv_sm (fun i => rv_gf a l ((t + a (4 * l + 3) + i) % a (4 * l + 2))) n by omega]
  have hsn : st + n = a (4 * l + 2) * q + (st + r) := by omega
  simp only [rs_jn]
  rw [rv_lt (by omega) (by omega)]
  by_cases hx : st + r < a (4 * l + 2)
  · rw [if_pos hx]
    exact fin (st + r) q hx (by omega) (by rw [hsn, Nat.mul_add_div (by omega), Nat.div_eq_of_lt hx, Nat.add_zero]) (by rw [hsn, Nat.mul_add_mod, Nat.mod_eq_of_lt hx])
  · have hx2 : st + r - a (4 * l + 2) < a (4 * l + 2) := by omega
    have e3 : a (4 * l + 2) * q + (st + r) = a (4 * l + 2) * (q + 1) + (st + r - a (4 * l + 2)) := by rw [Nat.mul_add]; omega
    rw [if_neg hx, pk_sub (by omega), nI_add]
    exact fin (st + r - a (4 * l + 2)) (q + 1) hx2 (by omega) (by rw [hsn, e3, Nat.mul_add_div (by omega), Nat.div_eq_of_lt hx2, Nat.add_zero]) (by rw [hsn, e3, Nat.mul_add_mod, Nat.mod_eq_of_lt hx2])
theorem rv_clight_l {S : rs_St} {B : Nat} {a : Nat → Nat} {u : Nat → Bool} (w : rv_wf a) (h : rv_sc S B a u) {t n : Nat} (ht : t < 1000000) (hn : n ≤ 20) (K : Int32 → Int32 → Option Int32) : ∀ (d l fu : Nat), l + d = a 16 → d < fu → xf_X1_lightIn_l5 S B (nI t) (nI n) K fu (nI (rv_sm (fun l => if u l then rv_sm (fun i => rv_lp a l (t + i)) n else 0) l)) (nI l) = K (nI (rv_sm (fun l => if u l then rv_sm (fun i => rv_lp a l (t + i)) n else 0) (a 16))) (nI (a 16)) := by
  have hc := w.1
  intro d
  induction d with
  | zero =>
    intro l fu hl hf
    obtain ⟨f, rfl⟩ : ∃ f, fu = f + 1 := ⟨fu - 1, by omega⟩
    rw [xf_X1_lightIn_l5, h.1, rv_le (by omega) (by omega), if_pos (by omega), show l = a 16 by omega]
  | succ d ih =>
    intro l fu hl hf
    obtain ⟨f, rfl⟩ : ∃ f, fu = f + 1 := ⟨fu - 1, by omega⟩
    rw [xf_X1_lightIn_l5, h.1, rv_le (by omega) (by omega), if_neg (by omega), rv_ckn (by omega) (by omega), nI_clamp (by omega), rv_cgives w (by omega) (h.2.2.2 l (by omega)) ht hn]
    simp only [rs_b1, rs_lt]
    rw [nI_add, nI_1]
    exact ih (l + 1) f (by omega) (by omega)
theorem rv_sm_add (f g : Nat → Nat) : ∀ n : Nat, rv_sm (fun i => f i + g i) n = rv_sm f n + rv_sm g n
  | 0 => rfl
  | n + 1 => by
    rw [rv_sm, rv_sm, rv_sm, rv_sm_add f g n]
    omega
theorem rv_sm_z : ∀ n : Nat, rv_sm (fun _ => 0) n = 0
  | 0 => rfl
  | n + 1 => by rw [rv_sm, rv_sm_z n]
theorem rv_swap (f : Nat → Nat → Nat) (m : Nat) : ∀ n : Nat, rv_sm (fun l => rv_sm (fun i => f l i) m) n = rv_sm (fun i => rv_sm (fun l => f l i) n) m
  | 0 => by
    show 0 = rv_sm (fun _ => 0) m
    rw [rv_sm_z]
  | n + 1 => by
    rw [rv_sm, rv_swap f m n, ← rv_sm_add]
    rfl
theorem rv_clight {S : rs_St} {B : Nat} {a : Nat → Nat} {u : Nat → Bool} (w : rv_wf a) (h : rv_sc S B a u) {t n : Nat} (ht : t < 1000000) (hn : n ≤ 20) : xf_X1_lightIn S B (nI t) (nI n) = some (nI (rv_sm (fun i => rv_sh a u (t + i)) n)) := by
  have hc := w.1
  refine (rv_clight_l w h ht hn _ (a 16) 0 rs_fu (by omega) (by unfold rs_fu; omega)).trans ?_
  have e : rv_sm (fun l => if u l then rv_sm (fun i => rv_lp a l (t + i)) n else 0) (a 16) = rv_sm (fun i => rv_sh a u (t + i)) n := by
    have e1 : rv_sm (fun l => if u l then rv_sm (fun i => rv_lp a l (t + i)) n else 0) (a 16) = rv_sm (fun l => rv_sm (fun i => if u l then rv_lp a l (t + i) else 0) n) (a 16) := rv_sm_cg (fun l _ => by
      cases u l with
      | false => simp [rv_sm_z]
      | true => simp)
    rw [e1, rv_swap]
    rfl
  rw [e]
theorem rv_cbright {S : rs_St} {B : Nat} {a : Nat → Nat} {u : Nat → Bool} (w : rv_wf a) (h : rv_sc S B a u) (ht : a 21 ≤ 99999) {n r : Nat} (hn : n ≤ 41) (hr : r ≤ 8) : xf_X1_bright S B (nI n) (nI r) = some (nI (rv_rw a u (rv_T a n) r)) := by
  obtain ⟨hc, -, -, hd, he, hp⟩ := id w
  have hm : n * a 20 ≤ 41 * 60 := Nat.mul_le_mul hn hp.2
  have hdr : a 18 * r ≤ 9 * 8 := Nat.mul_le_mul hd hr
  have hb : rv_sm (fun i => rv_sh a u (a 21 + n * a 20 + a 18 * r + i)) (a 19) ≤ a 19 * 36 := rv_sm_le (fun i _ => rv_sh_le w _ _)
  have r1 : rs_gi S (B + 2) 1 = nI (a 18) := h.2.2.1 1 (by omega)
  have r2 : rs_gi S (B + 2) 2 = nI (a 19) := h.2.2.1 2 (by omega)
  have r3 : rs_gi S (B + 2) 3 = nI (a 20) := h.2.2.1 3 (by omega)
  unfold xf_X1_bright xf_X1_startOf
  simp only [rs_b1, h.2.1, r1, r2, r3]
  rw [pk_mul, nI_add, pk_mul, nI_add, rv_clight w h (by omega) (by omega)]
  simp only
  rw [rv_255, rv_lt (by omega) (by omega)]
  unfold rv_rw rv_br rv_T
  by_cases q : rv_sm (fun i => rv_sh a u (a 21 + n * a 20 + a 18 * r + i)) (a 19) < 255
  · rw [if_pos q, if_pos (by omega)]
  · rw [if_neg q]
    by_cases q2 : rv_sm (fun i => rv_sh a u (a 21 + n * a 20 + a 18 * r + i)) (a 19) ≤ 255
    · rw [if_pos q2, show rv_sm (fun i => rv_sh a u (a 21 + n * a 20 + a 18 * r + i)) (a 19) = 255 by omega]
    · rw [if_neg q2]
