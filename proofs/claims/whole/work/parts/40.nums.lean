/-! numbers -/
theorem rv_0 : (0 : Int32) = nI 0 := rfl
theorem rv_1 : (1 : Int32) = nI 1 := rfl
theorem rv_2 : (2 : Int32) = nI 2 := rfl
theorem rv_3 : (3 : Int32) = nI 3 := rfl
theorem rv_4 : (4 : Int32) = nI 4 := rfl
theorem rv_8 : (8 : Int32) = nI 8 := rfl
theorem rv_24 : (24 : Int32) = nI 24 := rfl
theorem rv_51 : (51 : Int32) = nI 51 := rfl
theorem rv_255 : (255 : Int32) = nI 255 := rfl
theorem rv_rem {a d : Nat} (ha : a < 2 ^ 31) (h0 : 0 < d) (hd : d < 2 ^ 31) : nI a - nI a / nI d * nI d = nI (a % d) := pk_rem ha h0 hd
theorem rv_ne {x : Int32} {n : Nat} (h : n < 2 ^ 31) (hx : x < 0) : ¬ nI n = x := by
  intro e
  rw [← e] at hx
  exact nI_pos h hx
theorem rv_ckn {α : Type} {i n : Nat} {x : Option α} (h : i < n) (hn : n < 2 ^ 31) : (if nI i < 0 ∨ n ≤ (nI i).toNatClampNeg then none else x) = x := by
  rw [if_neg]
  rintro (h1 | h1)
  · exact nI_pos (by omega) h1
  · rw [nI_clamp (by omega)] at h1
    omega
theorem rv_le {α : Sort _} {a b : Nat} {x y : α} (ha : a < 2 ^ 31) (hb : b < 2 ^ 31) : (if nI a ≤ nI b then x else y) = if a ≤ b then x else y := by
  by_cases h : a ≤ b
  · rw [if_pos h, if_pos ((nI_leI ha hb).mpr h)]
  · rw [if_neg h, if_neg (fun z => h ((nI_leI ha hb).mp z))]
theorem rv_lt {α : Sort _} {a b : Nat} {x y : α} (ha : a < 2 ^ 31) (hb : b < 2 ^ 31) : (if nI a < nI b then x else y) = if a < b then x else y := by
  by_cases h : a < b
  · rw [if_pos h, if_pos ((nI_ltI ha hb).mpr h)]
  · rw [if_neg h, if_neg (fun z => h ((nI_ltI ha hb).mp z))]
theorem rv_eq {α : Sort _} {a b : Nat} {x y : α} (ha : a < 2 ^ 31) (hb : b < 2 ^ 31) : (if nI a = nI b then x else y) = if a = b then x else y := by
  by_cases h : a = b
  · rw [if_pos h, if_pos ((nI_eq ha hb).mpr h)]
  · rw [if_neg h, if_neg (fun z => h ((nI_eq ha hb).mp z))]
/-- what a lamp of a kind gives at a stand -/
def rv_gv (k li pe st : Nat) : Nat := if k = 1 then (if 2 * st < pe then li else 0) else if k = 2 then li * st / pe else if k = 3 then (if 2 * st < pe then li else li / 2) else li
def rv_sm (f : Nat → Nat) : Nat → Nat
  | 0 => 0
  | n + 1 => rv_sm f n + f n
def rv_mx (f : Nat → Nat) : Nat → Nat
  | 0 => 0
  | n + 1 => if f n ≤ rv_mx f n then rv_mx f n else f n
def rv_mn (f : Nat → Nat) : Nat → Nat
  | 0 => 255
  | n + 1 => if rv_mn f n ≤ f n then rv_mn f n else f n
def rv_lp (a : Nat → Nat) (l t : Nat) : Nat := rv_gv (a (4 * l)) (a (4 * l + 1)) (a (4 * l + 2)) ((t + a (4 * l + 3)) % a (4 * l + 2))
def rv_sh (a : Nat → Nat) (u : Nat → Bool) (t : Nat) : Nat := rv_sm (fun l => if u l then rv_lp a l t else 0) (a 16)
def rv_br (a : Nat → Nat) (u : Nat → Bool) (t : Nat) : Nat := if rv_sm (fun i => rv_sh a u (t + i)) (a 19) ≤ 255 then rv_sm (fun i => rv_sh a u (t + i)) (a 19) else 255
def rv_rw (a : Nat → Nat) (u : Nat → Bool) (t r : Nat) : Nat := rv_br a u (t + a 18 * r)
/-- a scene's numbers, in the order of the reference's row: they are in their ranges -/
def rv_wf (a : Nat → Nat) : Prop := a 16 ≤ 4 ∧ (∀ l, l < a 16 → a (4 * l) ≤ 3 ∧ 1 ≤ a (4 * l + 1) ∧ a (4 * l + 1) ≤ 9 ∧ 1 ≤ a (4 * l + 2) ∧ a (4 * l + 2) ≤ 12 ∧ a (4 * l + 3) ≤ 11) ∧ (1 ≤ a 17 ∧ a 17 ≤ 8) ∧ a 18 ≤ 9 ∧ (1 ≤ a 19 ∧ a 19 ≤ 20) ∧ (1 ≤ a 20 ∧ a 20 ≤ 60)
theorem rv_gv_le {k li pe st : Nat} (hs : st < pe) : rv_gv k li pe st ≤ li := by
  unfold rv_gv
  split
  · split <;> omega
  · split
    · exact Nat.div_le_of_le_mul (by rw [Nat.mul_comm]; exact Nat.mul_le_mul_right _ (Nat.le_of_lt hs))
    · split
      · split
        · omega
        · exact Nat.div_le_self _ _
      · omega
theorem rv_sm_le {f : Nat → Nat} {c : Nat} : ∀ {n : Nat}, (∀ i, i < n → f i ≤ c) → rv_sm f n ≤ n * c
  | 0, _ => by simp [rv_sm]
  | n + 1, h => by
    have h1 := rv_sm_le (n := n) (fun i hi => h i (by omega))
    have h2 := h n (by omega)
    rw [rv_sm, Nat.succ_mul]
    omega
theorem rv_lp_le {a : Nat → Nat} (w : rv_wf a) {l : Nat} (hl : l < a 16) (t : Nat) : rv_lp a l t ≤ 9 := by
  obtain ⟨h1, h2, h3, h4, h5, h6⟩ := w.2.1 l hl
  exact Nat.le_trans (rv_gv_le (Nat.mod_lt _ h4)) h3
theorem rv_sh_le {a : Nat → Nat} (w : rv_wf a) (u : Nat → Bool) (t : Nat) : rv_sh a u t ≤ 36 := by
  have h : rv_sh a u t ≤ a 16 * 9 := rv_sm_le (fun l hl => by
    split
    · exact rv_lp_le w hl t
    · omega)
  have := w.1
  omega
theorem rv_br_le (a : Nat → Nat) (u : Nat → Bool) (t : Nat) : rv_br a u t ≤ 255 := by
  unfold rv_br
  split <;> omega
/-! the reference's row 'now' holds a -/
def rv_nw (S : rs_St) (a : Nat → Nat) : Prop := ∀ j, j < 51 → rs_gi S 93 j = nI (a j)
theorem rv_of {S : rs_St} {a : Nat → Nat} (h : rv_nw S a) {l p : Nat} (hl : l < 4) (hp : p < 4) : xf_X5_of S (nI l) (nI p) = some (nI (a (4 * l + p))) := by
  unfold xf_X5_of
  rw [rv_4, pk_mul, nI_add, rv_ckn (by omega) (by omega), nI_clamp (by omega), h _ (by omega)]
theorem rv_gives {S : rs_St} {a : Nat → Nat} (h : rv_nw S a) (w : rv_wf a) {l t : Nat} (hl : l < a 16) (ht : t < 1000000) : xf_X5_gives S (nI l) (nI t) = some (nI (rv_lp a l t)) := by
  have hc := w.1
  obtain ⟨h1, h2, h3, h4, h5, h6⟩ := w.2.1 l hl
  have o0 : xf_X5_of S (nI l) (nI 0) = some (nI (a (4 * l))) := rv_of h (l := l) (p := 0) (by omega) (by omega)
  have o1 := rv_of h (l := l) (p := 1) (by omega) (by omega)
  have o2 := rv_of h (l := l) (p := 2) (by omega) (by omega)
  have o3 := rv_of h (l := l) (p := 3) (by omega) (by omega)
  have hm : (t + a (4 * l + 3)) % a (4 * l + 2) < a (4 * l + 2) := Nat.mod_lt _ h4
  have hd : a (4 * l + 1) * ((t + a (4 * l + 3)) % a (4 * l + 2)) ≤ 9 * 12 := Nat.mul_le_mul h3 (by omega)
  unfold xf_X5_gives
  simp (disch := omega) only [rv_0, rv_1, rv_2, rv_3, o0, o1, o2, o3, rs_b1, rs_lt, rs_jn, nI_add, rv_eq, rv_rem]
  simp (disch := omega) only [rv_le, pk_mul, pk_div]
  unfold rv_lp rv_gv
  generalize (t + a (4 * l + 3)) % a (4 * l + 2) = st at *
  by_cases q : a (4 * l + 2) ≤ 2 * st
  · simp only [if_pos q, if_neg (show ¬ 2 * st < a (4 * l + 2) by omega), if_true, if_neg (show ¬ a (4 * l + 2) = 0 by omega)]
    split
    · rfl
    · split
      · rfl
      · split <;> rfl
  · simp only [if_neg q, if_pos (show 2 * st < a (4 * l + 2) by omega), if_neg (show ¬ (1 : Nat) = 0 by omega), if_neg (show ¬ a (4 * l + 2) = 0 by omega)]
    split
    · rfl
    · split
      · rfl
      · split <;> rfl
/-! a loop of the reference's: shine -/
def rv_on (S : rs_St) (a : Nat → Nat) (l : Nat) : Bool := decide (¬ nI l = rs_gi S 91 13) && (decide (rs_gi S 91 14 = 0) || decide (a (4 * l) = 0))
theorem rv_sm_mono (f : Nat → Nat) (m n : Nat) (h : m ≤ n) : rv_sm f m ≤ rv_sm f n := by
  induction n with
  | zero => rw [show m = 0 by omega]; exact Nat.le_refl _
  | succ n ih =>
    rcases Nat.lt_or_ge m (n + 1) with q | q
    · have := ih (by omega)
      rw [rv_sm]
      omega
    · rw [show m = n + 1 by omega]
      exact Nat.le_refl _
theorem rv_shine_l {S : rs_St} {a : Nat → Nat} (h : rv_nw S a) (w : rv_wf a) {t : Nat} (ht : t < 1000000) (K : Int32 → Int32 → Option Int32) : ∀ (d l fu : Nat), l + d = a 16 → d < fu → xf_X5_shine_l4 S (nI t) K fu (nI (rv_sm (fun l => if rv_on S a l then rv_lp a l t else 0) l)) (nI l) = K (nI (rv_sh a (rv_on S a) t)) (nI (a 16)) := by
  have hc := w.1
  intro d
  induction d with
  | zero =>
    intro l fu hl hf
    obtain ⟨f, rfl⟩ : ∃ f, fu = f + 1 := ⟨fu - 1, by omega⟩
    rw [xf_X5_shine_l4, h 16 (by omega), rv_le (by omega) (by omega), if_pos (by omega), show l = a 16 by omega]
    rfl
  | succ d ih =>
    intro l fu hl hf
    obtain ⟨f, rfl⟩ : ∃ f, fu = f + 1 := ⟨fu - 1, by omega⟩
    have hla : l < a 16 := by omega
    have o0 : xf_X5_of S (nI l) (nI 0) = some (nI (a (4 * l))) := rv_of h (l := l) (p := 0) (by omega) (by omega)
    have hg := rv_gives h w hla ht
    have h36 := rv_sh_le w (rv_on S a) t
    have hmono := rv_sm_mono (fun l => if rv_on S a l then rv_lp a l t else 0) l (a 16) (by omega)
    have hk := (w.2.1 l hla).1
    have step : ∀ v : Nat, v = (if rv_on S a l then rv_lp a l t else 0) → xf_X5_shine_l4 S (nI t) K f (nI (rv_sm (fun l => if rv_on S a l then rv_lp a l t else 0) l) + nI v) (nI l + 1) = K (nI (rv_sh a (rv_on S a) t)) (nI (a 16)) := by
      intro v hv
      rw [nI_add, nI_1, hv]
      exact ih (l + 1) f (by omega) (by omega)
    rw [xf_X5_shine_l4, h 16 (by omega), rv_le (by omega) (by omega), if_neg (by omega)]
    simp only [rs_jn, rs_lt, hg, rs_b1]
    by_cases q1 : nI l = rs_gi S 91 13
    · rw [if_pos q1, if_true]
      exact step 0 (by rw [rv_on, if_neg (by simp [q1])])
    · rw [if_neg q1]
      by_cases q2 : rs_gi S 91 14 = 0
      · rw [if_pos q2, if_neg (by decide)]
        exact step _ (by rw [rv_on, if_pos (by simp [q1, q2])])
      · rw [if_neg q2, rv_0, o0]
        dsimp only
        rw [rv_eq (by omega) (by omega)]
        by_cases q3 : a (4 * l) = 0
        · rw [if_pos q3, if_neg (by decide)]
          exact step _ (by rw [rv_on, if_pos (by simp [q1, q3])])
        · rw [if_neg q3, if_true]
          exact step 0 (by rw [rv_on, if_neg (by simp [q1, q2, q3])])
theorem rv_shine {S : rs_St} {a : Nat → Nat} (h : rv_nw S a) (w : rv_wf a) {t : Nat} (ht : t < 1000000) : xf_X5_shine S (nI t) = some (nI (rv_sh a (rv_on S a) t)) := by
  have hc := w.1
  exact rv_shine_l h w ht _ (a 16) 0 rs_fu (by omega) (by unfold rs_fu; omega)
theorem rv_row_l {S : rs_St} {a : Nat → Nat} (h : rv_nw S a) (w : rv_wf a) {t : Nat} (ht : t < 900000) (K : Int32 → Int32 → Option Int32) : ∀ (d i fu : Nat), i + d = a 19 → d < fu → xf_X5_rowAt_l23 S (nI t) K fu (nI (rv_sm (fun i => rv_sh a (rv_on S a) (t + i)) i)) (nI i) = K (nI (rv_sm (fun i => rv_sh a (rv_on S a) (t + i)) (a 19))) (nI (a 19)) := by
  obtain ⟨hc, -, -, -, he, -⟩ := id w
  intro d
  induction d with
  | zero =>
    intro l fu hl hf
    obtain ⟨f, rfl⟩ : ∃ f, fu = f + 1 := ⟨fu - 1, by omega⟩
    rw [xf_X5_rowAt_l23, h 19 (by omega), rv_le (by omega) (by omega), if_pos (by omega), show l = a 19 by omega]
  | succ d ih =>
    intro l fu hl hf
    obtain ⟨f, rfl⟩ : ∃ f, fu = f + 1 := ⟨fu - 1, by omega⟩
    rw [xf_X5_rowAt_l23, h 19 (by omega), rv_le (by omega) (by omega), if_neg (by omega), nI_add, rv_shine h w (by omega)]
    simp only [rs_lt, rs_b1, nI_add, nI_1]
    exact ih (l + 1) f (by omega) (by omega)
theorem rv_rowAt {S : rs_St} {a : Nat → Nat} (h : rv_nw S a) (w : rv_wf a) (ht : a 21 < 800000) {r : Nat} (hr : r < 8) : xf_X5_rowAt S (nI r) = some (nI (rv_rw a (rv_on S a) (a 21) r)) := by
  obtain ⟨hc, -, -, hd, he, -⟩ := id w
  have hdr : a 18 * r ≤ 9 * 8 := Nat.mul_le_mul hd (by omega)
  have hb : rv_sm (fun i => rv_sh a (rv_on S a) (a 21 + a 18 * r + i)) (a 19) ≤ a 19 * 36 := rv_sm_le (fun i _ => rv_sh_le w _ _)
  unfold xf_X5_rowAt
  simp only [rs_lt]
  rw [h 21 (by omega), h 18 (by omega), pk_mul, nI_add]
  refine (rv_row_l h w (by omega) _ (a 19) 0 rs_fu (by omega) (by unfold rs_fu; omega)).trans ?_
  rw [rv_255, rv_le (by omega) (by omega)]
  unfold rv_rw rv_br
  split <;> rfl
