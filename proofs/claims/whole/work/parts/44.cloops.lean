/-! loops over a scene of the class's -/
theorem rv_maxe (x y : Nat) : (if x < y then y else x) = if y ≤ x then x else y := by
  by_cases h : x < y
  · rw [if_pos h, if_neg (by omega)]
  · rw [if_neg h, if_pos (by omega)]
theorem rv_mine (x y : Nat) : (if y < x then y else x) = if x ≤ y then x else y := by
  by_cases h : y < x
  · rw [if_pos h, if_neg (by omega)]
  · rw [if_neg h, if_pos (by omega)]
theorem rv_cbands_l {S : rs_St} {B : Nat} {a : Nat → Nat} {u : Nat → Bool} (w : rv_wf a) (h : rv_sc S B a u) (ht : a 21 ≤ 99999) {n : Nat} (hn : n ≤ 41) (K : Int32 → Int32 → Int32 → Option Int32) : ∀ (d i fu : Nat), i + d = a 17 → d < fu → xf_X1_bands_l9 S B (nI n) K fu (nI (rv_mx (rv_rw a u (rv_T a n)) i)) (nI (rv_mn (rv_rw a u (rv_T a n)) i)) (nI i) = K (nI (rv_mx (rv_rw a u (rv_T a n)) (a 17))) (nI (rv_mn (rv_rw a u (rv_T a n)) (a 17))) (nI (a 17)) := by
  obtain ⟨hc, -, hR, -, -, -⟩ := id w
  have r0 : rs_gi S (B + 2) 0 = nI (a 17) := h.2.2.1 0 (by omega)
  intro d
  induction d with
  | zero =>
    intro i fu hi hf
    obtain ⟨f, rfl⟩ : ∃ f, fu = f + 1 := ⟨fu - 1, by omega⟩
    rw [xf_X1_bands_l9, r0, rv_le (by omega) (by omega), if_pos (by omega), show i = a 17 by omega]
  | succ d ih =>
    intro i fu hi hf
    obtain ⟨f, rfl⟩ : ∃ f, fu = f + 1 := ⟨fu - 1, by omega⟩
    have b1 : rv_mx (rv_rw a u (rv_T a n)) i ≤ 255 := rv_mx_le (fun _ _ => rv_br_le _ _ _)
    have b2 := rv_mn_le (rv_rw a u (rv_T a n)) i
    have b3 : rv_rw a u (rv_T a n) i ≤ 255 := rv_br_le _ _ _
    rw [xf_X1_bands_l9, r0, rv_le (by omega) (by omega), if_neg (by omega)]
    rw [rv_cbright w h ht hn (by omega)]
    simp only [rs_b1, rs_lt]
    rw [nI_1, rv_lt (by omega) (by omega), rv_lt (by omega) (by omega), rv_nite, rv_nite, rv_maxe, rv_mine]
    exact ih (i + 1) f (by omega) (by omega)
theorem rv_cbands {S : rs_St} {B : Nat} {a : Nat → Nat} {u : Nat → Bool} (w : rv_wf a) (h : rv_sc S B a u) (ht : a 21 ≤ 99999) {n : Nat} (hn : n ≤ 41) : xf_X1_bands S B (nI n) = some (nI (rv_bd a u (rv_T a n))) := by
  obtain ⟨hc, -, hR, -, -, -⟩ := id w
  have hmm : rv_mn (rv_rw a u (rv_T a n)) (a 17) ≤ rv_mx (rv_rw a u (rv_T a n)) (a 17) := rv_mn_mx (by omega) (fun _ _ => rv_br_le _ _ _)
  refine (rv_cbands_l w h ht hn _ (a 17) 0 rs_fu (by omega) (by unfold rs_fu; omega)).trans ?_
  rw [pk_sub hmm]
  rfl
theorem rv_clightOf_l {S : rs_St} {B : Nat} {a : Nat → Nat} {u : Nat → Bool} (w : rv_wf a) (h : rv_sc S B a u) (ht : a 21 ≤ 99999) {n : Nat} (hn : n ≤ 41) (K : Int32 → Int32 → Option Int32) : ∀ (d i fu : Nat), i + d = a 17 → d < fu → xf_X1_lightOf_l4 S B (nI n) K fu (nI (rv_sm (rv_rw a u (rv_T a n)) i)) (nI i) = K (nI (rv_sm (rv_rw a u (rv_T a n)) (a 17))) (nI (a 17)) := by
  obtain ⟨hc, -, hR, -, -, -⟩ := id w
  have r0 : rs_gi S (B + 2) 0 = nI (a 17) := h.2.2.1 0 (by omega)
  intro d
  induction d with
  | zero =>
    intro i fu hi hf
    obtain ⟨f, rfl⟩ : ∃ f, fu = f + 1 := ⟨fu - 1, by omega⟩
    rw [xf_X1_lightOf_l4, r0, rv_le (by omega) (by omega), if_pos (by omega), show i = a 17 by omega]
  | succ d ih =>
    intro i fu hi hf
    obtain ⟨f, rfl⟩ : ∃ f, fu = f + 1 := ⟨fu - 1, by omega⟩
    rw [xf_X1_lightOf_l4, r0, rv_le (by omega) (by omega), if_neg (by omega)]
    rw [rv_cbright w h ht hn (by omega)]
    simp only [rs_b1, rs_lt]
    rw [nI_1, nI_add]
    exact ih (i + 1) f (by omega) (by omega)
theorem rv_clightOf {S : rs_St} {B : Nat} {a : Nat → Nat} {u : Nat → Bool} (w : rv_wf a) (h : rv_sc S B a u) (ht : a 21 ≤ 99999) {n : Nat} (hn : n ≤ 41) : xf_X1_lightOf S B (nI n) = some (nI (rv_ls a u (rv_T a n))) := by
  obtain ⟨hc, -, hR, -, -, -⟩ := id w
  exact rv_clightOf_l w h ht hn _ (a 17) 0 rs_fu (by omega) (by unfold rs_fu; omega)
theorem rv_cgreat_l {S : rs_St} {B : Nat} {a : Nat → Nat} {u : Nat → Bool} (w : rv_wf a) (h : rv_sc S B a u) (ht : a 21 ≤ 99999) {n : Nat} (hn : n ≤ 41) (K : Int32 → Int32 → Option Int32) : ∀ (d i fu : Nat), i + d = n → d < fu → xf_X1_greatestBands_l4 S B (nI n) K fu (nI (rv_mx (fun n => rv_bd a u (rv_T a n)) i)) (nI i) = K (nI (rv_mx (fun n => rv_bd a u (rv_T a n)) n)) (nI (n)) := by
  intro d
  induction d with
  | zero =>
    intro i fu hi hf
    obtain ⟨f, rfl⟩ : ∃ f, fu = f + 1 := ⟨fu - 1, by omega⟩
    rw [xf_X1_greatestBands_l4, rv_le (by omega) (by omega), if_pos (by omega), show i = n by omega]
  | succ d ih =>
    intro i fu hi hf
    obtain ⟨f, rfl⟩ : ∃ f, fu = f + 1 := ⟨fu - 1, by omega⟩
    have b1 : rv_mx (fun n => rv_bd a u (rv_T a n)) i ≤ 255 := rv_mx_le (fun _ _ => rv_bd_le _ _ _)
    have b3 : rv_bd a u (rv_T a i) ≤ 255 := rv_bd_le _ _ _
    rw [xf_X1_greatestBands_l4, rv_le (by omega) (by omega), if_neg (by omega)]
    rw [rv_cbands w h ht (by omega)]
    simp only [rs_b1, rs_lt]
    rw [nI_1, rv_lt (by omega) (by omega), rv_nite, rv_maxe]
    exact ih (i + 1) f (by omega) (by omega)
theorem rv_cgreat {S : rs_St} {B : Nat} {a : Nat → Nat} {u : Nat → Bool} (w : rv_wf a) (h : rv_sc S B a u) (ht : a 21 ≤ 99999) {n : Nat} (hn : n ≤ 41) : xf_X1_greatestBands S B (nI n) = some (nI (rv_mx (fun n => rv_bd a u (rv_T a n)) n)) := rv_cgreat_l w h ht hn _ n 0 rs_fu (by omega) (by unfold rs_fu; omega)
theorem rv_cleast_l {S : rs_St} {B : Nat} {a : Nat → Nat} {u : Nat → Bool} (w : rv_wf a) (h : rv_sc S B a u) (ht : a 21 ≤ 99999) {n : Nat} (hn : n ≤ 41) (K : Int32 → Int32 → Option Int32) : ∀ (d i fu : Nat), i + d = n → d < fu → xf_X1_leastBands_l14 S B (nI n) K fu (nI (rv_mn (fun n => rv_bd a u (rv_T a n)) i)) (nI i) = K (nI (rv_mn (fun n => rv_bd a u (rv_T a n)) n)) (nI (n)) := by
  intro d
  induction d with
  | zero =>
    intro i fu hi hf
    obtain ⟨f, rfl⟩ : ∃ f, fu = f + 1 := ⟨fu - 1, by omega⟩
    rw [xf_X1_leastBands_l14, rv_le (by omega) (by omega), if_pos (by omega), show i = n by omega]
  | succ d ih =>
    intro i fu hi hf
    obtain ⟨f, rfl⟩ : ∃ f, fu = f + 1 := ⟨fu - 1, by omega⟩
    have b1 := rv_mn_le (fun n => rv_bd a u (rv_T a n)) i
    have b3 : rv_bd a u (rv_T a i) ≤ 255 := rv_bd_le _ _ _
    rw [xf_X1_leastBands_l14, rv_le (by omega) (by omega), if_neg (by omega)]
    rw [rv_cbands w h ht (by omega)]
    simp only [rs_b1, rs_lt]
    rw [nI_1, rv_lt (by omega) (by omega), rv_nite, rv_mine]
    exact ih (i + 1) f (by omega) (by omega)
theorem rv_cleast {S : rs_St} {B : Nat} {a : Nat → Nat} {u : Nat → Bool} (w : rv_wf a) (h : rv_sc S B a u) (ht : a 21 ≤ 99999) {n : Nat} (hn : n ≤ 41) : xf_X1_leastBands S B (nI n) = some (if n = 0 then -4 else nI (rv_mn (fun n => rv_bd a u (rv_T a n)) n)) := by
  unfold xf_X1_leastBands
  rw [rv_1, rv_le (by omega) (by omega)]
  by_cases q : n = 0
  · rw [if_neg (by omega), if_pos q]
  · rw [if_pos (by omega), if_neg q]
    exact rv_cleast_l w h ht hn _ n 0 rs_fu (by omega) (by unfold rs_fu; omega)
theorem rv_clights_l {S : rs_St} {B : Nat} {a : Nat → Nat} {u : Nat → Bool} (w : rv_wf a) (h : rv_sc S B a u) (ht : a 21 ≤ 99999) {n : Nat} (hn : n ≤ 41) (K : Int32 → Int32 → Option Int32) : ∀ (d i fu : Nat), i + d = n → d < fu → xf_X1_lightOfShots_l4 S B (nI n) K fu (nI (rv_sm (fun n => rv_ls a u (rv_T a n)) i)) (nI i) = K (nI (rv_sm (fun n => rv_ls a u (rv_T a n)) n)) (nI (n)) := by
  intro d
  induction d with
  | zero =>
    intro i fu hi hf
    obtain ⟨f, rfl⟩ : ∃ f, fu = f + 1 := ⟨fu - 1, by omega⟩
    rw [xf_X1_lightOfShots_l4, rv_le (by omega) (by omega), if_pos (by omega), show i = n by omega]
  | succ d ih =>
    intro i fu hi hf
    obtain ⟨f, rfl⟩ : ∃ f, fu = f + 1 := ⟨fu - 1, by omega⟩
    rw [xf_X1_lightOfShots_l4, rv_le (by omega) (by omega), if_neg (by omega)]
    rw [rv_clightOf w h ht (by omega)]
    simp only [rs_b1, rs_lt]
    rw [nI_1, nI_add]
    exact ih (i + 1) f (by omega) (by omega)
theorem rv_clights {S : rs_St} {B : Nat} {a : Nat → Nat} {u : Nat → Bool} (w : rv_wf a) (h : rv_sc S B a u) (ht : a 21 ≤ 99999) {n : Nat} (hn : n ≤ 41) : xf_X1_lightOfShots S B (nI n) = some (nI (rv_sm (fun n => rv_ls a u (rv_T a n)) n)) := rv_clights_l w h ht hn _ n 0 rs_fu (by omega) (by unfold rs_fu; omega)
theorem rv_cfull_i {S : rs_St} {B : Nat} {a : Nat → Nat} {u : Nat → Bool} (w : rv_wf a) (h : rv_sc S B a u) (ht : a 21 ≤ 99999) {n : Nat} (hn : n ≤ 41) (x : Nat) (K : Int32 → Int32 → Option Int32) : ∀ (d i fu : Nat), i + d = a 17 → d < fu → xf_X1_fullRows_l12 S B (nI n) K fu (nI (x + rv_sm (fun r => if rv_rw a u (rv_T a n) r = 255 then 1 else 0) i)) (nI i) = K (nI (x + rv_sm (fun r => if rv_rw a u (rv_T a n) r = 255 then 1 else 0) (a 17))) (nI (a 17)) := by
  obtain ⟨hc, -, hR, -, -, -⟩ := id w
  have r0 : rs_gi S (B + 2) 0 = nI (a 17) := h.2.2.1 0 (by omega)
  intro d
  induction d with
  | zero =>
    intro i fu hi hf
    obtain ⟨f, rfl⟩ : ∃ f, fu = f + 1 := ⟨fu - 1, by omega⟩
    rw [xf_X1_fullRows_l12, r0, rv_le (by omega) (by omega), if_pos (by omega), show i = a 17 by omega]
  | succ d ih =>
    intro i fu hi hf
    obtain ⟨f, rfl⟩ : ∃ f, fu = f + 1 := ⟨fu - 1, by omega⟩
    have b3 : rv_rw a u (rv_T a n) i ≤ 255 := rv_br_le _ _ _
    rw [xf_X1_fullRows_l12, r0, rv_le (by omega) (by omega), if_neg (by omega)]
    rw [rv_cbright w h ht hn (by omega)]
    simp only [rs_b1, rs_lt, rv_jn]
    rw [nI_1, rv_255, rv_eq (by omega) (by omega), rv_1, rv_0, rv_nite, nI_add, Nat.add_assoc]
    exact ih (i + 1) f (by omega) (by omega)
theorem rv_cfull_l {S : rs_St} {B : Nat} {a : Nat → Nat} {u : Nat → Bool} (w : rv_wf a) (h : rv_sc S B a u) (ht : a 21 ≤ 99999) {n : Nat} (hn : n ≤ 41) (K : Int32 → Int32 → Option Int32) : ∀ (d i fu : Nat), i + d = n → d < fu → xf_X1_fullRows_l4 S B (nI n) K fu (nI (rv_sm (fun n => rv_fl a u (rv_T a n)) i)) (nI i) = K (nI (rv_sm (fun n => rv_fl a u (rv_T a n)) n)) (nI (n)) := by
  obtain ⟨hc, -, hR, -, -, -⟩ := id w
  intro d
  induction d with
  | zero =>
    intro i fu hi hf
    obtain ⟨f, rfl⟩ : ∃ f, fu = f + 1 := ⟨fu - 1, by omega⟩
    rw [xf_X1_fullRows_l4, rv_le (by omega) (by omega), if_pos (by omega), show i = n by omega]
  | succ d ih =>
    intro i fu hi hf
    obtain ⟨f, rfl⟩ : ∃ f, fu = f + 1 := ⟨fu - 1, by omega⟩
    rw [xf_X1_fullRows_l4, rv_le (by omega) (by omega), if_neg (by omega)]
    refine (rv_cfull_i w h ht (by omega) _ _ (a 17) 0 rs_fu (by omega) (by unfold rs_fu; omega)).trans ?_
    simp only [rs_lt]
    rw [nI_1]
    exact ih (i + 1) f (by omega) (by omega)
theorem rv_cfull {S : rs_St} {B : Nat} {a : Nat → Nat} {u : Nat → Bool} (w : rv_wf a) (h : rv_sc S B a u) (ht : a 21 ≤ 99999) {n : Nat} (hn : n ≤ 41) : xf_X1_fullRows S B (nI n) = some (nI (rv_sm (fun n => rv_fl a u (rv_T a n)) n)) := rv_cfull_l w h ht hn _ n 0 rs_fu (by omega) (by unfold rs_fu; omega)
theorem rv_clike_l {S : rs_St} {B : Nat} {a : Nat → Nat} {u : Nat → Bool} (w : rv_wf a) (h : rv_sc S B a u) (ht : a 21 ≤ 99999) {n : Nat} (hn : n ≤ 41) : ∀ (d i fu : Nat), i + d = a 17 → d < fu → (∀ r, r < i → rv_rw a u (rv_T a n) r = rv_rw a u (rv_T a 0) r) → ∃ b : Bool, (b = true ↔ ∀ r, r < a 17 → rv_rw a u (rv_T a n) r = rv_rw a u (rv_T a 0) r) ∧ xf_X1_isLikeFirst_l2 S B (nI n) (fun _ => some 1) fu (nI i) = some (if b then 1 else 0) := by
  obtain ⟨hc, -, hR, -, -, -⟩ := id w
  have r0 : rs_gi S (B + 2) 0 = nI (a 17) := h.2.2.1 0 (by omega)
  intro d
  induction d with
  | zero =>
    intro i fu hi hf hp
    obtain ⟨f, rfl⟩ : ∃ f, fu = f + 1 := ⟨fu - 1, by omega⟩
    refine ⟨true, ⟨fun _ r hr => hp r (by omega), fun _ => rfl⟩, ?_⟩
    rw [xf_X1_isLikeFirst_l2, r0, rv_le (by omega) (by omega), if_pos (by omega)]
    rfl
  | succ d ih =>
    intro i fu hi hf hp
    obtain ⟨f, rfl⟩ : ∃ f, fu = f + 1 := ⟨fu - 1, by omega⟩
    have b1 : rv_rw a u (rv_T a n) i ≤ 255 := rv_br_le _ _ _
    have b2 : rv_rw a u (rv_T a 0) i ≤ 255 := rv_br_le _ _ _
    rw [xf_X1_isLikeFirst_l2, r0, rv_le (by omega) (by omega), if_neg (by omega), rv_cbright w h ht hn (by omega), rv_0, rv_cbright w h ht (by omega) (by omega)]
    simp only [rs_b1, rs_lt]
    rw [nI_1, rv_eq (by omega) (by omega)]
    by_cases q : rv_rw a u (rv_T a n) i = rv_rw a u (rv_T a 0) i
    · rw [if_pos q]
      refine ih (i + 1) f (by omega) (by omega) (fun r hr => ?_)
      by_cases e : r = i
      · rw [e]
        exact q
      · exact hp r (by omega)
    · rw [if_neg q]
      exact ⟨false, ⟨fun z => (by cases z), fun z => absurd (z i (by omega)) q⟩, rfl⟩
theorem rv_clike {S : rs_St} {B : Nat} {a : Nat → Nat} {u : Nat → Bool} (w : rv_wf a) (h : rv_sc S B a u) (ht : a 21 ≤ 99999) {n : Nat} (hn : n ≤ 41) : ∃ b : Bool, (b = true ↔ ∀ r, r < a 17 → rv_rw a u (rv_T a n) r = rv_rw a u (rv_T a 0) r) ∧ xf_X1_isLikeFirst S B (nI n) = some (if b then 1 else 0) := by
  obtain ⟨hc, -, hR, -, -, -⟩ := id w
  exact rv_clike_l w h ht hn (a 17) 0 rs_fu (by omega) (by unfold rs_fu; omega) (fun r hr => by omega)
