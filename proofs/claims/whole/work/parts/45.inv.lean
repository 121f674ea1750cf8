/-! the invariant of the calls -/
def rv_uu : Nat → Bool := fun _ => true
def rv_wf2 (a : Nat → Nat) : Prop := rv_wf a ∧ a 21 ≤ 99999 ∧ a 22 ≤ a 21 ∧ a 23 ≤ 8 ∧ (a 22 = 0 ↔ a 23 = 0) ∧ a 32 ≤ 6 ∧ ∀ i, i < a 32 → a (33 + 3 * i) ≤ 20 ∧ a (34 + 3 * i) ≤ 7 ∧ a (35 + 3 * i) ≤ 255
def rv_fsc (S : rs_St) (B : Nat) (a : Nat → Nat) : Prop := rv_sc S B a rv_uu ∧ rs_gi S B 4 = nI (a 22) ∧ rs_gi S B 6 = nI (a 23) ∧ (∀ j, j < a 23 → rs_gi S (B + 3) j = nI (a (24 + j))) ∧ rs_gi S B 10 = nI (a 32) ∧ ∀ i, i < a 32 → rs_gi S (B + 4) i = nI (a (33 + 3 * i)) ∧ rs_gi S (B + 5) i = nI (a (34 + 3 * i)) ∧ rs_gi S (B + 6) i = nI (a (35 + 3 * i))
def rv_now (S : rs_St) (a : Nat → Nat) : Prop := rv_wf2 a ∧ (∀ j, j < 51 → rs_gi S 92 j = nI (a j)) ∧ rv_fsc S 0 a
def rv_img (S : rs_St) (k : Nat) : Prop := rs_gi S 78 k = rs_gi S 94 k ∧ (rs_gi S 78 k = 0 ∨ (rs_gi S 78 k = 1 ∧ ∃ a, rv_wf2 a ∧ (∀ j, j < 51 → rs_gi S 92 (51 * (k + 1) + j) = nI (a j)) ∧ rv_fsc S (38 + 19 * k) a))
def rv_tp (S : rs_St) : Prop := ∃ n, n ≤ 160 ∧ rs_gi S 80 1 = nI n ∧ rs_gi S 91 6 = nI n ∧ ∀ i, i < n → rs_gi S 81 i = rs_gi S 97 i ∧ ∃ b, b < 128 ∧ rs_gi S 97 i = nI b
def rv_sht (S : rs_St) (k : Nat) : Prop := (rs_gi S (83 + 2 * k) 1 = -1 ∧ rs_gi S 102 k = -4) ∨ ∃ ln z, ln ≤ 2 ∧ z ≤ 40 ∧ rs_gi S (83 + 2 * k) 1 = nI ln ∧ rs_gi S 102 k = nI ln ∧ rs_gi S (83 + 2 * k) 2 = nI z ∧ rs_gi S 103 k = nI z ∧ ∀ i, i < 40 → rs_gi S (83 + 2 * k + 1) i = rs_gi S 104 (40 * k + i)
def rv_z (S : rs_St) : Prop := ∀ sc l, sc < 4 → l < 4 → rs_gi S (19 * sc + 9 + 3 * l) 0 = 0
def rv_oth (S : rs_St) : Prop := (∀ k, k < 2 → rv_img S k) ∧ rv_tp S ∧ rs_gi S 80 6 = rs_gi S 91 11 ∧ rs_gi S 76 7 = rs_gi S 91 32 ∧ (∀ k, k < 4 → rv_sht S k) ∧ rv_z S
def rv_Inv (S : rs_St) : Prop := (∃ a, rv_now S a) ∧ rv_oth S
def rv_rel (k j : Nat) : Prop := (38 ≤ k ∧ k < 76) ∨ k = 78 ∨ k = 81 ∨ (83 ≤ k ∧ k ≤ 90) ∨ (k = 92 ∧ 51 ≤ j) ∨ k = 94 ∨ k = 97 ∨ (102 ≤ k ∧ k ≤ 104) ∨ (k = 76 ∧ j = 7) ∨ (k = 80 ∧ (j = 1 ∨ j = 6)) ∨ (k = 91 ∧ (j = 6 ∨ j = 11 ∨ j = 32)) ∨ (j = 0 ∧ (k = 9 ∨ k = 12 ∨ k = 15 ∨ k = 18 ∨ k = 28 ∨ k = 31 ∨ k = 34 ∨ k = 37))
theorem rv_zrel {sc l : Nat} (h1 : sc < 4) (h2 : l < 4) : rv_rel (19 * sc + 9 + 3 * l) 0 := by
  unfold rv_rel
  rcases (show sc = 0 ∨ sc = 1 ∨ 2 ≤ sc by omega) with rfl | rfl | h
  · rcases (show l = 0 ∨ l = 1 ∨ l = 2 ∨ l = 3 by omega) with rfl | rfl | rfl | rfl <;> decide
  · rcases (show l = 0 ∨ l = 1 ∨ l = 2 ∨ l = 3 by omega) with rfl | rfl | rfl | rfl <;> decide
  · exact Or.inl ⟨by omega, by omega⟩
theorem rv_fsc_cg {S S2 : rs_St} {B : Nat} {a : Nat → Nat} (hc : a 16 ≤ 4) (hg : ∀ k j, B ≤ k → k < B + 19 → rs_gi S2 k j = rs_gi S k j) (h : rv_fsc S B a) : rv_fsc S2 B a := by
  obtain ⟨⟨c1, c2, c3, c4⟩, h2, h3, h4, h5, h6⟩ := h
  refine ⟨⟨by rw [hg _ _ (by omega) (by omega)]; exact c1, by rw [hg _ _ (by omega) (by omega)]; exact c2, fun j hj => by rw [hg _ _ (by omega) (by omega)]; exact c3 j hj, fun l hl => ⟨fun p hp => ?_, fun s hs => ?_⟩⟩, by rw [hg _ _ (by omega) (by omega)]; exact h2, by rw [hg _ _ (by omega) (by omega)]; exact h3, fun j hj => by rw [hg _ _ (by omega) (by omega)]; exact h4 j hj, by rw [hg _ _ (by omega) (by omega)]; exact h5, fun i hi => ?_⟩
  · rw [hg _ _ (by omega) (by omega)]
    exact (c4 l hl).1 p hp
  · rw [hg _ _ (by omega) (by omega)]
    exact (c4 l hl).2 s hs
  · rw [hg _ _ (by omega) (by omega), hg _ _ (by omega) (by omega), hg _ _ (by omega) (by omega)]
    exact h6 i hi
theorem rv_oth_cg {S S2 : rs_St} (hg : ∀ k j, rv_rel k j → rs_gi S2 k j = rs_gi S k j) (h : rv_oth S) : rv_oth S2 := by
  obtain ⟨h1, ⟨n, hn, t1, t2, t3⟩, h3, h4, h5, h6⟩ := h
  refine ⟨fun k hk => ?_, ⟨n, hn, ?_, ?_, fun i hi => ?_⟩, ?_, ?_, fun k hk => ?_, fun sc l q1 q2 => by rw [hg _ _ (rv_zrel q1 q2)]; exact h6 sc l q1 q2⟩
  · obtain ⟨i1, i2⟩ := h1 k hk
    unfold rv_img
    rw [hg 78 k (by unfold rv_rel; omega), hg 94 k (by unfold rv_rel; omega)]
    refine ⟨i1, ?_⟩
    rcases i2 with i2 | ⟨i2, a, w, i3, i4⟩
    · exact Or.inl i2
    · refine Or.inr ⟨i2, a, w, fun j hj => ?_, rv_fsc_cg w.1.1 (fun k2 j hk1 hk2 => hg k2 j (by unfold rv_rel; omega)) i4⟩
      rw [hg _ _ (by unfold rv_rel; omega)]
      exact i3 j hj
  · rw [hg _ _ (by unfold rv_rel; omega)]
    exact t1
  · rw [hg _ _ (by unfold rv_rel; omega)]
    exact t2
  · rw [hg 81 i (by unfold rv_rel; omega), hg 97 i (by unfold rv_rel; omega)]
    exact t3 i hi
  · rw [hg 80 6 (by unfold rv_rel; omega), hg 91 11 (by unfold rv_rel; omega)]
    exact h3
  · rw [hg 76 7 (by unfold rv_rel; omega), hg 91 32 (by unfold rv_rel; omega)]
    exact h4
  · unfold rv_sht
    rw [hg (83 + 2 * k) 1 (by unfold rv_rel; omega), hg (83 + 2 * k) 2 (by unfold rv_rel; omega), hg 102 k (by unfold rv_rel; omega), hg 103 k (by unfold rv_rel; omega)]
    rcases h5 k hk with q | ⟨ln, z, q1, q2, q3, q4, q5, q6, q7⟩
    · exact Or.inl q
    · refine Or.inr ⟨ln, z, q1, q2, q3, q4, q5, q6, fun i hi => ?_⟩
      rw [hg _ _ (by unfold rv_rel; omega), hg _ _ (by unfold rv_rel; omega)]
      exact q7 i hi
theorem rv_now_cg {S S2 : rs_St} {a : Nat → Nat} (hg : ∀ k j, k < 19 ∨ (k = 92 ∧ j < 51) → rs_gi S2 k j = rs_gi S k j) (h : rv_now S a) : rv_now S2 a := by
  obtain ⟨h1, h2, h3⟩ := h
  refine ⟨h1, fun j hj => ?_, rv_fsc_cg h1.1.1 (fun k j hk1 hk2 => hg k j (by omega)) h3⟩
  rw [hg _ _ (by omega)]
  exact h2 j hj
/-- a call that leaves what counts -/
theorem rv_Inv_cg {S S2 : rs_St} (hg : ∀ k j, (k < 19 ∨ (k = 92 ∧ j < 51)) ∨ rv_rel k j → rs_gi S2 k j = rs_gi S k j) (h : rv_Inv S) : rv_Inv S2 := by
  obtain ⟨⟨a, ha⟩, h2⟩ := h
  exact ⟨⟨a, rv_now_cg (fun k j z => hg k j (Or.inl z)) ha⟩, rv_oth_cg (fun k j z => hg k j (Or.inr z)) h2⟩
/-! in() and outside() -/
theorem rv_cmp_lt {x y : Int64} : lg_cmp x y < 0 ↔ x < y := by
  unfold lg_cmp
  by_cases h1 : x > y
  · rw [if_pos h1]
    exact ⟨fun z => absurd z (by decide), fun z => absurd h1 (Int64.lt_asymm z)⟩
  · rw [if_neg h1]
    by_cases h2 : x = y
    · rw [if_pos h2]
      exact ⟨fun z => absurd z (by decide), fun z => absurd (h2 ▸ z) Int64.lt_irrefl⟩
    · rw [if_neg h2]
      refine ⟨fun _ => ?_, fun _ => by decide⟩
      rcases Int64.lt_or_le x y with z | z
      · exact z
      · exact absurd (Int64.le_antisymm (Int64.not_lt.mp h1) z) h2
theorem rv_cmp_gt {x y : Int64} : 0 < lg_cmp x y ↔ y < x := by
  unfold lg_cmp
  by_cases h1 : x > y
  · rw [if_pos h1]
    exact ⟨fun _ => h1, fun _ => by decide⟩
  · rw [if_neg h1]
    refine ⟨fun z => ?_, fun z => absurd z h1⟩
    by_cases h2 : x = y
    · rw [if_pos h2] at z
      exact absurd z (by decide)
    · rw [if_neg h2] at z
      exact absurd z (by decide)
theorem rv_in (S : rs_St) (x lo hi : Int32) : xf_X5_in S x.toInt64 lo.toInt64 hi.toInt64 = some (if lo ≤ x ∧ x ≤ hi then 1 else 0) := by
  have wl : ∀ a b : Int32, a.toInt64 < b.toInt64 ↔ a < b := fun a b => by
    rw [Int64.lt_iff_toInt_lt, Int32.lt_iff_toInt_lt, Int32.toInt_toInt64, Int32.toInt_toInt64]
  unfold xf_X5_in
  by_cases h1 : x < lo
  · rw [if_pos (rv_cmp_lt.mpr ((wl _ _).mpr h1)), if_neg (fun z => Int32.not_le.mpr h1 z.1)]
  · rw [if_neg (fun z => h1 ((wl _ _).mp (rv_cmp_lt.mp z)))]
    by_cases h2 : hi < x
    · rw [if_pos (rv_cmp_gt.mpr ((wl _ _).mpr h2)), if_neg (fun z => Int32.not_le.mpr h2 z.2)]
    · rw [if_neg (fun z => h2 ((wl _ _).mp (rv_cmp_gt.mp z))), if_pos ⟨Int32.not_lt.mp h1, Int32.not_lt.mp h2⟩]
theorem rv_out (S : rs_St) (x lo hi : Int32) : xf_X4_outside S x lo hi = some (if lo ≤ x ∧ x ≤ hi then 0 else 1) := by
  unfold xf_X4_outside
  by_cases h1 : x < lo
  · rw [if_pos h1, if_neg (fun z => Int32.not_le.mpr h1 z.1)]
  · rw [if_neg h1]
    by_cases h2 : x ≤ hi
    · rw [if_pos h2, if_pos ⟨Int32.not_lt.mp h1, h2⟩]
    · rw [if_neg h2, if_neg (fun z => h2 z.2)]
theorem rv_ins {x : Int32} {lo hi : Nat} (hh : hi < 2 ^ 31) (h : nI lo ≤ x ∧ x ≤ nI hi) (hl : lo < 2 ^ 31) : ∃ v, lo ≤ v ∧ v ≤ hi ∧ x = nI v := by
  have h0 : ¬ x < 0 := fun z => by
    have := Int32.lt_of_le_of_lt h.1 z
    exact nI_pos hl this
  obtain ⟨j, hj, rfl⟩ := nI_of h0
  exact ⟨j, (nI_leI hl hj).mp h.1, (nI_leI hj hh).mp h.2, rfl⟩
theorem rv_in01 (c : Prop) [Decidable c] : (if (if c then (1 : Int32) else 0) = 0 ∨ (if c then (1 : Int32) else 0) = 1 then some (if c then (1 : Int32) else 0) else none) = some (if c then 1 else 0) := by
  by_cases h : c
  · rw [if_pos h]
    rfl
  · rw [if_neg h]
    rfl
theorem rv_i0 {α : Sort _} (c : Prop) [Decidable c] (x y : α) : (if (if c then (1 : Int32) else 0) = 0 then x else y) = if c then y else x := by
  by_cases h : c
  · rw [if_pos h, if_pos h]
    rfl
  · rw [if_neg h, if_neg h]
    rfl
theorem rv_o0 {α : Sort _} (c : Prop) [Decidable c] (x y : α) : (if (if c then (0 : Int32) else 1) = 0 then x else y) = if c then x else y := by
  by_cases h : c
  · rw [if_pos h, if_pos h]
    rfl
  · rw [if_neg h, if_neg h]
    rfl
