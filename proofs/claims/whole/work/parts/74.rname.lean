/-! the reference: names, numbers -/
theorem tq_nm_iff {T : Nat → Nat} {s q k : Nat} : tq_nm T s q k = true ↔ q = s + tq_len k ∧ ∀ i, i < tq_len k → T (s + i) = tq_ch k i := by
  unfold tq_nm
  rw [Bool.and_eq_true, decide_eq_true_eq, rv_al_iff]
  exact ⟨fun z => ⟨z.1, fun i hi => of_decide_eq_true (z.2 i hi)⟩, fun z => ⟨z.1, fun i hi => decide_eq_true (z.2 i hi)⟩⟩
theorem tq_byq {T : Nat → Nat} {n i x : Nat} {α : Sort _} {u v : α} (hT : ∀ i, i < n → T i < 128) (hi : i < n) (hx : x < 200) : (if tq_by T n i = nI x then u else v) = if T i = x then u else v := by
  by_cases h : T i = x
  · rw [if_pos h, if_pos ((tq_by_eq hT hx).mpr ⟨hi, h⟩)]
  · rw [if_neg h, if_neg (fun z => h ((tq_by_eq hT hx).mp z).2)]
theorem tq_is {T : Nat → Nat} {n s q L x y z : Nat} {S : rs_St} (c : tq_rT T n S) (h8 : rs_gi S 91 8 = nI s) (h7 : rs_gi S 91 7 = nI q) (hs : s ≤ q) (hq : q ≤ n) (hL : 3 ≤ L ∧ L ≤ 6) (hx : x < 200) (hy : y < 200) (hz : z < 200) : xf_X5_is S (nI L) (nI x) (nI y) (nI z) = some (if q = s + L ∧ T s = x ∧ T (s + 1) = y ∧ T (s + 2) = z then 1 else 0) := by
  have hn := c.1
  unfold xf_X5_is
  rw [h7, h8, pk_sub hs, rv_eq (by omega) (by omega), tq_byte c (by omega), nI_1, tq_byte c (by omega), rv_a2, tq_byte c (by omega)]
  simp only [rv_b1s]
  by_cases e : q - s = L
  · rw [if_pos e, tq_byq c.2.1 (by omega) hx, tq_byq c.2.1 (by omega) hy, tq_byq c.2.1 (by omega) hz]
    by_cases e1 : T s = x
    · rw [if_pos e1]
      by_cases e2 : T (s + 1) = y
      · rw [if_pos e2]
        by_cases e3 : T (s + 2) = z
        · rw [if_pos e3, if_pos ⟨by omega, e1, e2, e3⟩]
        · rw [if_neg e3, if_neg (fun h => e3 h.2.2.2)]
      · rw [if_neg e2, if_neg (fun h => e2 h.2.2.1)]
    · rw [if_neg e1, if_neg (fun h => e1 h.2.1)]
  · rw [if_neg e, if_neg (fun h => e (by omega))]
theorem tq_n0 {x : Nat} (h : 0 < x) (hx : x < 200) : ¬ nI x = 0 := fun z => by
  have := (nI_eq (by omega) (by omega)).mp (z.trans rv_0)
  omega
theorem tq_e6 {T : Nat → Nat} {n s q x y z : Nat} {S : rs_St} (c : tq_rT T n S) (h8 : rs_gi S 91 8 = nI s) (hq : q ≤ n) (hL : q = s + 6) (hx : x < 200) (hy : 0 < y ∧ y < 200) (hz : 0 < z ∧ z < 200) : xf_X5_endsIn S (nI x) (nI y) (nI z) = some (if T (s + 3) = x ∧ T (s + 4) = y ∧ T (s + 5) = z then 1 else 0) := by
  have hn := c.1
  unfold xf_X5_endsIn
  rw [h8, rv_a3, tq_byte c (by omega), show nI s + 4 = nI (s + 4) from nI_add s 4, tq_byte c (by omega), show nI s + 5 = nI (s + 5) from nI_add s 5, tq_byte c (by omega)]
  simp only [rv_b1s]
  rw [if_neg (tq_n0 hy.1 hy.2), if_neg (tq_n0 hz.1 hz.2), tq_byq c.2.1 (by omega) hx, tq_byq c.2.1 (by omega) hy.2, tq_byq c.2.1 (by omega) hz.2]
  by_cases e1 : T (s + 3) = x
  · rw [if_pos e1]
    by_cases e2 : T (s + 4) = y
    · rw [if_pos e2]
      by_cases e3 : T (s + 5) = z
      · rw [if_pos e3, if_pos ⟨e1, e2, e3⟩]
      · rw [if_neg e3, if_neg (fun h => e3 h.2.2)]
    · rw [if_neg e2, if_neg (fun h => e2 h.2.1)]
  · rw [if_neg e1, if_neg (fun h => e1 h.1)]
theorem tq_e5 {T : Nat → Nat} {n s q x y : Nat} {S : rs_St} (c : tq_rT T n S) (h8 : rs_gi S 91 8 = nI s) (hq : q ≤ n) (hL : q = s + 5) (hx : x < 200) (hy : 0 < y ∧ y < 200) : xf_X5_endsIn S (nI x) (nI y) 0 = some (if T (s + 3) = x ∧ T (s + 4) = y then 1 else 0) := by
  have hn := c.1
  unfold xf_X5_endsIn
  rw [h8, rv_a3, tq_byte c (by omega), show nI s + 4 = nI (s + 4) from nI_add s 4, tq_byte c (by omega)]
  simp only [rv_b1s, if_true]
  rw [if_neg (tq_n0 hy.1 hy.2), tq_byq c.2.1 (by omega) hx, tq_byq c.2.1 (by omega) hy.2]
  by_cases e1 : T (s + 3) = x
  · rw [if_pos e1]
    by_cases e2 : T (s + 4) = y
    · rw [if_pos e2, if_pos ⟨e1, e2⟩]
    · rw [if_neg e2, if_neg (fun h => e2 h.2)]
  · rw [if_neg e1, if_neg (fun h => e1 h.1)]
theorem tq_e4 {T : Nat → Nat} {n s q x : Nat} {S : rs_St} (c : tq_rT T n S) (h8 : rs_gi S 91 8 = nI s) (hq : q ≤ n) (hL : q = s + 4) (hx : x < 200) : xf_X5_endsIn S (nI x) 0 0 = some (if T (s + 3) = x then 1 else 0) := by
  have hn := c.1
  unfold xf_X5_endsIn
  rw [h8, rv_a3, tq_byte c (by omega)]
  simp only [rv_b1s, if_true]
  rw [tq_byq c.2.1 (by omega) hx]
  by_cases e1 : T (s + 3) = x
  · rw [if_pos e1, if_pos e1]
  · rw [if_neg e1, if_neg e1]
/-- one name -/
theorem tq_c6 {T : Nat → Nat} {n s q k : Nat} {S : rs_St} (c : tq_rT T n S) (h8 : rs_gi S 91 8 = nI s) (h7 : rs_gi S 91 7 = nI q) (hs : s ≤ q) (hq : q ≤ n) (hk : tq_len k = 6) (hb : ∀ i, i < 6 → 0 < tq_ch k i ∧ tq_ch k i < 200) (J : Option Int32) (v : Int32) : rs_b1 (xf_X5_is S (nI 6) (nI (tq_ch k 0)) (nI (tq_ch k 1)) (nI (tq_ch k 2))) (fun r => if r = 0 then J else rs_b1 (xf_X5_endsIn S (nI (tq_ch k 3)) (nI (tq_ch k 4)) (nI (tq_ch k 5))) (fun r2 => if r2 = 0 then J else some v)) = if tq_nm T s q k then some v else J := by
  have b0 := hb 0 (by omega)
  have b1 := hb 1 (by omega)
  have b2 := hb 2 (by omega)
  have b3 := hb 3 (by omega)
  rw [tq_is c h8 h7 hs hq (by omega) b0.2 b1.2 b2.2, rv_b1s, rv_i0]
  by_cases e : q = s + 6 ∧ T s = tq_ch k 0 ∧ T (s + 1) = tq_ch k 1 ∧ T (s + 2) = tq_ch k 2
  · rw [if_pos e, tq_e6 c h8 hq e.1 b3.2 (hb 4 (by omega)) (hb 5 (by omega)), rv_b1s, rv_i0]
    by_cases e2 : T (s + 3) = tq_ch k 3 ∧ T (s + 4) = tq_ch k 4 ∧ T (s + 5) = tq_ch k 5
    · rw [if_pos e2, if_pos (tq_nm_iff.mpr ⟨by rw [hk]; exact e.1, fun i hi => ?_⟩)]
      rw [hk] at hi
      rcases (show i = 0 ∨ i = 1 ∨ i = 2 ∨ i = 3 ∨ i = 4 ∨ i = 5 by omega) with rfl | rfl | rfl | rfl | rfl | rfl
      · exact e.2.1
      · exact e.2.2.1
      · exact e.2.2.2
      · exact e2.1
      · exact e2.2.1
      · exact e2.2.2
    · rw [if_neg e2, if_neg (fun h => e2 ?_)]
      have h2 := (tq_nm_iff.mp h).2
      rw [hk] at h2
      exact ⟨h2 3 (by omega), h2 4 (by omega), h2 5 (by omega)⟩
  · rw [if_neg e, if_neg (fun h => e ?_)]
    obtain ⟨h1, h2⟩ := tq_nm_iff.mp h
    rw [hk] at h1 h2
    exact ⟨h1, h2 0 (by omega), h2 1 (by omega), h2 2 (by omega)⟩
theorem tq_c5 {T : Nat → Nat} {n s q k : Nat} {S : rs_St} (c : tq_rT T n S) (h8 : rs_gi S 91 8 = nI s) (h7 : rs_gi S 91 7 = nI q) (hs : s ≤ q) (hq : q ≤ n) (hk : tq_len k = 5) (hb : ∀ i, i < 5 → 0 < tq_ch k i ∧ tq_ch k i < 200) (J : Option Int32) (v : Int32) : rs_b1 (xf_X5_is S (nI 5) (nI (tq_ch k 0)) (nI (tq_ch k 1)) (nI (tq_ch k 2))) (fun r => if r = 0 then J else rs_b1 (xf_X5_endsIn S (nI (tq_ch k 3)) (nI (tq_ch k 4)) 0) (fun r2 => if r2 = 0 then J else some v)) = if tq_nm T s q k then some v else J := by
  have b0 := hb 0 (by omega)
  have b1 := hb 1 (by omega)
  have b2 := hb 2 (by omega)
  have b3 := hb 3 (by omega)
  rw [tq_is c h8 h7 hs hq (by omega) b0.2 b1.2 b2.2, rv_b1s, rv_i0]
  by_cases e : q = s + 5 ∧ T s = tq_ch k 0 ∧ T (s + 1) = tq_ch k 1 ∧ T (s + 2) = tq_ch k 2
  · rw [if_pos e, tq_e5 c h8 hq e.1 b3.2 (hb 4 (by omega)), rv_b1s, rv_i0]
    by_cases e2 : T (s + 3) = tq_ch k 3 ∧ T (s + 4) = tq_ch k 4
    · rw [if_pos e2, if_pos (tq_nm_iff.mpr ⟨by rw [hk]; exact e.1, fun i hi => ?_⟩)]
      rw [hk] at hi
      rcases (show i = 0 ∨ i = 1 ∨ i = 2 ∨ i = 3 ∨ i = 4 by omega) with rfl | rfl | rfl | rfl | rfl
      · exact e.2.1
      · exact e.2.2.1
      · exact e.2.2.2
      · exact e2.1
      · exact e2.2
    · rw [if_neg e2, if_neg (fun h => e2 ?_)]
      have h2 := (tq_nm_iff.mp h).2
      rw [hk] at h2
      exact ⟨h2 3 (by omega), h2 4 (by omega)⟩
  · rw [if_neg e, if_neg (fun h => e ?_)]
    obtain ⟨h1, h2⟩ := tq_nm_iff.mp h
    rw [hk] at h1 h2
    exact ⟨h1, h2 0 (by omega), h2 1 (by omega), h2 2 (by omega)⟩
theorem tq_c4 {T : Nat → Nat} {n s q k : Nat} {S : rs_St} (c : tq_rT T n S) (h8 : rs_gi S 91 8 = nI s) (h7 : rs_gi S 91 7 = nI q) (hs : s ≤ q) (hq : q ≤ n) (hk : tq_len k = 4) (hb : ∀ i, i < 4 → 0 < tq_ch k i ∧ tq_ch k i < 200) (J : Option Int32) (v : Int32) : rs_b1 (xf_X5_is S (nI 4) (nI (tq_ch k 0)) (nI (tq_ch k 1)) (nI (tq_ch k 2))) (fun r => if r = 0 then J else rs_b1 (xf_X5_endsIn S (nI (tq_ch k 3)) 0 0) (fun r2 => if r2 = 0 then J else some v)) = if tq_nm T s q k then some v else J := by
  have b0 := hb 0 (by omega)
  have b1 := hb 1 (by omega)
  have b2 := hb 2 (by omega)
  have b3 := hb 3 (by omega)
  rw [tq_is c h8 h7 hs hq (by omega) b0.2 b1.2 b2.2, rv_b1s, rv_i0]
  by_cases e : q = s + 4 ∧ T s = tq_ch k 0 ∧ T (s + 1) = tq_ch k 1 ∧ T (s + 2) = tq_ch k 2
  · rw [if_pos e, tq_e4 c h8 hq e.1 b3.2, rv_b1s, rv_i0]
    by_cases e2 : T (s + 3) = tq_ch k 3
    · rw [if_pos e2, if_pos (tq_nm_iff.mpr ⟨by rw [hk]; exact e.1, fun i hi => ?_⟩)]
      rw [hk] at hi
      rcases (show i = 0 ∨ i = 1 ∨ i = 2 ∨ i = 3 by omega) with rfl | rfl | rfl | rfl
      · exact e.2.1
      · exact e.2.2.1
      · exact e.2.2.2
      · exact e2
    · rw [if_neg e2, if_neg (fun h => e2 ?_)]
      have h2 := (tq_nm_iff.mp h).2
      rw [hk] at h2
      exact h2 3 (by omega)
  · rw [if_neg e, if_neg (fun h => e ?_)]
    obtain ⟨h1, h2⟩ := tq_nm_iff.mp h
    rw [hk] at h1 h2
    exact ⟨h1, h2 0 (by omega), h2 1 (by omega), h2 2 (by omega)⟩
theorem tq_c3 {T : Nat → Nat} {n s q k : Nat} {S : rs_St} (c : tq_rT T n S) (h8 : rs_gi S 91 8 = nI s) (h7 : rs_gi S 91 7 = nI q) (hs : s ≤ q) (hq : q ≤ n) (hk : tq_len k = 3) (hb : ∀ i, i < 3 → 0 < tq_ch k i ∧ tq_ch k i < 200) (J : Option Int32) (v : Int32) : rs_b1 (xf_X5_is S (nI 3) (nI (tq_ch k 0)) (nI (tq_ch k 1)) (nI (tq_ch k 2))) (fun r => if r = 0 then J else some v) = if tq_nm T s q k then some v else J := by
  have b0 := hb 0 (by omega)
  have b1 := hb 1 (by omega)
  have b2 := hb 2 (by omega)
  rw [tq_is c h8 h7 hs hq (by omega) b0.2 b1.2 b2.2, rv_b1s, rv_i0]
  by_cases e : q = s + 3 ∧ T s = tq_ch k 0 ∧ T (s + 1) = tq_ch k 1 ∧ T (s + 2) = tq_ch k 2
  · rw [if_pos e, if_pos (tq_nm_iff.mpr ⟨by rw [hk]; exact e.1, fun i hi => ?_⟩)]
    rw [hk] at hi
    rcases (show i = 0 ∨ i = 1 ∨ i = 2 by omega) with rfl | rfl | rfl
    · exact e.2.1
    · exact e.2.2.1
    · exact e.2.2.2
  · rw [if_neg e, if_neg (fun h => e ?_)]
    obtain ⟨h1, h2⟩ := tq_nm_iff.mp h
    rw [hk] at h1 h2
    exact ⟨h1, h2 0 (by omega), h2 1 (by omega), h2 2 (by omega)⟩
theorem tq_chb : ∀ k, k < 8 → ∀ i, i < tq_len k → 0 < tq_ch k i ∧ tq_ch k i < 200 := by decide +kernel
theorem tq_k0 : nI (tq_ch 0 0) = 115 ∧ nI (tq_ch 0 1) = 116 ∧ nI (tq_ch 0 2) = 101 ∧ nI (tq_ch 0 3) = 97 ∧ nI (tq_ch 0 4) = 100 ∧ nI (tq_ch 0 5) = 121 := by decide +kernel
theorem tq_k1 : nI (tq_ch 1 0) = 98 ∧ nI (tq_ch 1 1) = 108 ∧ nI (tq_ch 1 2) = 105 ∧ nI (tq_ch 1 3) = 110 ∧ nI (tq_ch 1 4) = 107 := by decide +kernel
theorem tq_k2 : nI (tq_ch 2 0) = 115 ∧ nI (tq_ch 2 1) = 97 ∧ nI (tq_ch 2 2) = 119 := by decide +kernel
theorem tq_k3 : nI (tq_ch 3 0) = 112 ∧ nI (tq_ch 3 1) = 97 ∧ nI (tq_ch 3 2) = 105 ∧ nI (tq_ch 3 3) = 114 := by decide +kernel
theorem tq_k4 : nI (tq_ch 4 0) = 114 ∧ nI (tq_ch 4 1) = 111 ∧ nI (tq_ch 4 2) = 119 ∧ nI (tq_ch 4 3) = 115 := by decide +kernel
theorem tq_k5 : nI (tq_ch 5 0) = 100 ∧ nI (tq_ch 5 1) = 101 ∧ nI (tq_ch 5 2) = 108 ∧ nI (tq_ch 5 3) = 97 ∧ nI (tq_ch 5 4) = 121 := by decide +kernel
theorem tq_k6 : nI (tq_ch 6 0) = 101 ∧ nI (tq_ch 6 1) = 120 ∧ nI (tq_ch 6 2) = 112 ∧ nI (tq_ch 6 3) = 111 ∧ nI (tq_ch 6 4) = 115 ∧ nI (tq_ch 6 5) = 101 := by decide +kernel
theorem tq_k7 : nI (tq_ch 7 0) = 112 ∧ nI (tq_ch 7 1) = 97 ∧ nI (tq_ch 7 2) = 99 ∧ nI (tq_ch 7 3) = 101 := by decide +kernel
theorem tq_fst8 (P : Nat → Bool) : (if P 0 then some (0 : Int32) else if P 1 then some 1 else if P 2 then some 2 else if P 3 then some 3 else if P 4 then some 4 else if P 5 then some 5 else if P 6 then some 6 else if P 7 then some 7 else some (-4)) = some (if tq_fst P 8 0 = 8 then -4 else nI (tq_fst P 8 0)) := by
  have e : tq_fst P 8 0 = if P 0 then 0 else if P 1 then 1 else if P 2 then 2 else if P 3 then 3 else if P 4 then 4 else if P 5 then 5 else if P 6 then 6 else if P 7 then 7 else 8 := rfl
  rw [e]
  generalize P 0 = b0
  generalize P 1 = b1
  generalize P 2 = b2
  generalize P 3 = b3
  generalize P 4 = b4
  generalize P 5 = b5
  generalize P 6 = b6
  generalize P 7 = b7
  cases b0 with
  | true => rfl
  | false => cases b1 with
    | true => rfl
    | false => cases b2 with
      | true => rfl
      | false => cases b3 with
        | true => rfl
        | false => cases b4 with
          | true => rfl
          | false => cases b5 with
            | true => rfl
            | false => cases b6 with
              | true => rfl
              | false => cases b7 with
                | true => rfl
                | false => rfl
theorem tq_lnow {T : Nat → Nat} {n s q : Nat} {S : rs_St} (c : tq_rT T n S) (h8 : rs_gi S 91 8 = nI s) (h7 : rs_gi S 91 7 = nI q) (hs : s ≤ q) (hq : q ≤ n) : xf_X5_lineNow S = some (if tq_ln T s q = 8 then -4 else nI (tq_ln T s q)) := by
  have c0 := fun J v => tq_c6 (k := 0) c h8 h7 hs hq rfl (tq_chb 0 (by omega)) J v
  rw [tq_k0.1, tq_k0.2.1, tq_k0.2.2.1, tq_k0.2.2.2.1, tq_k0.2.2.2.2.1, tq_k0.2.2.2.2.2] at c0
  have c1 := fun J v => tq_c5 (k := 1) c h8 h7 hs hq rfl (tq_chb 1 (by omega)) J v
  rw [tq_k1.1, tq_k1.2.1, tq_k1.2.2.1, tq_k1.2.2.2.1, tq_k1.2.2.2.2] at c1
  have c2 := fun J v => tq_c3 (k := 2) c h8 h7 hs hq rfl (tq_chb 2 (by omega)) J v
  rw [tq_k2.1, tq_k2.2.1, tq_k2.2.2] at c2
  have c3 := fun J v => tq_c4 (k := 3) c h8 h7 hs hq rfl (tq_chb 3 (by omega)) J v
  rw [tq_k3.1, tq_k3.2.1, tq_k3.2.2.1, tq_k3.2.2.2] at c3
  have c4 := fun J v => tq_c4 (k := 4) c h8 h7 hs hq rfl (tq_chb 4 (by omega)) J v
  rw [tq_k4.1, tq_k4.2.1, tq_k4.2.2.1, tq_k4.2.2.2] at c4
  have c5 := fun J v => tq_c5 (k := 5) c h8 h7 hs hq rfl (tq_chb 5 (by omega)) J v
  rw [tq_k5.1, tq_k5.2.1, tq_k5.2.2.1, tq_k5.2.2.2.1, tq_k5.2.2.2.2] at c5
  have c6 := fun J v => tq_c6 (k := 6) c h8 h7 hs hq rfl (tq_chb 6 (by omega)) J v
  rw [tq_k6.1, tq_k6.2.1, tq_k6.2.2.1, tq_k6.2.2.2.1, tq_k6.2.2.2.2.1, tq_k6.2.2.2.2.2] at c6
  have c7 := fun J v => tq_c4 (k := 7) c h8 h7 hs hq rfl (tq_chb 7 (by omega)) J v
  rw [tq_k7.1, tq_k7.2.1, tq_k7.2.2.1, tq_k7.2.2.2] at c7
  have e : xf_X5_lineNow S = if tq_nm T s q 0 then some 0 else if tq_nm T s q 1 then some 1 else if tq_nm T s q 2 then some 2 else if tq_nm T s q 3 then some 3 else if tq_nm T s q 4 then some 4 else if tq_nm T s q 5 then some 5 else if tq_nm T s q 6 then some 6 else if tq_nm T s q 7 then some 7 else some (-4) := by
    unfold xf_X5_lineNow
    simp only [rs_jn]
    refine (c0 _ 0).trans ?_
    congr 1
    refine (c1 _ 1).trans ?_
    congr 1
    refine (c2 _ 2).trans ?_
    congr 1
    refine (c3 _ 3).trans ?_
    congr 1
    refine (c4 _ 4).trans ?_
    congr 1
    refine (c5 _ 5).trans ?_
    congr 1
    refine (c6 _ 6).trans ?_
    congr 1
    exact c7 _ 7
  rw [e]
  exact tq_fst8 (tq_nm T s q)
