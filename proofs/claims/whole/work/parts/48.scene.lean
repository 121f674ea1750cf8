/-! parts and rules in their ranges -/
def rv_pl (p : Nat) : Nat := if p = 1 then 1 else if p = 2 then 1 else 0
def rv_ph (p : Nat) : Nat := if p = 0 then 3 else if p = 1 then 9 else if p = 2 then 12 else 11
def rv_tl (p : Nat) : Nat := if p = 1 then 0 else 1
def rv_th (p : Nat) : Nat := if p = 0 then 8 else if p = 1 then 9 else if p = 2 then 20 else 60
theorem rv_rng (x lo hi : Int32) : (if x < lo then some (0 : Int32) else if hi < x then some 0 else some 1) = some (if lo ≤ x ∧ x ≤ hi then 1 else 0) := by
  by_cases h1 : x < lo
  · rw [if_pos h1, if_neg (fun z => Int32.not_le.mpr h1 z.1)]
  · rw [if_neg h1]
    by_cases h2 : hi < x
    · rw [if_pos h2, if_neg (fun z => Int32.not_le.mpr h2 z.2)]
    · rw [if_neg h2, if_pos ⟨Int32.not_lt.mp h1, Int32.not_lt.mp h2⟩]
theorem rv_sv4 {p : Nat} (hp : p < 4) : rs_sv 0 p = nI (rv_pl p) ∧ rs_sv 1 p = nI (rv_ph p) ∧ rs_sv 2 p = nI (rv_tl p) ∧ rs_sv 3 p = nI (rv_th p) := by
  rcases (show p = 0 ∨ p = 1 ∨ p = 2 ∨ p = 3 by omega) with rfl | rfl | rfl | rfl <;> exact ⟨rfl, rfl, rfl, rfl⟩
theorem rv_ph_le {p : Nat} : rv_ph p ≤ 12 := by
  unfold rv_ph
  repeat' split
  all_goals omega
theorem rv_th_le {p : Nat} : rv_th p ≤ 60 := by
  unfold rv_th
  repeat' split
  all_goals omega
theorem rv_pl_le {p : Nat} : rv_pl p ≤ 1 := by
  unfold rv_pl
  repeat' split
  all_goals omega
theorem rv_tl_le {p : Nat} : rv_tl p ≤ 1 := by
  unfold rv_tl
  repeat' split
  all_goals omega
theorem rv_ispart (S : rs_St) {p : Nat} (hp : p < 4) (x : Int32) : xf_X4_isPart S (nI p) x = some (if nI (rv_pl p) ≤ x ∧ x ≤ nI (rv_ph p) then 1 else 0) := by
  unfold xf_X4_isPart
  rw [if_neg (nI_pos (by omega)), rv_4, rv_le (by omega) (by omega), if_neg (by omega), rv_ckn hp (by omega), rv_ckn hp (by omega), nI_clamp (by omega), (rv_sv4 hp).1, (rv_sv4 hp).2.1]
  exact rv_rng _ _ _
theorem rv_isrule (S : rs_St) {p : Nat} (hp : p < 4) (x : Int32) : xf_X4_isRule S (nI p) x = some (if nI (rv_tl p) ≤ x ∧ x ≤ nI (rv_th p) then 1 else 0) := by
  unfold xf_X4_isRule
  rw [if_neg (nI_pos (by omega)), rv_4, rv_le (by omega) (by omega), if_neg (by omega), rv_ckn hp (by omega), rv_ckn hp (by omega), nI_clamp (by omega), (rv_sv4 hp).2.2.1, (rv_sv4 hp).2.2.2]
  exact rv_rng _ _ _
theorem rv_no4 {α : Sort _} {a1 : Int32} {x y : α} (h : ¬ ((0 : Int32) ≤ a1 ∧ a1 ≤ 3)) : (if a1 < 0 then x else if 4 ≤ a1 then x else y) = x := by
  by_cases h1 : a1 < 0
  · rw [if_pos h1]
  · rw [if_neg h1]
    obtain ⟨j, hj, rfl⟩ := nI_of h1
    rw [rv_4, rv_le (by omega) hj, if_pos]
    rcases Nat.lt_or_ge 3 j with q | q
    · exact q
    · exact absurd ⟨Int32.not_lt.mp h1, show nI j ≤ nI 3 from (nI_leI hj (by omega)).mpr q⟩ h
theorem rv_lowOf (S : rs_St) {p : Nat} (hp : p < 4) : xf_X5_lowOf S (nI p) = some (nI (rv_pl p)) := by
  rcases (show p = 0 ∨ p = 1 ∨ p = 2 ∨ p = 3 by omega) with rfl | rfl | rfl | rfl <;> rfl
theorem rv_mostOf (S : rs_St) {p : Nat} (hp : p < 4) : xf_X5_mostOf S (nI p) = some (nI (rv_ph p)) := by
  rcases (show p = 0 ∨ p = 1 ∨ p = 2 ∨ p = 3 by omega) with rfl | rfl | rfl | rfl <;> rfl
theorem rv_lowTold (S : rs_St) {p : Nat} (hp : p < 4) : xf_X5_lowTold S (nI p) = some (nI (rv_tl p)) := by
  rcases (show p = 0 ∨ p = 1 ∨ p = 2 ∨ p = 3 by omega) with rfl | rfl | rfl | rfl <;> rfl
theorem rv_mostTold (S : rs_St) {p : Nat} (hp : p < 4) : xf_X5_mostTold S (nI p) = some (nI (rv_th p)) := by
  rcases (show p = 0 ∨ p = 1 ∨ p = 2 ∨ p = 3 by omega) with rfl | rfl | rfl | rfl <;> rfl
/-! which lamp -/
theorem rv_lampd (x : Int32) (c : Nat) (hc : c ≤ 4) : (∃ l, l < c ∧ x = nI l) ∨ (x < 0 ∨ nI c ≤ x) := by
  by_cases h1 : x < 0
  · exact Or.inr (Or.inl h1)
  · obtain ⟨j, hj, rfl⟩ := nI_of h1
    rcases Nat.lt_or_ge j c with q | q
    · exact Or.inl ⟨j, q, rfl⟩
    · exact Or.inr (Or.inr ((nI_leI (by omega) hj).mpr q))
theorem rv_lampAt {S : rs_St} {B c l : Nat} (h : rs_gi S B 1 = nI c) (hc : c ≤ 4) (hl : l < c) : xf_X1_lampAt S B (nI l) = some (some ((B + 1) + 6 + 3 * l)) := by
  unfold xf_X1_lampAt
  rw [if_neg (nI_pos (by omega)), h, rv_le (by omega) (by omega), if_neg (by omega), rv_ckn (by omega) (by omega), nI_clamp (by omega)]
theorem rv_lampAt0 {S : rs_St} {B c : Nat} {x : Int32} (h : rs_gi S B 1 = nI c) (hx : x < 0 ∨ nI c ≤ x) : xf_X1_lampAt S B x = some none := by
  unfold xf_X1_lampAt
  rw [h]
  by_cases h1 : x < 0
  · rw [if_pos h1]
  · rw [if_neg h1, if_pos (hx.resolve_left h1)]
theorem rv_isLamp {S : rs_St} {c l : Nat} (h : rs_gi S 92 16 = nI c) (hc : c ≤ 4) (hl : l < c) : xf_X5_isLamp S (nI l) = some 1 := by
  unfold xf_X5_isLamp
  rw [h, rv_1, pk_sub (by omega), show xf_X5_in S (nI l).toInt64 0 (nI (c - 1)).toInt64 = _ from rv_in _ (nI l) 0 (nI (c - 1)), rv_b1s, if_pos (show (0 : Int32) ≤ nI l ∧ nI l ≤ nI (c - 1) from ⟨(nI_leI (a := 0) (by omega) (by omega)).mpr (by omega), (nI_leI (by omega) (by omega)).mpr (by omega)⟩)]
  rfl
theorem rv_isLamp0 {S : rs_St} {c : Nat} {x : Int32} (h : rs_gi S 92 16 = nI c) (hc : c ≤ 4) (hx : x < 0 ∨ nI c ≤ x) : xf_X5_isLamp S x = some 0 := by
  unfold xf_X5_isLamp
  rw [h]
  by_cases h1 : x < 0
  · rw [show xf_X5_in S x.toInt64 0 (nI c - 1).toInt64 = _ from rv_in _ x 0 (nI c - 1), rv_b1s, if_neg (show ¬ ((0 : Int32) ≤ x ∧ x ≤ nI c - 1) from fun z => Int32.not_le.mpr h1 z.1)]
    rfl
  · obtain ⟨j, hj, rfl⟩ := nI_of h1
    have hcj := (nI_leI (by omega) hj).mp (hx.resolve_left h1)
    by_cases h0 : c = 0
    · subst h0
      rw [show xf_X5_in S (nI j).toInt64 0 (nI 0 - 1).toInt64 = _ from rv_in _ (nI j) 0 (nI 0 - 1), rv_b1s, if_neg (show ¬ ((0 : Int32) ≤ nI j ∧ nI j ≤ nI 0 - 1) from fun z => h1 (Int32.lt_of_le_of_lt z.2 (by decide)))]
      rfl
    · rw [rv_1, pk_sub (by omega), show xf_X5_in S (nI j).toInt64 0 (nI (c - 1)).toInt64 = _ from rv_in _ (nI j) 0 (nI (c - 1)), rv_b1s, if_neg (show ¬ ((0 : Int32) ≤ nI j ∧ nI j ≤ nI (c - 1)) from fun z => by
        have := (nI_leI hj (by omega)).mp z.2
        omega)]
      rfl
/-! a lamp's sums -/
theorem rv_givesAt0 (S : rs_St) (k : Nat) (x : Int32) : ∃ v, xf_X0_givesAt S k x = some v := by
  have e : ∀ (z x1 x2 kk : Int32), ∃ v : Int32, (if kk = 1 then if z = 0 then some 0 else some x1 else if kk = 2 then if 1 ≤ x2 then if x2 = 0 then none else some ((x1 * x) / x2) else some 0 else if kk = 3 then if z = 0 then some (x1 / 2) else some x1 else some x1) = some v := by
    intro z x1 x2 kk
    by_cases h1 : kk = 1
    · rw [if_pos h1]
      by_cases h : z = 0
      · exact ⟨_, if_pos h⟩
      · exact ⟨_, if_neg h⟩
    · rw [if_neg h1]
      by_cases h2 : kk = 2
      · rw [if_pos h2]
        by_cases h : 1 ≤ x2
        · rw [if_pos h, if_neg]
          · exact ⟨_, rfl⟩
          · intro q
            rw [q] at h
            exact absurd h (by decide)
        · exact ⟨_, if_neg h⟩
      · rw [if_neg h2]
        by_cases h3 : kk = 3
        · rw [if_pos h3]
          by_cases h : z = 0
          · exact ⟨_, if_pos h⟩
          · exact ⟨_, if_neg h⟩
        · exact ⟨_, if_neg h3⟩
  unfold xf_X0_givesAt
  simp only [rs_lt, rs_jn]
  by_cases h : rs_gi S (k + 1) 2 ≤ 2 * x
  · rw [if_pos h]
    exact e 0 _ _ _
  · rw [if_neg h]
    exact e 1 _ _ _
theorem rv_givesAt {S : rs_St} {k kd li pe st : Nat} (h0 : rs_gi S (k + 1) 0 = nI kd) (h1 : rs_gi S (k + 1) 1 = nI li) (h2 : rs_gi S (k + 1) 2 = nI pe) (b0 : kd ≤ 3) (b1 : li ≤ 9) (b2 : 1 ≤ pe) (b3 : pe ≤ 12) (hs : st < pe) : xf_X0_givesAt S k (nI st) = some (nI (rv_gv kd li pe st)) := by
  have hd : li * st ≤ 9 * 12 := Nat.mul_le_mul b1 (by omega)
  unfold xf_X0_givesAt
  rw [h0, h1, h2]
  simp (disch := omega) only [rv_0, rv_1, rv_2, rv_3, rs_lt, rs_jn, rv_eq, rv_le, pk_mul, pk_div]
  unfold rv_gv
  by_cases q : pe ≤ 2 * st
  · simp only [if_pos q, if_neg (show ¬ 2 * st < pe by omega), if_true, if_neg (show ¬ pe = 0 by omega), if_pos b2]
    split
    · rfl
    · split
      · rfl
      · split <;> rfl
  · simp only [if_neg q, if_pos (show 2 * st < pe by omega), if_neg (show ¬ (1 : Nat) = 0 by omega), if_neg (show ¬ pe = 0 by omega), if_pos b2]
    split
    · rfl
    · split
      · rfl
      · split <;> rfl
def rv_good (S : rs_St) (k kd li pe : Nat) : Prop := rs_gi S (k + 1) 0 = nI kd ∧ rs_gi S (k + 1) 1 = nI li ∧ rs_gi S (k + 1) 2 = nI pe ∧ kd ≤ 3 ∧ li ≤ 9 ∧ 1 ≤ pe ∧ pe ≤ 12 ∧ rs_gi S (k + 2) 0 = 0
def rv_suP (S : rs_St) (k i : Nat) (S1 : rs_St) : Prop := (∀ k2 j, k2 ≠ k + 2 → rs_gi S1 k2 j = rs_gi S k2 j) ∧ S1.2 = S.2 ∧ rs_gi S1 (k + 2) 0 = rs_gi S (k + 2) 0 ∧ ∀ kd li pe, rv_good S k kd li pe → ∀ s, s ≤ i → s ≤ pe → rs_gi S1 (k + 2) s = nI (rv_sm (rv_gv kd li pe) s)
theorem rv_sumUp_l (S : rs_St) (k : Nat) : ∀ (d i fu : Nat) (S1 : rs_St), i + d = 12 → d < fu → rv_suP S k i S1 → ∃ S2, xf_X0_sumUp_l2 k (fun S11 _ => some S11) fu S1 (nI i) = some S2 ∧ rv_suP S k 12 S2 := by
  intro d
  induction d with
  | zero =>
    intro i fu S1 hi hf h
    obtain ⟨f, rfl⟩ : ∃ f, fu = f + 1 := ⟨fu - 1, by omega⟩
    obtain rfl : i = 12 := by omega
    refine ⟨S1, ?_, h⟩
    rw [xf_X0_sumUp_l2]
    by_cases q : rs_gi S1 (k + 1) 2 ≤ nI 12
    · rw [if_pos q]
    · rw [if_neg q, rv_12, rv_le (by omega) (by omega), if_pos (by omega)]
  | succ d ih =>
    intro i fu S1 hi hf h
    obtain ⟨f, rfl⟩ : ∃ f, fu = f + 1 := ⟨fu - 1, by omega⟩
    obtain ⟨p1, p2, p3, p4⟩ := h
    rw [xf_X0_sumUp_l2]
    by_cases q : rs_gi S1 (k + 1) 2 ≤ nI i
    · rw [if_pos q]
      refine ⟨S1, rfl, p1, p2, p3, fun kd li pe g s hs hs2 => p4 kd li pe g s ?_ hs2⟩
      rw [p1 _ _ (by omega), g.2.2.1] at q
      have := (nI_leI (by have := g.2.2.2.2.2.2.1; omega) (by omega)).mp q
      omega
    · obtain ⟨v, e⟩ := rv_givesAt0 S1 k (nI i)
      rw [if_neg q, rv_12, rv_le (by omega) (by omega), if_neg (by omega), rv_ckn (by omega) (by omega), e, rv_b1s, nI_1, rv_ckn (by omega) (by omega), rv_lts, rv_lts, nI_clamp (by omega), nI_clamp (by omega)]
      refine ih (i + 1) f _ (by omega) (by omega) ⟨fun k2 j hk => ?_, p2, ?_, fun kd li pe g s hs hs2 => ?_⟩
      · rw [rv_gsn (by omega)]
        exact p1 k2 j hk
      · rw [rv_gsn (by omega)]
        exact p3
      · by_cases hq : s = i + 1
        · obtain ⟨g0, g1, g2, g3, g4, g5, g6, g7⟩ := id g
          have ev := rv_givesAt (S := S1) (k := k) (st := i) ((p1 _ _ (by omega)).trans g0) ((p1 _ _ (by omega)).trans g1) ((p1 _ _ (by omega)).trans g2) g3 g4 g5 g6 (by omega)
          rw [e] at ev
          rw [hq, rv_gss, p4 kd li pe g i (by omega) (by omega), Option.some.inj ev, nI_add]
          rfl
        · rw [rv_gsn (by omega)]
          exact p4 kd li pe g s (by omega) hs2
theorem rv_sumUp (S : rs_St) (k : Nat) : ∃ S2, xf_X0_sumUp S k = some S2 ∧ rv_suP S k 12 S2 :=
  rv_sumUp_l S k 12 0 rs_fu S (by omega) (by unfold rs_fu; omega) ⟨fun _ _ _ => rfl, rfl, rfl, fun kd li pe g s hs _ => by
    rw [show s = 0 by omega, g.2.2.2.2.2.2.2]
    rfl⟩
def rv_bcP (S : rs_St) (k p v : Nat) (S2 : rs_St) : Prop := (∀ k2 j, k2 ≠ k + 1 → k2 ≠ k + 2 → rs_gi S2 k2 j = rs_gi S k2 j) ∧ S2.2 = S.2 ∧ (∀ q, rs_gi S2 (k + 1) q = if q = p then nI v else rs_gi S (k + 1) q) ∧ rs_gi S2 (k + 2) 0 = rs_gi S (k + 2) 0 ∧ (p = 3 → ∀ s, rs_gi S2 (k + 2) s = rs_gi S (k + 2) s) ∧ (p ≠ 3 → ∀ kd li pe, rv_good S2 k kd li pe → ∀ s, s ≤ pe → rs_gi S2 (k + 2) s = nI (rv_sm (rv_gv kd li pe) s))
theorem rv_become (S : rs_St) (k : Nat) {p v : Nat} (hp : p < 4) (h1 : rv_pl p ≤ v) (h2 : v ≤ rv_ph p) : ∃ S2, xf_X0_become S k (nI p) (nI v) = some S2 ∧ rv_bcP S k p v S2 := by
  have hh := @rv_ph_le p
  have hl := @rv_pl_le p
  unfold xf_X0_become
  rw [rv_ispart S hp, rv_b1s, if_pos (show nI (rv_pl p) ≤ nI v ∧ nI v ≤ nI (rv_ph p) from ⟨(nI_leI (by omega) (by omega)).mpr h1, (nI_leI (by omega) (by omega)).mpr h2⟩), if_neg (by decide), rv_ckn hp (by omega), rv_lts, nI_clamp (by omega), rv_3, rv_eq (by omega) (by omega)]
  by_cases q : p = 3
  · rw [if_pos q]
    refine ⟨_, rfl, fun k2 j q1 q2 => rv_gsn (by omega), rfl, fun q => ?_, rv_gsn (by omega), fun _ s => rv_gsn (by omega), fun z => absurd q z⟩
    rw [rv_gs]
    by_cases z : q = p
    · rw [if_pos ⟨rfl, z⟩, if_pos z]
    · rw [if_neg (fun y => z y.2), if_neg z]
  · rw [if_neg q]
    obtain ⟨S2, e, p1, p2, p3, p4⟩ := rv_sumUp (rs_si S (k + 1) p (nI v)) k
    rw [e, rv_b1s]
    refine ⟨S2, rfl, fun k2 j q1 q2 => ?_, p2, fun q => ?_, ?_, fun z => absurd z q, fun _ kd li pe g s hs => ?_⟩
    · rw [p1 _ _ q2, rv_gsn (by omega)]
    · rw [p1 _ _ (by omega), rv_gs]
      by_cases z : q = p
      · rw [if_pos ⟨rfl, z⟩, if_pos z]
      · rw [if_neg (fun y => z y.2), if_neg z]
    · rw [p3, rv_gsn (by omega)]
    · obtain ⟨g0, g1, g2, g3, g4, g5, g6, g7⟩ := id g
      refine p4 kd li pe ⟨?_, ?_, ?_, g3, g4, g5, g6, ?_⟩ s (by omega) hs
      · rw [← p1 _ _ (by omega)]
        exact g0
      · rw [← p1 _ _ (by omega)]
        exact g1
      · rw [← p1 _ _ (by omega)]
        exact g2
      · rw [← p3]
        exact g7
/-! a scene, changed -/
theorem rv_lm_cg {S S2 : rs_St} {k : Nat} {a b : Nat → Nat} {u v : Nat → Bool} {l : Nat} (hg : ∀ k2 j, k2 = k + 1 ∨ k2 = k + 2 → rs_gi S2 k2 j = rs_gi S k2 j) (hb : ∀ p, p < 4 → b (4 * l + p) = a (4 * l + p)) (hu : v l = u l) (h : rv_lm S k a u l) : rv_lm S2 k b v l := by
  have h0 : b (4 * l) = a (4 * l) := hb 0 (by omega)
  refine ⟨fun p hp => ?_, fun s hs => ?_⟩
  · rw [hg _ _ (Or.inl rfl), hb p hp]
    exact h.1 p hp
  · rw [hb 2 (by omega)] at hs
    rw [hg _ _ (Or.inr rfl), show rv_gf b l = rv_gf a l by unfold rv_gf; rw [h0, hb 1 (by omega), hb 2 (by omega)], hu]
    exact h.2 s hs
def rv_rst (S : rs_St) (B : Nat) (a : Nat → Nat) : Prop := rs_gi S B 4 = nI (a 22) ∧ rs_gi S B 6 = nI (a 23) ∧ (∀ j, j < a 23 → rs_gi S (B + 3) j = nI (a (24 + j))) ∧ rs_gi S B 10 = nI (a 32) ∧ ∀ i, i < a 32 → rs_gi S (B + 4) i = nI (a (33 + 3 * i)) ∧ rs_gi S (B + 5) i = nI (a (34 + 3 * i)) ∧ rs_gi S (B + 6) i = nI (a (35 + 3 * i))
theorem rv_rst_cg {S S2 : rs_St} {B : Nat} {a b : Nat → Nat} (hb : ∀ j, 22 ≤ j → b j = a j) (hg : ∀ k j, (k = B ∧ (j = 4 ∨ j = 6 ∨ j = 10)) ∨ (B + 3 ≤ k ∧ k ≤ B + 6) → rs_gi S2 k j = rs_gi S k j) (h : rv_rst S B a) : rv_rst S2 B b := by
  obtain ⟨h2, h3, h4, h5, h6⟩ := h
  refine ⟨?_, ?_, fun j hj => ?_, ?_, fun i hi => ?_⟩
  · rw [hg _ _ (by omega), hb _ (by omega)]
    exact h2
  · rw [hg _ _ (by omega), hb _ (by omega)]
    exact h3
  · rw [hb _ (by omega)] at hj
    rw [hg _ _ (by omega), hb _ (by omega)]
    exact h4 j hj
  · rw [hg _ _ (by omega), hb _ (by omega)]
    exact h5
  · rw [hb _ (by omega)] at hi
    rw [hg _ _ (by omega), hg _ _ (by omega), hg _ _ (by omega), hb _ (by omega), hb _ (by omega), hb _ (by omega)]
    exact h6 i hi
theorem rv_pr {p v : Nat} (hp : p < 4) (h1 : rv_pl p ≤ v) (h2 : v ≤ rv_ph p) : (p = 0 → v ≤ 3) ∧ (p = 1 → 1 ≤ v ∧ v ≤ 9) ∧ (p = 2 → 1 ≤ v ∧ v ≤ 12) ∧ (p = 3 → v ≤ 11) := by
  rcases (show p = 0 ∨ p = 1 ∨ p = 2 ∨ p = 3 by omega) with rfl | rfl | rfl | rfl
  · exact ⟨fun _ => h2, fun z => by omega, fun z => by omega, fun z => by omega⟩
  · exact ⟨fun z => by omega, fun _ => ⟨h1, h2⟩, fun z => by omega, fun z => by omega⟩
  · exact ⟨fun z => by omega, fun z => by omega, fun _ => ⟨h1, h2⟩, fun z => by omega⟩
  · exact ⟨fun z => by omega, fun z => by omega, fun z => by omega, fun _ => h2⟩
theorem rv_upe {a : Nat → Nat} {j v i : Nat} : rv_up a j v i = if i = j then v else a i := rfl
theorem rv_wfpart {a : Nat → Nat} {l p v : Nat} (w : rv_wf a) (hl : l < 4) (hp : p < 4) (h1 : rv_pl p ≤ v) (h2 : v ≤ rv_ph p) : rv_wf (rv_up a (4 * l + p) v) := by
  obtain ⟨r0, r1, r2, r3⟩ := rv_pr hp h1 h2
  obtain ⟨w1, w2, w3, w4, w5, w6⟩ := id w
  refine ⟨by rw [rv_up_n (by omega)]; exact w1, fun m hm => ?_, by rw [rv_up_n (by omega)]; exact w3, by rw [rv_up_n (by omega)]; exact w4, by rw [rv_up_n (by omega)]; exact w5, by rw [rv_up_n (by omega)]; exact w6⟩
  rw [rv_up_n (by omega)] at hm
  obtain ⟨q1, q2, q3, q4, q5, q6⟩ := w2 m hm
  by_cases hml : m = l
  · subst hml
    rcases (show p = 0 ∨ p = 1 ∨ p = 2 ∨ p = 3 by omega) with rfl | rfl | rfl | rfl
    · simp only [rv_upe, if_pos (show 4 * m = 4 * m + 0 by omega), if_neg (show ¬ 4 * m + 1 = 4 * m + 0 by omega), if_neg (show ¬ 4 * m + 2 = 4 * m + 0 by omega), if_neg (show ¬ 4 * m + 3 = 4 * m + 0 by omega)]
      exact ⟨r0 rfl, q2, q3, q4, q5, q6⟩
    · simp only [rv_upe, if_pos, if_neg (show ¬ 4 * m = 4 * m + 1 by omega), if_neg (show ¬ 4 * m + 2 = 4 * m + 1 by omega), if_neg (show ¬ 4 * m + 3 = 4 * m + 1 by omega)]
      exact ⟨q1, (r1 rfl).1, (r1 rfl).2, q4, q5, q6⟩
    · simp only [rv_upe, if_pos, if_neg (show ¬ 4 * m = 4 * m + 2 by omega), if_neg (show ¬ 4 * m + 1 = 4 * m + 2 by omega), if_neg (show ¬ 4 * m + 3 = 4 * m + 2 by omega)]
      exact ⟨q1, q2, q3, (r2 rfl).1, (r2 rfl).2, q6⟩
    · simp only [rv_upe, if_pos, if_neg (show ¬ 4 * m = 4 * m + 3 by omega), if_neg (show ¬ 4 * m + 1 = 4 * m + 3 by omega), if_neg (show ¬ 4 * m + 2 = 4 * m + 3 by omega)]
      exact ⟨q1, q2, q3, q4, q5, r3 rfl⟩
  · rw [rv_up_n (by omega), rv_up_n (by omega), rv_up_n (by omega), rv_up_n (by omega)]
    exact ⟨q1, q2, q3, q4, q5, q6⟩
theorem rv_wf2_cg {a b : Nat → Nat} (hb : ∀ j, 21 ≤ j → b j = a j) (w : rv_wf b) (w2 : rv_wf2 a) : rv_wf2 b := by
  obtain ⟨-, x1, x2, x3, x4, x5, x6⟩ := w2
  unfold rv_wf2
  rw [hb 21 (by omega), hb 22 (by omega), hb 23 (by omega), hb 32 (by omega)]
  refine ⟨w, x1, x2, x3, x4, x5, fun i hi => ?_⟩
  rw [hb _ (by omega), hb _ (by omega), hb _ (by omega)]
  exact x6 i hi
theorem rv_lmb {S S2 : rs_St} {k : Nat} {a : Nat → Nat} {u : Nat → Bool} {l p v : Nat} (hl : l < a 16) (w : rv_wf a) (hp : p < 4) (h1 : rv_pl p ≤ v) (h2 : v ≤ rv_ph p) (hu : u l = true) (h : rv_lm S k a u l) (hb : rv_bcP S k p v S2) : rv_lm S2 k (rv_up a (4 * l + p) v) u l := by
  obtain ⟨b1, b2, b3, b4, b5, b6⟩ := hb
  have hc := w.1
  have w2 := (rv_wfpart w (show l < 4 by omega) hp h1 h2).2.1 l (by rw [rv_up_n (by omega)]; exact hl)
  have hpt : ∀ q, q < 4 → rs_gi S2 (k + 1) q = nI (rv_up a (4 * l + p) v (4 * l + q)) := fun q hq => by
    rw [b3, rv_upe]
    by_cases z : q = p
    · rw [if_pos z, if_pos (by omega)]
    · rw [if_neg z, if_neg (by omega)]
      exact h.1 q hq
  refine ⟨hpt, fun s hs => ?_⟩
  rw [if_pos hu]
  have hz : rs_gi S (k + 2) 0 = 0 := by
    rw [h.2 0 (by omega), if_pos hu]
    rfl
  by_cases q : p = 3
  · rw [rv_up_n (by omega)] at hs
    rw [b5 q, h.2 s hs, if_pos hu]
    unfold rv_gf
    rw [rv_up_n (by omega), rv_up_n (by omega), rv_up_n (by omega)]
  · exact b6 q _ _ _ ⟨hpt 0 (by omega), hpt 1 (by omega), hpt 2 (by omega), w2.1, w2.2.2.1, w2.2.2.2.1, w2.2.2.2.2.1, b4.trans hz⟩ s hs
/-- a lamp of a scene becomes -/
theorem rv_scb {S : rs_St} {B : Nat} {a : Nat → Nat} {u : Nat → Bool} {l p v : Nat} (h : rv_sc S B a u) (hl : l < a 16) (w : rv_wf a) (hp : p < 4) (h1 : rv_pl p ≤ v) (h2 : v ≤ rv_ph p) (hu : u l = true) : ∃ S2, xf_X0_become S (B + 1 + 6 + 3 * l) (nI p) (nI v) = some S2 ∧ rv_sc S2 B (rv_up a (4 * l + p) v) u ∧ rv_bcP S (B + 1 + 6 + 3 * l) p v S2 := by
  obtain ⟨c1, c2, c3, c4⟩ := h
  have hc := w.1
  obtain ⟨S2, e, hb⟩ := rv_become S (B + 1 + 6 + 3 * l) hp h1 h2
  refine ⟨S2, e, ⟨?_, ?_, fun j hj => ?_, fun m hm => ?_⟩, hb⟩
  · rw [hb.1 _ _ (by omega) (by omega), rv_up_n (by omega)]
    exact c1
  · rw [hb.1 _ _ (by omega) (by omega), rv_up_n (by omega)]
    exact c2
  · rw [hb.1 _ _ (by omega) (by omega), rv_up_n (by omega)]
    exact c3 j hj
  · rw [rv_up_n (by omega)] at hm
    by_cases z : m = l
    · rw [z]
      exact rv_lmb hl w hp h1 h2 hu (c4 l hl) hb
    · exact rv_lm_cg (fun k2 j q => hb.1 _ _ (by omega) (by omega)) (fun q hq => rv_up_n (by omega)) rfl (c4 m hm)
