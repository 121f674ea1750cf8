/-! rule, lamp, count, again -/
theorem rv_shine_c {S : rs_St} {B : Nat} {a : Nat → Nat} {u : Nat → Bool} (w : rv_wf a) (h : rv_sc S B a u) (ht : a 21 ≤ 99999) : xf_X1_shine S B = some (nI (rv_sh a u (a 21))) := by
  unfold xf_X1_shine
  rw [h.2.1, rv_1, rv_clight w h (by omega) (by omega), rv_b1s]
  simp only [rv_sm, Nat.zero_add, Nat.add_zero]
theorem rv_rule : pt_rule rv_Inv := by
  intro S a1 hI
  obtain ⟨⟨a, hn⟩, -⟩ := id hI
  obtain ⟨w, hm, hf⟩ := id hn
  have ht := w.2.1
  have hc := w.1.1
  obtain ⟨S2, e2, h2, g2, u2, i2⟩ := rv_ready hI hn
  have h92 : ∀ j, j < 51 → rs_gi S2 92 j = nI (a j) := fun j hj => (congrFun (h2.1 92 (by omega) (by omega)) j).trans (hm j hj)
  have hs : xf_X5_shine S2 (nI (a 21)) = some (nI (rv_sh a rv_uu (a 21))) := by
    rw [rv_shine (a := a) (fun j hj => (h2.2.2.1 j hj).trans (hm j hj)) w.1 (by omega), rv_sh_cg (a := a) (b := a) (v := rv_on S2 a) (u := rv_uu) hc (fun _ _ => rfl) u2]
  unfold xf_X4_rule xf_X5_rule
  rw [e2, rv_b1s, rv_shine_c w.1 hf.1 ht, rv_b1s, h92 21 (by omega), hs, rv_b1s]
  by_cases z0 : a1 = 0
  · subst z0
    exact ⟨_, S2, rfl, by rw [if_pos rfl, h92 16 (by omega), hf.1.1], i2⟩
  by_cases z1 : a1 = 1
  · subst z1
    exact ⟨_, S2, rfl, by rw [if_neg (by decide), if_pos rfl, h92 22 (by omega), hf.2.1], i2⟩
  by_cases z2 : a1 = 2
  · subst z2
    exact ⟨_, S2, rfl, by rw [if_neg (by decide), if_neg (by decide), if_pos rfl, hf.1.2.1], i2⟩
  by_cases z3 : a1 = 3
  · subst z3
    refine ⟨_, S2, rfl, ?_, i2⟩
    rw [if_neg (by decide), if_neg (by decide), if_neg (by decide), if_pos rfl, show (17 + 3 - 3 : Int32) = nI 17 from rfl, rv_ckn (by omega) (by omega), nI_clamp (by omega), h92 17 (by omega), hf.1.2.2.1 0 (by omega)]
  by_cases z4 : a1 = 4
  · subst z4
    refine ⟨_, S2, rfl, ?_, i2⟩
    rw [if_neg (by decide), if_neg (by decide), if_neg (by decide), if_neg (by decide), if_pos rfl, show (17 + 4 - 3 : Int32) = nI 18 from rfl, rv_ckn (by omega) (by omega), nI_clamp (by omega), h92 18 (by omega), hf.1.2.2.1 1 (by omega)]
  by_cases z5 : a1 = 5
  · subst z5
    refine ⟨_, S2, rfl, ?_, i2⟩
    rw [if_neg (by decide), if_neg (by decide), if_neg (by decide), if_neg (by decide), if_neg (by decide), if_pos rfl, show (17 + 5 - 3 : Int32) = nI 19 from rfl, rv_ckn (by omega) (by omega), nI_clamp (by omega), h92 19 (by omega), hf.1.2.2.1 2 (by omega)]
  by_cases z6 : a1 = 6
  · subst z6
    refine ⟨_, S2, rfl, ?_, i2⟩
    rw [if_neg (by decide), if_neg (by decide), if_neg (by decide), if_neg (by decide), if_neg (by decide), if_neg (by decide), if_pos rfl, show (17 + 6 - 3 : Int32) = nI 20 from rfl, rv_ckn (by omega) (by omega), nI_clamp (by omega), h92 20 (by omega), hf.1.2.2.1 3 (by omega)]
  rw [if_neg z0, if_neg z1, if_neg z2, if_neg z3, if_neg z4, if_neg z5, if_neg z6, if_neg z0, if_neg z1, if_neg z2, if_neg z3, if_neg z4, if_neg z5, if_neg z6]
  by_cases z7 : a1 = 7
  · rw [if_pos z7, if_pos z7]
    exact ⟨_, S2, rfl, rfl, i2⟩
  · rw [if_neg z7, if_neg z7]
    exact ⟨_, S2, rfl, rfl, i2⟩
theorem rv_lamp : pt_lamp rv_Inv := by
  intro S a1 a2 hI
  obtain ⟨⟨a, hn⟩, -⟩ := id hI
  obtain ⟨w, hm, hf⟩ := id hn
  have ht := w.2.1
  have hc := w.1.1
  have hm16 := hm 16 (by omega)
  obtain ⟨S2, e2, h2, g2, u2, i2⟩ := rv_ready hI hn
  have hw : rv_nw S2 a := fun j hj => (h2.2.2.1 j hj).trans (hm j hj)
  have h21 : rs_gi S2 92 21 = nI (a 21) := (congrFun (h2.1 92 (by omega) (by omega)) 21).trans (hm 21 (by omega))
  unfold xf_X4_lamp xf_X5_lamp
  rcases rv_lampd a1 (a 16) hc with ⟨l, hl, rfl⟩ | hx
  · rw [rv_lampAt hf.1.1 hc hl, rv_b1s]
    simp only [rs_om]
    rw [if_pos (rv_kd0 (by omega)), rv_isLamp hm16 hc hl, rv_b1s, if_neg (show ¬ (1 : Int32) = 0 by decide), rv_out, rv_b1s, rv_o0, show xf_X5_in S a2.toInt64 0 4 = _ from rv_in _ a2 0 4, rv_b1s, rv_i0]
    by_cases hy : (0 : Int32) ≤ a2 ∧ a2 ≤ 4
    · obtain ⟨p, -, hp, rfl⟩ := rv_ins (lo := 0) (hi := 4) (by omega) hy (by omega)
      have hL := hf.1.2.2.2 l hl
      rw [if_pos hy, if_pos hy, e2, rv_b1s, hf.1.2.1, rv_4, rv_le (by omega) (by omega), rv_eq (by omega) (by omega), rv_1, rv_cgives w.1 hl hL (by omega) (by omega), rv_b1s, h21, rv_gives hw w.1 hl (by omega), rv_b1s]
      by_cases hp4 : p = 4
      · rw [if_pos (by omega), if_pos hp4]
        refine ⟨_, S2, rfl, ?_, i2⟩
        rw [if_pos (show rv_uu l = true from rfl)]
        simp only [rv_sm, Nat.zero_add, Nat.add_zero]
      · rw [if_neg (by omega), if_neg hp4, rv_ckn (by omega) (by omega), nI_clamp (by omega), rv_of hw (by omega) (by omega), hL.1 p (by omega), rv_b1s]
        exact ⟨_, S2, rfl, rfl, i2⟩
    · rw [if_neg hy, if_neg hy]
      exact ⟨_, _, rfl, rfl, hI⟩
  · rw [rv_lampAt0 hf.1.1 hx, rv_b1s, rv_isLamp0 hm16 hc hx, rv_b1s, if_pos rfl]
    exact ⟨_, _, rfl, rfl, hI⟩
theorem rv_sop_l {S : rs_St} {B : Nat} {a : Nat → Nat} {u : Nat → Bool} {p : Nat} (h : rv_sc S B a u) (hc : a 16 ≤ 4) (hp : p < 4) (K : Int32 → Int32 → Option Int32) : ∀ (d l fu : Nat), l + d = a 16 → d < fu → xf_X1_sumOfPart_l4 S B (nI p) K fu (nI (rv_sm (fun l => a (4 * l + p)) l)) (nI l) = K (nI (rv_sm (fun l => a (4 * l + p)) (a 16))) (nI (a 16)) := by
  intro d
  induction d with
  | zero =>
    intro l fu hl hf
    obtain ⟨f, rfl⟩ : ∃ f, fu = f + 1 := ⟨fu - 1, by omega⟩
    rw [xf_X1_sumOfPart_l4, h.1, rv_le (by omega) (by omega), if_pos (by omega), show l = a 16 by omega]
  | succ d ih =>
    intro l fu hl hf
    obtain ⟨f, rfl⟩ : ∃ f, fu = f + 1 := ⟨fu - 1, by omega⟩
    rw [xf_X1_sumOfPart_l4, h.1, rv_le (by omega) (by omega), if_neg (by omega), rv_ckn (by omega) (by omega), rv_ckn (by omega) (by omega), nI_clamp (by omega), nI_clamp (by omega), (h.2.2.2 l (by omega)).1 p hp, nI_add, nI_1]
    exact ih (l + 1) f (by omega) (by omega)
theorem rv_so_l {S : rs_St} {a : Nat → Nat} {p : Nat} (h : ∀ j, j < 51 → rs_gi S 92 j = nI (a j)) (hc : a 16 ≤ 4) (hp : p < 4) (K : Int32 → Int32 → Option Int32) : ∀ (d l fu : Nat), l + d = a 16 → d < fu → xf_X5_sumOf_l4 S (nI p) K fu (nI (rv_sm (fun l => a (4 * l + p)) l)) (nI l) = K (nI (rv_sm (fun l => a (4 * l + p)) (a 16))) (nI (a 16)) := by
  intro d
  induction d with
  | zero =>
    intro l fu hl hf
    obtain ⟨f, rfl⟩ : ∃ f, fu = f + 1 := ⟨fu - 1, by omega⟩
    rw [xf_X5_sumOf_l4, h 16 (by omega), rv_le (by omega) (by omega), if_pos (by omega), show l = a 16 by omega]
  | succ d ih =>
    intro l fu hl hf
    obtain ⟨f, rfl⟩ : ∃ f, fu = f + 1 := ⟨fu - 1, by omega⟩
    rw [xf_X5_sumOf_l4, h 16 (by omega), rv_le (by omega) (by omega), if_neg (by omega), rv_4, pk_mul, nI_add, rv_ckn (by omega) (by omega), nI_clamp (by omega), h _ (by omega), nI_add, nI_1]
    exact ih (l + 1) f (by omega) (by omega)
theorem rv_count : pt_count rv_Inv := by
  intro S a1 hI
  obtain ⟨⟨a, w, hm, hf⟩, ho⟩ := id hI
  have hc := w.1.1
  have i0 := (ho.1 0 (by omega)).1
  have i1 := (ho.1 1 (by omega)).1
  obtain ⟨n, hn, t1, t2, t3⟩ := ho.2.1
  have s1 : xf_X1_sumOfPart S 0 1 = some _ := rv_sop_l hf.1 hc (p := 1) (by omega) (fun x _ => some x) (a 16) 0 rs_fu (by omega) (by unfold rs_fu; omega)
  have s2 : xf_X1_sumOfPart S 0 2 = some _ := rv_sop_l hf.1 hc (p := 2) (by omega) (fun x _ => some x) (a 16) 0 rs_fu (by omega) (by unfold rs_fu; omega)
  have r1 : xf_X5_sumOf S 1 = some _ := rv_so_l hm hc (p := 1) (by omega) (fun x _ => some x) (a 16) 0 rs_fu (by omega) (by unfold rs_fu; omega)
  have r2 : xf_X5_sumOf S 2 = some _ := rv_so_l hm hc (p := 2) (by omega) (fun x _ => some x) (a 16) 0 rs_fu (by omega) (by unfold rs_fu; omega)
  unfold xf_X4_count xf_X5_count
  rw [s1, s2, r1, r2]
  simp only [rv_b1s]
  by_cases z0 : a1 = 0
  · rw [if_pos z0, if_pos z0, hf.2.2.2.2.1, hm 32 (by omega)]
    exact ⟨_, rfl, rfl, hI⟩
  rw [if_neg z0, if_neg z0]
  by_cases z1 : a1 = 1
  · rw [if_pos z1, if_pos z1, ← i0, ← i1]
    unfold xf_X5_flag
    simp only [rs_jn]
    by_cases q0 : rs_gi S 78 0 = 0
    · rw [if_pos q0, if_pos q0]
      by_cases q1 : rs_gi S 78 1 = 0
      · rw [if_pos q1, if_pos q1]
        exact ⟨_, rfl, rfl, hI⟩
      · rw [if_neg q1, if_neg q1]
        exact ⟨_, rfl, rfl, hI⟩
    · rw [if_neg q0, if_neg q0]
      by_cases q1 : rs_gi S 78 1 = 0
      · rw [if_pos q1, if_pos q1]
        exact ⟨_, rfl, rfl, hI⟩
      · rw [if_neg q1, if_neg q1]
        exact ⟨_, rfl, rfl, hI⟩
  rw [if_neg z1, if_neg z1]
  by_cases z2 : a1 = 2
  · rw [if_pos z2, if_pos z2, t1, t2]
    exact ⟨_, rfl, rfl, hI⟩
  rw [if_neg z2, if_neg z2]
  by_cases z3 : a1 = 3
  · rw [if_pos z3, if_pos z3]
    rcases ho.2.2.2.2.1 0 (by omega) with ⟨q1, q2⟩ | ⟨ln, z, b1, b2, q1, q2, q3, q4, q5⟩
    · refine ⟨-4, if_pos q1, if_pos q2, hI⟩
    · refine ⟨nI z, ?_, ?_, hI⟩
      · rw [if_neg, show rs_gi S (83 + 2 * (0 : Int32).toNatClampNeg) 2 = nI z from q3]
        intro e
        exact rv_ne (n := ln) (x := -1) (by omega) (by decide) (q1.symm.trans e)
      · rw [if_neg, q4]
        rw [q2]
        exact rv_neg4 (by omega)
  rw [if_neg z3, if_neg z3]
  by_cases z4 : a1 = 4
  · rw [if_pos z4]
    exact ⟨_, rfl, rfl, hI⟩
  rw [if_neg z4]
  by_cases z5 : a1 = 5
  · rw [if_pos z5]
    exact ⟨_, rfl, rfl, hI⟩
  rw [if_neg z5]
  exact ⟨_, rfl, rfl, hI⟩
