/-! the class: a line with its stop; the loop; the draft -/
set_option maxRecDepth 100000 in
theorem tq_cline {T : Nat → Nat} {n p m : Nat} {a : Nat → Nat} {S0 S : rs_St} (c : tq_cT T n S) (hp : p ≤ n) (A : tq_cA T n p S) (hb : tq_bad T n p = false) (h3 : ¬ tq_tk T n p = 3) (f : tq_cF S0 S) (d : tq_cD S a m) (w : tq_dw a) (hm : m < 16) : ∃ S2, xf_X3_readLine S 19 = some S2 ∧ tq_cF S0 S2 ∧ tq_cT T n S2 ∧ (∀ e, tq_line T n p a m = .inl e → tq_cR S2 e) ∧ (∀ x, tq_line T n p a m = .inr x → rs_gi S2 80 6 = 0 ∧ rs_gi S2 80 4 = nI x.2.2 ∧ tq_cD S2 x.1 x.2.1) := by
  obtain ⟨S1, e1, f1, c1, i1, o1⟩ := tq_cbody c hp A hb h3 f d w hm (fun (S3 : rs_St) => rs_jn (fun (S5 : rs_St) => if (rs_gi S5 80 6) = 0 then if (rs_gi S5 80 2) = 2 then some S5 else rs_lt (rs_si S5 80 6 2) (fun S9 => some S9) else some S5) (fun J6 => if (rs_gi S3 80 6) = 0 then rs_b1 (xf_X3_advance S3) (fun S12 => J6 S12) else J6 S3))
  have e1' : xf_X3_readLine S 19 = _ := e1
  rw [e1']
  simp only [rs_jn, rs_lt]
  unfold tq_line
  rcases p1 : tq_body T n p a m with e | x
  · have R := i1 e p1
    rw [if_neg (tq_cRn R), if_neg (tq_cRn R)]
    exact ⟨S1, rfl, f1, c1, fun e' h => by cases h; exact R, fun x h => by cases h⟩
  · obtain ⟨h6, h4, d1⟩ := o1 x p1
    obtain ⟨w1, m1, b1, b2⟩ := tq_body_b hp h3 (tq_bad4 hb).1 w hm p1
    obtain ⟨S2, e2, g2, A1, A2, A3⟩ := tq_adv c1 b2 h4 h6
    have hs := tq_ts_b (T := T) b2
    have hn := c1.1
    have hk4 := tq_tk4 (T := T) (n := n) (p := x.2.2)
    have f2 := tq_cF_f g2 f1
    have c2 := tq_cT_cg g2 c1
    have d2 := tq_cD_f w1.1.1 g2 d1
    show ∃ S2, _ ∧ tq_cF S0 S2 ∧ tq_cT T n S2 ∧ (∀ e, tq_bd (tq_ps T n x.2.2) (fun q => .inr (x.1, x.2.1, q)) = .inl e → tq_cR S2 e) ∧ (∀ y, tq_bd (tq_ps T n x.2.2) (fun q => .inr (x.1, x.2.1, q)) = .inr y → rs_gi S2 80 6 = 0 ∧ rs_gi S2 80 4 = nI y.2.2 ∧ tq_cD S2 y.1 y.2.1)
    rw [h6, if_pos rfl, e2, rv_b1s]
    unfold tq_ps
    cases hb2 : tq_bad T n x.2.2 with
    | true =>
      have q6 := A2 hb2
      rw [q6, if_neg (show ¬ (1 : Int32) = 0 by decide), if_pos rfl]
      exact ⟨S2, rfl, f2, c2, fun e' h => by cases h; exact ⟨q6, A1, Nat.le_refl _, (show 1 ≤ 5 by omega), (show tq_ts T n x.2.2 ≤ 160 by omega)⟩, fun y h => by cases h⟩
    | false =>
      obtain ⟨q6, q2, q4⟩ := A3 hb2
      rw [q6, if_pos rfl, q2, rv_2, rv_eq (by omega) (by omega), if_neg (show ¬ false = true by decide)]
      by_cases hk : tq_tk T n x.2.2 = 2
      · rw [if_pos hk, if_pos hk]
        exact ⟨S2, rfl, f2, c2, (fun e' h => by cases h), fun y h => by cases h; exact ⟨q6, q4, d2⟩⟩
      · rw [if_neg hk, if_neg hk]
        have g3 : tq_f80 S2 (rs_si S2 80 6 (nI 2)) := fun k j z => rv_gsn (by omega)
        exact ⟨_, rfl, tq_cF_f g3 f2, tq_cT_cg g3 c2, fun e' h => by cases h; exact ⟨rv_gss _ _ _ _, (rv_gsn (by omega)).trans A1, (show 1 ≤ 2 by omega), (show 2 ≤ 5 by omega), (show tq_ts T n x.2.2 ≤ 160 by omega)⟩, fun y h => by cases h⟩
def tq_loop (T : Nat → Nat) (n : Nat) : Nat → Nat → (Nat → Nat) → Nat → Nat → Sum (Nat × Nat) (Nat × (Nat → Nat))
  | 0, _, _, _, _ => .inl (5, 0)
  | d + 1, p, a, m, x => if tq_bad T n p then .inl (1, tq_ts T n p) else if tq_tk T n p = 3 then .inr (x, a) else tq_bd (tq_line T n p a m) (fun y => tq_loop T n d y.2.2 y.1 y.2.1 (x + 1))
theorem tq_160 : (160 : Int32) = nI 160 := rfl
theorem tq_cl25 {T : Nat → Nat} {n : Nat} {S0 : rs_St} (K : rs_St → Int32 → Option (Int32 × rs_St)) : ∀ (d p m x fu : Nat) (a : Nat → Nat) (S : rs_St), n - p < d → d + 1 < fu → p ≤ n → x ≤ p → tq_dw a → m < 16 → tq_cT T n S → tq_cA T n p S → tq_cF S0 S → tq_cD S a m → ∃ S2 x2, xf_X3_readInto_l25 19 K fu S (nI x) = K S2 x2 ∧ tq_cF S0 S2 ∧ (∀ e, tq_loop T n d p a m x = .inl e → tq_cR S2 e) ∧ (∀ y, tq_loop T n d p a m x = .inr y → x2 = nI y.1 ∧ rs_gi S2 80 6 = 0 ∧ rv_sc S2 19 y.2 rv_uu ∧ tq_dw y.2) := by
  intro d
  induction d with
  | zero =>
    intro p m x fu a S h1
    omega
  | succ d ih =>
    intro p m x fu a S h1 hf hp hx w hm c A f dd
    obtain ⟨fz, rfl⟩ : ∃ f, fu = f + 1 + 1 := ⟨fu - 2, by omega⟩
    have hn := c.1
    have hs := tq_ts_b (T := T) hp
    have hk4 := tq_tk4 (T := T) (n := n) (p := p)
    obtain ⟨A1, A2, A3⟩ := id A
    rw [xf_X3_readInto_l25, tq_160, rv_le (by omega) (by omega), tq_loop]
    cases hb : tq_bad T n p with
    | true =>
      have q6 := A2 hb
      refine ⟨S, nI x, ?_, f, fun e h => ?_, fun y h => ?_⟩
      · rw [q6, if_neg (show ¬ (1 : Int32) = 0 by decide), ite_self]
      · rw [if_pos rfl] at h
        cases h
        exact ⟨q6, A1, Nat.le_refl _, (show 1 ≤ 5 by omega), (show tq_ts T n p ≤ 160 by omega)⟩
      · rw [if_pos rfl] at h
        cases h
    | false =>
      obtain ⟨q6, q2, q4⟩ := A3 hb
      rw [q6, if_pos rfl, q2, rv_3, rv_eq (by omega) (by omega), if_neg (show ¬ false = true by decide)]
      by_cases hk : tq_tk T n p = 3
      · rw [if_pos hk, if_pos hk, ite_self]
        refine ⟨S, nI x, rfl, f, (fun e h => by cases h), fun y h => ?_⟩
        cases h
        exact ⟨rfl, q6, dd.1, w⟩
      · have hlt := tq_tkn hk
        rw [if_neg (show ¬ 160 ≤ x by omega), if_neg hk, if_neg hk]
        obtain ⟨S1, e1, f1, c1, i1, o1⟩ := tq_cline c hp A hb hk f dd w hm
        rw [e1, rv_b1s]
        simp only [rs_jn, rs_lt]
        rcases p1 : tq_line T n p a m with e | y
        · have R := i1 e p1
          refine ⟨S1, nI (x + 1), ?_, f1, fun e' h => by cases h; exact R, fun y h => by cases h⟩
          rw [if_neg (tq_cRn R), nI_1, xf_X3_readInto_l25, if_neg (tq_cRn R), ite_self]
        · obtain ⟨h6, h4, d1⟩ := o1 y p1
          obtain ⟨w1, m1, b1, b2⟩ := tq_line_b hp hk (tq_bad4 hb).1 w hm p1
          obtain ⟨S2, e2, g2, B1, B2, B3⟩ := tq_adv c1 b2 h4 h6
          rw [h6, if_pos rfl, e2, rv_b1s, nI_1]
          exact ih y.2.2 y.2.1 (x + 1) (fz + 1) y.1 S2 (by omega) (by omega) b2 (by omega) w1 m1 (tq_cT_cg g2 c1) ⟨B1, B2, B3⟩ (tq_cF_f g2 f1) (tq_cD_f w1.1.1 g2 d1)
/-- the first draft -/
def tq_a0 : Nat → Nat := fun j => if j = 17 then 4 else if j = 18 then 2 else if j = 19 then 4 else if j = 20 then 20 else 0
theorem tq_a0_w : tq_dw tq_a0 := by
  refine ⟨⟨by decide, fun l hl => absurd hl (by show ¬ l < 0; omega), by decide, by decide, by decide, by decide⟩, fun j hj => ?_⟩
  unfold tq_a0
  rw [if_neg (by omega), if_neg (by omega), if_neg (by omega), if_neg (by omega)]
theorem tq_clear (S : rs_St) : ∃ S2, xf_X1_clear S 19 = some S2 ∧ rv_sc S2 19 tq_a0 rv_uu ∧ rs_gi S2 19 4 = 0 ∧ rs_gi S2 19 6 = 0 ∧ rs_gi S2 19 10 = 0 ∧ ∀ k j, k ≠ 19 → k ≠ 21 → rs_gi S2 k j = rs_gi S k j := by
  unfold xf_X1_clear
  simp only [rs_lt]
  refine ⟨_, rfl, ⟨?_, ?_, fun j hj => ?_, fun l hl => absurd hl (by show ¬ l < 0; omega)⟩, ?_, ?_, ?_, fun k j k1 k2 => ?_⟩
  · rw [rv_gsn (by omega), rv_gsn (by omega), rv_gsn (by omega), rv_gsn (by omega), rv_gan (by omega), rv_gss]
    rfl
  · rw [rv_gsn (by omega), rv_gsn (by omega), rv_gsn (by omega), rv_gss]
    rfl
  · rw [rv_gsn (by omega), rv_gsn (by omega), rv_gsn (by omega), rv_gsn (by omega), rv_gas, rv_cpy hj]
    rcases (show j = 0 ∨ j = 1 ∨ j = 2 ∨ j = 3 by omega) with rfl | rfl | rfl | rfl <;> rfl
  · rw [rv_gsn (by omega), rv_gsn (by omega), rv_gss]
  · rw [rv_gsn (by omega), rv_gss]
  · rw [rv_gss]
  · rw [rv_gsn (by omega), rv_gsn (by omega), rv_gsn (by omega), rv_gsn (by omega), rv_gan (by omega), rv_gsn (by omega)]
def tq_all (T : Nat → Nat) (n : Nat) : Sum (Nat × Nat) (Nat × (Nat → Nat)) := tq_loop T n 162 0 tq_a0 0 0
theorem tq_into {T : Nat → Nat} {n : Nat} {S : rs_St} (c : tq_cT T n S) (hz : ∀ l, l < 4 → rs_gi S (19 + 1 + 6 + 3 * l + 2) 0 = 0) : ∃ r S2, xf_X3_readInto S 19 = some (r, S2) ∧ (∀ k j, ¬ (k = 80 ∧ 2 ≤ j ∧ j ≤ 6) → k < 19 ∨ 38 ≤ k → rs_gi S2 k j = rs_gi S k j) ∧ (∀ l, l < 4 → rs_gi S2 (19 + 1 + 6 + 3 * l + 2) 0 = 0) ∧ (∀ e, tq_all T n = .inl e → tq_cR S2 e ∧ r = -10 - nI e.2) ∧ (∀ y, tq_all T n = .inr y → r = nI y.1 ∧ rs_gi S2 80 6 = 0 ∧ rv_fsc S2 19 y.2 ∧ tq_dw y.2) := by
  have hn := c.1
  obtain ⟨S1, e1, s1, z4, z6, z10, g1⟩ := tq_clear S
  obtain ⟨S2, hS2⟩ : ∃ S2, S2 = rs_si (rs_si (rs_si S1 80 4 0) 80 5 0) 80 6 0 := ⟨_, rfl⟩
  have g2 : ∀ k j, ¬ (k = 80 ∧ 2 ≤ j ∧ j ≤ 6) → rs_gi S2 k j = rs_gi S1 k j := fun k j h => by rw [hS2, rv_gsn (by omega), rv_gsn (by omega), rv_gsn (by omega)]
  have c2 : tq_cT T n S2 := ⟨c.1, c.2.1, (g2 _ _ (by omega)).trans ((g1 _ _ (by omega) (by omega)).trans c.2.2.1), fun i hi => (g2 _ _ (by omega)).trans ((g1 _ _ (by omega) (by omega)).trans (c.2.2.2 i hi))⟩
  have h4 : rs_gi S2 80 4 = nI 0 := by
    rw [hS2, rv_gsn (by omega), rv_gsn (by omega), rv_gss]
    rfl
  have h5 : rs_gi S2 80 5 = nI 0 := by
    rw [hS2, rv_gsn (by omega), rv_gss]
    rfl
  have h6 : rs_gi S2 80 6 = 0 := by rw [hS2, rv_gss]
  obtain ⟨S3, e3, g3, A1, A2, A3⟩ := tq_adv c2 (Nat.zero_le n) h4 h6
  have f2 : tq_cF S2 S2 := ⟨fun _ _ _ _ => rfl, fun l hl => (g2 _ _ (by omega)).trans ((g1 _ _ (by omega) (by omega)).trans (hz l hl))⟩
  have d2 : tq_cD S2 tq_a0 0 := ⟨tq_sc_f (by decide) (fun k j hk => g2 k j (by omega)) s1, h5⟩
  obtain ⟨S4, x4, e4, f4, i4, o4⟩ := tq_cl25 (S0 := S2) (fun (S21 : rs_St) (x22 : Int32) => if (rs_gi S21 80 6) = 0 then some (x22, S21) else some (((-10) - (rs_gi S21 80 3)), S21)) 162 0 0 0 rs_fu tq_a0 S3 (by omega) (by unfold rs_fu; omega) (Nat.zero_le _) (Nat.zero_le _) tq_a0_w (by omega) (tq_cT_cg g3 c2) ⟨A1, A2, A3⟩ (tq_cF_f g3 f2) (tq_cD_f (by decide) g3 d2)
  have e5 : xf_X3_readInto S 19 = if (rs_gi S4 80 6) = 0 then some (x4, S4) else some (((-10) - (rs_gi S4 80 3)), S4) := by
    unfold xf_X3_readInto
    rw [e1, rv_b1s, rv_lts, rv_lts, rv_lts, ← hS2, e3, rv_b1s]
    exact e4
  have fr : ∀ k j, ¬ (k = 80 ∧ 2 ≤ j ∧ j ≤ 6) → k < 19 ∨ 38 ≤ k → rs_gi S4 k j = rs_gi S k j := fun k j h1 h2 => (f4.1 k j h1 (by omega)).trans ((g2 k j h1).trans (g1 k j (by omega) (by omega)))
  rw [e5]
  unfold tq_all
  rcases p1 : tq_loop T n 162 0 tq_a0 0 0 with e | y
  · have R := i4 e p1
    refine ⟨-10 - nI e.2, S4, ?_, fr, f4.2, fun e' h => ?_, fun y h => by cases h⟩
    · rw [if_neg (tq_cRn R), R.2.1]
    · cases h
      exact ⟨R, rfl⟩
  · obtain ⟨rfl, q6, q7, q8⟩ := o4 y p1
    refine ⟨nI y.1, S4, ?_, fr, f4.2, (fun e' h => by cases h), fun y' h => ?_⟩
    · rw [if_pos q6]
    · cases h
      have w0 := q8.2
      refine ⟨rfl, q6, ⟨q7, ?_, ?_, fun j hj => ?_, ?_, fun i hi => ?_⟩, q8⟩
      · rw [f4.1 _ _ (by omega) (by omega), g2 _ _ (by omega), z4, w0 22 (by omega)]
        rfl
      · rw [f4.1 _ _ (by omega) (by omega), g2 _ _ (by omega), z6, w0 23 (by omega)]
        rfl
      · rw [w0 23 (by omega)] at hj
        omega
      · rw [f4.1 _ _ (by omega) (by omega), g2 _ _ (by omega), z10, w0 32 (by omega)]
        rfl
      · rw [w0 32 (by omega)] at hi
        omega
