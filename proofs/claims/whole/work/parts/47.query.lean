/-! calls that only ask -/
theorem rv_on_st {S S2 : rs_St} (h : rv_stP S S2) (a : Nat → Nat) {l : Nat} (hl : l < 4) : rv_on S2 a l = true := by
  unfold rv_on
  rw [h.2.2.2.2.1, h.2.2.2.2.2.1]
  simp [rv_neg4 (n := l) (by omega)]
theorem rv_st_inv {S S2 : rs_St} (h : rv_stP S S2) (hI : rv_Inv S) : rv_Inv S2 := by
  refine rv_Inv_cg (fun k j z => ?_) hI
  by_cases q : k = 91
  · rw [q]
    exact h.2.2.2.1 j (by unfold rv_rel at z; omega)
  · exact congrFun (h.1 k q (by unfold rv_rel at z; omega)) j
theorem rv_go_inv {S S3 : rs_St} {a : Nat → Nat} {u : Nat → Bool} {n : Nat} (h : rv_goP S a u n S3) (hI : rv_Inv S) : rv_Inv S3 := by
  refine rv_Inv_cg (fun k j z => ?_) hI
  by_cases q : k = 91
  · rw [q]
    exact h.2.2.2.1 j (by unfold rv_rel at z; omega)
  · exact congrFun (h.1.1 k q (by unfold rv_rel at z; omega) (by unfold rv_rel at z; omega)) j
/-- a fresh start, ready to shoot -/
theorem rv_ready {S : rs_St} {a : Nat → Nat} (hI : rv_Inv S) (hn : rv_now S a) : ∃ S2, xf_X5_starts S = some S2 ∧ rv_stP S S2 ∧ rv_goP S2 a rv_uu 0 S2 ∧ (∀ l, l < a 16 → rv_on S2 a l = rv_uu l) ∧ rv_Inv S2 := by
  obtain ⟨S2, e, h⟩ := rv_starts S
  have hc := hn.1.1.1
  exact ⟨S2, e, h, rv_go0 h hn.2.1, fun l hl => rv_on_st h a (by omega), rv_st_inv h hI⟩
theorem rv_runs : pt_runs rv_Inv := by
  intro S a1 a2 hI
  obtain ⟨⟨a, hn⟩, -⟩ := id hI
  obtain ⟨w, hm, hf⟩ := id hn
  have ht := w.2.1
  unfold xf_X4_runs xf_X5_runs
  rw [rv_out, rv_b1s, rv_o0, rv_isFar, rv_b1s, rv_i0]
  by_cases hx : (0 : Int32) ≤ a1 ∧ a1 ≤ 40
  · obtain ⟨n, -, hv, rfl⟩ := rv_ins (lo := 0) (hi := 40) (by omega) hx (by omega)
    rw [if_pos hx, if_pos hx, show xf_X5_in S a2.toInt64 0 3 = _ from rv_in _ a2 0 3, rv_b1s, rv_i0]
    obtain ⟨S2, e2, h2, g2, u2, i2⟩ := rv_ready hI hn
    obtain ⟨S3, e3, g3⟩ := rv_shotsGo w.1 u2 (n := n) (by omega) ht g2
    have i3 := rv_go_inv g3 i2
    rw [e2, rv_b1s, e3, rv_b1s, rv_cgreat w.1 hf.1 ht (by omega), rv_cleast w.1 hf.1 ht (by omega), rv_clights w.1 hf.1 ht (by omega), rv_cfull w.1 hf.1 ht (by omega)]
    simp only [rv_b1s]
    obtain ⟨-, -, -, -, -, q15, q16, q17, q18⟩ := g3
    by_cases z0 : a2 = 0
    · subst z0
      refine ⟨_, S3, if_pos rfl, ?_, i3⟩
      rw [if_pos ⟨by decide, by decide⟩, if_pos rfl, q15]
    · by_cases z1 : a2 = 1
      · subst z1
        refine ⟨_, S3, rfl, ?_, i3⟩
        rw [if_pos ⟨by decide, by decide⟩, if_neg (by decide), if_pos rfl, q16]
      · by_cases z2 : a2 = 2
        · subst z2
          refine ⟨_, S3, rfl, ?_, i3⟩
          rw [if_pos ⟨by decide, by decide⟩, if_neg (by decide), if_neg (by decide), if_pos rfl, q17]
        · by_cases z3 : a2 = 3
          · subst z3
            refine ⟨_, S3, rfl, ?_, i3⟩
            rw [if_pos ⟨by decide, by decide⟩, if_neg (by decide), if_neg (by decide), if_neg (by decide), q18]
          · rw [if_neg z0, if_neg z1, if_neg z2, if_neg z3, if_neg]
            · exact ⟨_, _, rfl, rfl, hI⟩
            · intro q
              obtain ⟨v, -, hv, rfl⟩ := rv_ins (lo := 0) (hi := 3) (by omega) q (by omega)
              rcases (show v = 0 ∨ v = 1 ∨ v = 2 ∨ v = 3 by omega) with rfl | rfl | rfl | rfl
              · exact z0 rfl
              · exact z1 rfl
              · exact z2 rfl
              · exact z3 rfl
  · rw [if_neg hx, if_neg hx]
    exact ⟨_, _, rfl, rfl, hI⟩
theorem rv_ahead : pt_ahead rv_Inv := by
  intro S a1 a2 hI
  obtain ⟨⟨a, hn⟩, -⟩ := id hI
  obtain ⟨w, hm, hf⟩ := id hn
  have ht := w.2.1
  have hR := w.1.2.2.1
  have r0 : rs_gi S (0 + 2) 0 = nI (a 17) := hf.1.2.2.1 0 (by omega)
  unfold xf_X4_ahead xf_X5_ahead
  rw [rv_out, rv_b1s, rv_o0, rv_isFar, rv_b1s, rv_i0]
  by_cases hx : (0 : Int32) ≤ a1 ∧ a1 ≤ 40
  · obtain ⟨n, -, hv, rfl⟩ := rv_ins (lo := 0) (hi := 40) (by omega) hx (by omega)
    rw [if_pos hx, if_pos hx, r0, hm 17 (by omega), rv_1, pk_sub (by omega), rv_out, rv_b1s, rv_o0, show xf_X5_in S a2.toInt64 0 (nI (a 17 - 1)).toInt64 = _ from rv_in _ a2 0 (nI (a 17 - 1)), rv_b1s, rv_i0]
    by_cases hy : (0 : Int32) ≤ a2 ∧ a2 ≤ nI (a 17 - 1)
    · obtain ⟨r, -, hr, rfl⟩ := rv_ins (lo := 0) (by omega) hy (by omega)
      obtain ⟨S2, e2, h2, g2, u2, i2⟩ := rv_ready hI hn
      obtain ⟨S3, e3, g3⟩ := rv_shotsGo w.1 u2 (n := n + 1) (by omega) ht g2
      have i3 := rv_go_inv g3 i2
      rw [if_pos hy, if_pos hy, e2, rv_b1s, nI_add, e3, rv_b1s, rv_cbright w.1 hf.1 ht (by omega) (by omega), rv_ckn (by omega) (by omega), nI_clamp (by omega), g3.2.2.1 (by omega) r (by omega)]
      exact ⟨_, _, rfl, rfl, i3⟩
    · rw [if_neg hy, if_neg hy]
      exact ⟨_, _, rfl, rfl, hI⟩
  · rw [if_neg hx, if_neg hx]
    exact ⟨_, _, rfl, rfl, hI⟩
theorem rv_40 : (40 : Int32) = nI 40 := rfl
theorem rv_when_l {S S2 : rs_St} {a : Nat → Nat} (w : rv_wf2 a) (hf : rv_fsc S 0 a) (u2 : ∀ l, l < a 16 → rv_on S2 a l = rv_uu l) {b : Nat} (hb : b ≤ 255) : ∀ (d i fu : Nat) (S3 : rs_St), i + d = 41 → d < fu → rv_goP S2 a rv_uu i S3 → ∃ r S4 j, xf_X4_when_l15 S (nI b) (fun _ => some (-4)) fu (nI i) = some r ∧ xf_X5_when_l20 (nI b) (fun S13 _ => some (-4, S13)) fu S3 (nI i) = some (r, S4) ∧ rv_goP S2 a rv_uu j S4 := by
  have ht := w.2.1
  have hp := w.1.2.2.2.2.2
  intro d
  induction d with
  | zero =>
    intro i fu S3 hi hfu hP
    obtain ⟨f, rfl⟩ : ∃ f, fu = f + 1 := ⟨fu - 1, by omega⟩
    refine ⟨-4, S3, i, ?_, ?_, hP⟩
    · rw [xf_X4_when_l15, rv_40, rv_lt (by omega) (by omega), if_pos (by omega)]
    · rw [xf_X5_when_l20, rv_40, rv_lt (by omega) (by omega), if_pos (by omega)]
  | succ d ih =>
    intro i fu S3 hi hfu hP
    obtain ⟨f, rfl⟩ : ∃ f, fu = f + 1 := ⟨fu - 1, by omega⟩
    have hmm : i * a 20 ≤ 41 * 60 := Nat.mul_le_mul (by omega) hp.2
    obtain ⟨S5, e5, g5⟩ := rv_go1 w.1 u2 (by unfold rv_T; omega) hP
    have h19 : rs_gi S5 91 19 = nI (rv_bd a rv_uu (rv_T a i)) := g5.2.2.2.2.1 (by omega)
    have hbl := rv_bd_le a rv_uu (rv_T a i)
    by_cases q : rv_bd a rv_uu (rv_T a i) < b
    · obtain ⟨r, S4, j, q1, q2, q3⟩ := ih (i + 1) f S5 (by omega) (by omega) g5
      refine ⟨r, S4, j, ?_, ?_, q3⟩
      · rw [xf_X4_when_l15, rv_40, rv_lt (by omega) (by omega), if_neg (by omega), rv_cbands w.1 hf.1 ht (by omega), rv_b1s, rv_lt (by omega) (by omega), if_pos q, rv_lts, nI_1]
        exact q1
      · rw [xf_X5_when_l20, rv_40, rv_lt (by omega) (by omega), if_neg (by omega), e5, rv_b1s, h19, rv_lt (by omega) (by omega), if_pos q, rv_lts, nI_1]
        exact q2
    · refine ⟨nI i, S5, _, ?_, ?_, g5⟩
      · rw [xf_X4_when_l15, rv_40, rv_lt (by omega) (by omega), if_neg (by omega), rv_cbands w.1 hf.1 ht (by omega), rv_b1s, rv_lt (by omega) (by omega), if_neg q]
      · rw [xf_X5_when_l20, rv_40, rv_lt (by omega) (by omega), if_neg (by omega), e5, rv_b1s, h19, rv_lt (by omega) (by omega), if_neg q]
theorem rv_when : pt_when rv_Inv := by
  intro S a1 hI
  obtain ⟨⟨a, hn⟩, -⟩ := id hI
  obtain ⟨w, hm, hf⟩ := id hn
  unfold xf_X4_when xf_X5_when
  rw [rv_out, rv_b1s, rv_o0, show xf_X5_in S a1.toInt64 0 255 = _ from rv_in _ a1 0 255, rv_b1s, rv_i0]
  by_cases hx : (0 : Int32) ≤ a1 ∧ a1 ≤ 255
  · obtain ⟨n, -, hv, rfl⟩ := rv_ins (lo := 0) (hi := 255) (by omega) hx (by omega)
    obtain ⟨S2, e2, h2, g2, u2, i2⟩ := rv_ready hI hn
    obtain ⟨r, S4, j, q1, q2, q3⟩ := rv_when_l w hf u2 hv 41 0 rs_fu S2 (by omega) (by unfold rs_fu; omega) g2
    rw [if_pos hx, if_pos hx, e2, rv_b1s]
    exact ⟨r, S4, q1, q2, rv_go_inv q3 i2⟩
  · rw [if_neg hx, if_neg hx]
    exact ⟨_, _, rfl, rfl, hI⟩
