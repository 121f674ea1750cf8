/-! the draft of the reference -/
theorem tq_fd2 {S : rs_St} (K : rs_St → Int32 → Option rs_St) : ∀ (d i fu : Nat) (S1 : rs_St), i + d = 51 → d < fu → (∀ k j, k ≠ 95 → rs_gi S1 k j = rs_gi S k j) → (∀ j, j < i → rs_gi S1 95 j = 0) → ∃ S2, xf_X5_firstDraft_l2 K fu S1 (nI i) = K S2 (nI 51) ∧ (∀ k j, k ≠ 95 → rs_gi S2 k j = rs_gi S k j) ∧ (∀ j, j < 51 → rs_gi S2 95 j = 0) := by
  intro d
  induction d with
  | zero =>
    intro i fu S1 hi hf h1 h2
    obtain ⟨f, rfl⟩ : ∃ f, fu = f + 1 := ⟨fu - 1, by omega⟩
    obtain rfl : i = 51 := by omega
    refine ⟨S1, ?_, h1, h2⟩
    rw [xf_X5_firstDraft_l2, rv_51, rv_le (by omega) (by omega), if_pos (by omega)]
  | succ d ih =>
    intro i fu S1 hi hf h1 h2
    obtain ⟨f, rfl⟩ : ∃ f, fu = f + 1 := ⟨fu - 1, by omega⟩
    rw [xf_X5_firstDraft_l2, rv_51, rv_le (by omega) (by omega), if_neg (by omega), rv_ckn (by omega) (by omega), nI_clamp (by omega), rv_lts, rv_lts, nI_1]
    refine ih (i + 1) f _ (by omega) (by omega) (fun k j hk => (rv_gsn (by omega)).trans (h1 k j hk)) (fun j hj => ?_)
    by_cases e : j = i
    · rw [e, rv_gss]
    · rw [rv_gsn (by omega)]
      exact h2 j (by omega)
theorem tq_fd23 {S : rs_St} (K : rs_St → Int32 → Option rs_St) : ∀ (d i fu : Nat) (S1 : rs_St), i + d = 4 → d < fu → (∀ k j, k ≠ 96 → rs_gi S1 k j = rs_gi S k j) → (∀ j, j < i → rs_gi S1 96 j = 0) → ∃ S2, xf_X5_firstDraft_l23 K fu S1 (nI i) = K S2 (nI 4) ∧ (∀ k j, k ≠ 96 → rs_gi S2 k j = rs_gi S k j) ∧ (∀ j, j < 4 → rs_gi S2 96 j = 0) := by
  intro d
  induction d with
  | zero =>
    intro i fu S1 hi hf h1 h2
    obtain ⟨f, rfl⟩ : ∃ f, fu = f + 1 := ⟨fu - 1, by omega⟩
    obtain rfl : i = 4 := by omega
    refine ⟨S1, ?_, h1, h2⟩
    rw [xf_X5_firstDraft_l23, rv_4, rv_le (by omega) (by omega), if_pos (by omega)]
  | succ d ih =>
    intro i fu S1 hi hf h1 h2
    obtain ⟨f, rfl⟩ : ∃ f, fu = f + 1 := ⟨fu - 1, by omega⟩
    rw [xf_X5_firstDraft_l23, rv_4, rv_le (by omega) (by omega), if_neg (by omega), rv_ckn (by omega) (by omega), nI_clamp (by omega), rv_lts, rv_lts, nI_1]
    refine ih (i + 1) f _ (by omega) (by omega) (fun k j hk => (rv_gsn (by omega)).trans (h1 k j hk)) (fun j hj => ?_)
    by_cases e : j = i
    · rw [e, rv_gss]
      rfl
    · rw [rv_gsn (by omega)]
      exact h2 j (by omega)
theorem tq_bi0 {w : Nat} (hw : w < 4) : rv_bi 0 w = false := by
  rcases (show w = 0 ∨ w = 1 ∨ w = 2 ∨ w = 3 by omega) with rfl | rfl | rfl | rfl <;> rfl
theorem tq_first (S : rs_St) : ∃ S2, xf_X5_firstDraft S = some S2 ∧ (∀ k j, k ≠ 95 → k ≠ 96 → rs_gi S2 k j = rs_gi S k j) ∧ tq_rD S2 tq_a0 0 := by
  obtain ⟨S1, e1, g1, v1⟩ := tq_fd2 (S := S) (fun (S7 : rs_St) (x8 : Int32) => xf_X5_firstDraft_l23 (fun (S15 : rs_St) (x16 : Int32) => rs_lt (rs_si S15 95 17 4) (fun S17 => rs_lt (rs_si S17 95 18 2) (fun S18 => rs_lt (rs_si S18 95 19 4) (fun S19 => rs_lt (rs_si S19 95 20 20) (fun S20 => some S20))))) rs_fu S7 0) 51 0 rs_fu S (by omega) (by unfold rs_fu; omega) (fun _ _ _ => rfl) (fun j hj => by omega)
  obtain ⟨S2, e2, g2, v2⟩ := tq_fd23 (S := S1) (fun (S15 : rs_St) (x16 : Int32) => rs_lt (rs_si S15 95 17 4) (fun S17 => rs_lt (rs_si S17 95 18 2) (fun S18 => rs_lt (rs_si S18 95 19 4) (fun S19 => rs_lt (rs_si S19 95 20 20) (fun S20 => some S20))))) 4 0 rs_fu S1 (by omega) (by unfold rs_fu; omega) (fun _ _ _ => rfl) (fun j hj => by omega)
  refine ⟨_, (Eq.trans e1 e2), fun k j h1 h2 => (rv_gsn (by omega)).trans ((rv_gsn (by omega)).trans ((rv_gsn (by omega)).trans ((rv_gsn (by omega)).trans ((g2 k j h2).trans (g1 k j h1))))), fun j hj => ?_, fun w hw => ?_⟩
  · simp only [rv_gs]
    unfold tq_a0
    by_cases h20 : j = 20
    · rw [if_pos ⟨trivial, h20⟩, if_neg (by omega), if_neg (by omega), if_neg (by omega), if_pos h20]
      rfl
    · by_cases h19 : j = 19
      · rw [if_neg (by omega), if_pos ⟨trivial, h19⟩, if_neg (by omega), if_neg (by omega), if_pos h19]
        rfl
      · by_cases h18 : j = 18
        · rw [if_neg (by omega), if_neg (by omega), if_pos ⟨trivial, h18⟩, if_neg (by omega), if_pos h18]
          rfl
        · by_cases h17 : j = 17
          · rw [if_neg (by omega), if_neg (by omega), if_neg (by omega), if_pos ⟨trivial, h17⟩, if_pos h17]
            rfl
          · rw [if_neg (by omega), if_neg (by omega), if_neg (by omega), if_neg (by omega), g2 _ _ (by omega), v1 j hj, if_neg h17, if_neg h18, if_neg h19, if_neg h20]
            rfl
  · rw [rv_gsn (by omega), rv_gsn (by omega), rv_gsn (by omega), rv_gsn (by omega), v2 w hw, tq_bi0 hw]
    rfl
theorem tq_kd2 {S : rs_St} (K : rs_St → Int32 → Option rs_St) : ∀ (d i fu : Nat) (S1 : rs_St), i + d = 51 → d < fu → (∀ k j, ¬ (k = 92 ∧ j < 51) → rs_gi S1 k j = rs_gi S k j) → (∀ j, j < i → rs_gi S1 92 j = rs_gi S 95 j) → ∃ S2, xf_X5_keepDraft_l2 K fu S1 (nI i) = K S2 (nI 51) ∧ (∀ k j, ¬ (k = 92 ∧ j < 51) → rs_gi S2 k j = rs_gi S k j) ∧ (∀ j, j < 51 → rs_gi S2 92 j = rs_gi S 95 j) := by
  intro d
  induction d with
  | zero =>
    intro i fu S1 hi hf h1 h2
    obtain ⟨f, rfl⟩ : ∃ f, fu = f + 1 := ⟨fu - 1, by omega⟩
    obtain rfl : i = 51 := by omega
    refine ⟨S1, ?_, h1, h2⟩
    rw [xf_X5_keepDraft_l2, rv_51, rv_le (by omega) (by omega), if_pos (by omega)]
  | succ d ih =>
    intro i fu S1 hi hf h1 h2
    obtain ⟨f, rfl⟩ : ∃ f, fu = f + 1 := ⟨fu - 1, by omega⟩
    rw [xf_X5_keepDraft_l2, rv_51, rv_le (by omega) (by omega), if_neg (by omega), rv_ckn (by omega) (by omega), rv_ckn (by omega) (by omega), nI_clamp (by omega), rv_lts, rv_lts, nI_1]
    refine ih (i + 1) f _ (by omega) (by omega) (fun k j hk => (rv_gsn (by omega)).trans (h1 k j hk)) (fun j hj => ?_)
    by_cases e : j = i
    · rw [e, rv_gss]
      exact h1 _ _ (by omega)
    · rw [rv_gsn (by omega)]
      exact h2 j (by omega)
theorem tq_keepD (S : rs_St) : ∃ S2, xf_X5_keepDraft S = some S2 ∧ (∀ k j, ¬ (k = 92 ∧ j < 51) → k ≠ 94 → rs_gi S2 k j = rs_gi S k j) ∧ (∀ j, j < 51 → rs_gi S2 92 j = rs_gi S 95 j) ∧ ∀ j, j < 2 → rs_gi S2 94 j = 0 := by
  obtain ⟨S1, e1, g1, v1⟩ := tq_kd2 (S := S) (fun (S8 : rs_St) (x9 : Int32) => rs_lt (rs_si S8 94 0 (vp_nar .boolean 0)) (fun S10 => rs_lt (rs_si S10 94 1 (vp_nar .boolean 0)) (fun S11 => some S11))) 51 0 rs_fu S (by omega) (by unfold rs_fu; omega) (fun _ _ _ => rfl) (fun j hj => by omega)
  refine ⟨_, e1, fun k j h1 h2 => (rv_gsn (by omega)).trans ((rv_gsn (by omega)).trans (g1 k j h1)), fun j hj => (rv_gsn (by omega)).trans ((rv_gsn (by omega)).trans (v1 j hj)), fun j hj => ?_⟩
  rcases (show j = 0 ∨ j = 1 by omega) with rfl | rfl
  · rw [rv_gsn (by omega), rv_gss]
    rfl
  · rw [rv_gss]
    rfl
/-! text -/
theorem tq_text_r {T : Nat → Nat} {n : Nat} {S : rs_St} (c : tq_rT T n S) : ∃ r S2, xf_X5_text S = some (r, S2) ∧ rs_gi S2 91 6 = 0 ∧ (∀ k j, ¬ (k = 91 ∧ 6 ≤ j ∧ j ≤ 12) → ¬ (k = 92 ∧ j < 51) → k ≠ 94 → k ≠ 95 → k ≠ 96 → rs_gi S2 k j = rs_gi S k j) ∧ (∀ e, tq_all T n = .inl e → r = -10 - nI e.2 ∧ rs_gi S2 91 11 = nI e.1 ∧ ∀ k j, k = 92 ∨ k = 94 → rs_gi S2 k j = rs_gi S k j) ∧ (∀ y, tq_all T n = .inr y → r = nI y.1 ∧ rs_gi S2 91 11 = 0 ∧ (∀ j, j < 51 → rs_gi S2 92 j = nI (y.2 j)) ∧ ∀ j, j < 2 → rs_gi S2 94 j = 0) := by
  have hn := c.1
  obtain ⟨S0, hS0⟩ : ∃ S0, S0 = rs_si (rs_si S 91 11 0) 91 7 0 := ⟨_, rfl⟩
  have g0 : ∀ k j, ¬ (k = 91 ∧ (j = 7 ∨ j = 11)) → rs_gi S0 k j = rs_gi S k j := fun k j h => by rw [hS0, rv_gsn (by omega), rv_gsn (by omega)]
  have a11 : rs_gi S0 91 11 = 0 := by rw [hS0, rv_gsn (by omega), rv_gss]
  have a7 : rs_gi S0 91 7 = nI 0 := by
    rw [hS0, rv_gss]
    rfl
  obtain ⟨S1, e1, g1, D1⟩ := tq_first S0
  have c1 : tq_rT T n S1 := tq_rT_cg ((g1 _ _ (by omega) (by omega)).trans (g0 _ _ (by omega))) (fun i => (g1 _ _ (by omega) (by omega)).trans (g0 _ _ (by omega))) c
  obtain ⟨S2, e2, g2, A2⟩ := tq_reads c1 (Nat.zero_le n) ((g1 _ _ (by omega) (by omega)).trans a7) ((g1 _ _ (by omega) (by omega)).trans a11)
  obtain ⟨S3, x3, e3, F3, i3, o3⟩ := tq_rl20 (S0 := S2) (fun (S14 : rs_St) (x15 : Int32) => rs_lt (rs_si S14 91 6 0) (fun S16 => if (rs_gi S16 91 11) ≤ 0 then rs_b1 (xf_X5_keepDraft S16) (fun S19 => some (x15, S19)) else some (((-10) - (rs_gi S16 91 12)), S16))) 162 0 0 0 rs_fu tq_a0 S2 (by omega) (by unfold rs_fu; omega) (Nat.zero_le _) tq_a0_w (by omega) (tq_rT_f g2 c1) A2 (fun _ _ _ _ _ => rfl) (tq_rD_f g2 D1)
  have fr : ∀ k j, ¬ (k = 91 ∧ 7 ≤ j ∧ j ≤ 12) → k ≠ 95 → k ≠ 96 → rs_gi S3 k j = rs_gi S k j := fun k j h1 h2 h3 => (F3 k j h1 h2 h3).trans ((g2 k j h1).trans ((g1 k j h2 h3).trans (g0 k j (by omega))))
  have e4 : xf_X5_text S = if (rs_gi (rs_si S3 91 6 0) 91 11) ≤ 0 then rs_b1 (xf_X5_keepDraft (rs_si S3 91 6 0)) (fun S19 => some (x3, S19)) else some (((-10) - (rs_gi (rs_si S3 91 6 0) 91 12)), rs_si S3 91 6 0) := by
    unfold xf_X5_text
    rw [rv_lts, rv_lts, ← hS0, e1, rv_b1s, e2, rv_b1s]
    exact e3
  rw [e4]
  unfold tq_all
  rcases p1 : tq_loop T n 162 0 tq_a0 0 0 with e | y
  · have R := tq_rR_cg (S2 := rs_si S3 91 11 (rs_gi S3 91 11)) (fun j => by
      rw [rv_gs]
      by_cases h : j = 11
      · rw [h, if_pos ⟨rfl, rfl⟩]
      · rw [if_neg (by omega)]) (i3 e p1)
    have R3 := i3 e p1
    have k11 : rs_gi (rs_si S3 91 6 0) 91 11 = rs_gi S3 91 11 := rv_gsn (by omega)
    have k12 : rs_gi (rs_si S3 91 6 0) 91 12 = rs_gi S3 91 12 := rv_gsn (by omega)
    rw [k11, if_neg (tq_rRp R3), k12, R3.2.1]
    refine ⟨_, _, rfl, rv_gss _ _ _ _, fun k j h1 h2 h3 h4 h5 => (rv_gsn (by omega)).trans (fr k j (by omega) h4 h5), fun e' h => ?_, fun y h => by cases h⟩
    cases h
    exact ⟨rfl, k11.trans R3.1, fun k j h => (rv_gsn (by omega)).trans (fr k j (by omega) (by omega) (by omega))⟩
  · obtain ⟨rfl, q11, q95, w⟩ := o3 y p1
    have k11 : rs_gi (rs_si S3 91 6 0) 91 11 = 0 := (rv_gsn (by omega)).trans q11
    obtain ⟨S5, e5, g5, v5, z5⟩ := tq_keepD (rs_si S3 91 6 0)
    rw [k11, if_pos tq_00, e5, rv_b1s]
    refine ⟨_, _, rfl, (g5 _ _ (by omega) (by omega)).trans (rv_gss _ _ _ _), fun k j h1 h2 h3 h4 h5 => (g5 k j h2 h3).trans ((rv_gsn (by omega)).trans (fr k j (by omega) h4 h5)), (fun e' h => by cases h), fun y' h => ?_⟩
    cases h
    exact ⟨rfl, (g5 _ _ (by omega) (by omega)).trans k11, fun j hj => (v5 j hj).trans ((rv_gsn (by omega)).trans (q95 j hj)), z5⟩
theorem tq_43 {S : rs_St} (K : rs_St → Int32 → Option (Int32 × rs_St)) (fu : Nat) (hf : 3 < fu) : ∃ S2, xf_X4_text_l43 K fu S 0 = K S2 (nI 2) ∧ (∀ k j, k ≠ 78 → rs_gi S2 k j = rs_gi S k j) ∧ ∀ j, j < 2 → rs_gi S2 78 j = 0 := by
  obtain ⟨f, rfl⟩ : ∃ f, fu = f + 1 + 1 + 1 := ⟨fu - 3, by omega⟩
  have e : xf_X4_text_l43 K (f + 1 + 1 + 1) S (nI 0) = K (rs_si (rs_si S 78 0 (vp_nar .boolean 0)) 78 1 (vp_nar .boolean 0)) (nI 2) := by
    rw [xf_X4_text_l43, rv_2, rv_le (by omega) (by omega), if_neg (by omega), rv_ckn (by omega) (by omega), nI_clamp (by omega), rv_lts, rv_lts, nI_1, xf_X4_text_l43, rv_2, rv_le (by omega) (by omega), if_neg (by omega), rv_ckn (by omega) (by omega), nI_clamp (by omega), rv_lts, rv_lts, nI_1, xf_X4_text_l43, rv_2, rv_le (by omega) (by omega), if_pos (by omega)]
  refine ⟨_, e, fun k j h => (rv_gsn (by omega)).trans (rv_gsn (by omega)), fun j hj => ?_⟩
  rcases (show j = 0 ∨ j = 1 by omega) with rfl | rfl
  · rw [rv_gsn (by omega), rv_gss]
    rfl
  · rw [rv_gss]
    rfl
theorem tq_dw2 {a : Nat → Nat} (w : tq_dw a) : rv_wf2 a := by
  have h21 := w.2 21 (by omega)
  have h22 := w.2 22 (by omega)
  have h23 := w.2 23 (by omega)
  have h32 := w.2 32 (by omega)
  exact ⟨w.1, by omega, by omega, by omega, by omega, by omega, fun i hi => by omega⟩
theorem tq_text_c {T : Nat → Nat} {n : Nat} {S : rs_St} (c : tq_cT T n S) (hz0 : ∀ l, l < 4 → rs_gi S (0 + 1 + 6 + 3 * l + 2) 0 = 0) (hz : ∀ l, l < 4 → rs_gi S (19 + 1 + 6 + 3 * l + 2) 0 = 0) : ∃ r S1, xf_X4_text S = some (r, S1) ∧ rs_gi S1 80 1 = 0 ∧ (∀ k j, ¬ (k = 80 ∧ 1 ≤ j ∧ j ≤ 6) → k ≠ 78 → 38 ≤ k → rs_gi S1 k j = rs_gi S k j) ∧ (∀ l, l < 4 → rs_gi S1 (0 + 1 + 6 + 3 * l + 2) 0 = 0) ∧ (∀ l, l < 4 → rs_gi S1 (19 + 1 + 6 + 3 * l + 2) 0 = 0) ∧ (∀ e, tq_all T n = .inl e → r = -10 - nI e.2 ∧ rs_gi S1 80 6 = nI e.1 ∧ ∀ k j, k < 19 ∨ k = 78 → rs_gi S1 k j = rs_gi S k j) ∧ (∀ y, tq_all T n = .inr y → r = nI y.1 ∧ rs_gi S1 80 6 = 0 ∧ rv_fsc S1 0 y.2 ∧ tq_dw y.2 ∧ ∀ j, j < 2 → rs_gi S1 78 j = 0) := by
  obtain ⟨r, S2, e2, f2, z2, i2, o2⟩ := tq_into c hz
  have g4 : ∀ k j, ¬ (k = 80 ∧ j = 1) → rs_gi (rs_si S2 80 1 0) k j = rs_gi S2 k j := fun k j h => rv_gsn (by omega)
  have v4 : rs_gi (rs_si S2 80 1 0) 80 1 = 0 := rv_gss _ _ _ _
  unfold xf_X4_text
  rw [e2, rv_b2s, rv_lts]
  generalize rs_si S2 80 1 0 = S4 at *
  rcases p1 : tq_all T n with e | y
  · obtain ⟨R, rfl⟩ := i2 e p1
    rw [g4 80 6 (by omega), if_neg (tq_cRn R)]
    refine ⟨_, S4, rfl, v4, fun k j h1 h2 h3 => (g4 k j (by omega)).trans (f2 k j (by omega) (by omega)), fun l hl => (g4 _ _ (by omega)).trans ((f2 _ _ (by omega) (by omega)).trans (hz0 l hl)), fun l hl => (g4 _ _ (by omega)).trans (z2 l hl), fun e' h => ?_, fun y h => by cases h⟩
    cases h
    exact ⟨rfl, (g4 _ _ (by omega)).trans R.1, fun k j h => (g4 _ _ (by omega)).trans (f2 k j (by omega) (by omega))⟩
  · obtain ⟨rfl, q6, q7, w⟩ := o2 y p1
    have q6' : rs_gi S4 80 6 = 0 := (g4 _ _ (by omega)).trans q6
    obtain ⟨S5, e5, s5, g5, -, z5⟩ := rv_copy (S := S4) (A := 19) (B := 0) (tq_dw2 w) (by omega) (rv_fsc_cg w.1.1 (fun k j h1 h2 => g4 k j (by omega)) q7)
    obtain ⟨S6, e6, g6, z6⟩ := tq_43 (S := S5) (fun (S14 : rs_St) (x15 : Int32) => some (nI y.1, S14)) rs_fu (by unfold rs_fu; omega)
    rw [q6', if_pos rfl, e5, rv_b1s]
    refine ⟨_, S6, e6, (g6 _ _ (by omega)).trans ((g5 _ _ (by omega)).trans v4), fun k j h1 h2 h3 => (g6 k j h2).trans ((g5 k j (by omega)).trans ((g4 k j (by omega)).trans (f2 k j (by omega) (by omega)))), fun l hl => (g6 _ _ (by omega)).trans (z5 (fun l hl => (g4 _ _ (by omega)).trans ((f2 _ _ (by omega) (by omega)).trans (hz0 l hl))) l hl), fun l hl => (g6 _ _ (by omega)).trans ((g5 _ _ (by omega)).trans ((g4 _ _ (by omega)).trans (z2 l hl))), (fun e' h => by cases h), fun y' h => ?_⟩
    cases h
    exact ⟨rfl, (g6 _ _ (by omega)).trans ((g5 _ _ (by omega)).trans q6'), rv_fsc_cg w.1.1 (fun k j h1 h2 => g6 k j (by omega)) s5, w, z6⟩
theorem rv_text : pt_text rv_Inv := by
  intro S hI
  obtain ⟨⟨a, hn⟩, h1, ⟨n, hn160, t1, t2, t3⟩, h3, h4, h5, h6⟩ := id hI
  obtain ⟨T, hT⟩ : ∃ T : Nat → Nat, T = fun i => (rs_gi S 97 i).toNatClampNeg := ⟨_, rfl⟩
  have hTi : ∀ i, i < n → T i < 128 ∧ rs_gi S 97 i = nI (T i) := fun i hi => by
    obtain ⟨-, b, b1, b2⟩ := t3 i hi
    rw [hT]
    show (rs_gi S 97 i).toNatClampNeg < 128 ∧ rs_gi S 97 i = nI (rs_gi S 97 i).toNatClampNeg
    rw [b2, nI_clamp (by omega)]
    exact ⟨b1, rfl⟩
  have cC : tq_cT T n S := ⟨hn160, fun i hi => (hTi i hi).1, t1, fun i hi => (t3 i hi).1.trans (hTi i hi).2⟩
  obtain ⟨r, S1, e1, z1, f1, zn, zd, i1, o1⟩ := tq_text_c cC (fun l hl => rv_zn h6 hl) (fun l hl => rv_zd h6 hl)
  have cR : tq_rT T n S1 := ⟨hn160, fun i hi => (hTi i hi).1, (f1 _ _ (by omega) (by omega) (by omega)).trans t2, fun i hi => (f1 _ _ (by omega) (by omega) (by omega)).trans (hTi i hi).2⟩
  obtain ⟨r2, S2, e2, z2, f2, i2, o2⟩ := tq_text_r cR
  have tp2 : rv_tp S2 := ⟨0, by omega, (f2 _ _ (by omega) (by omega) (by omega) (by omega) (by omega)).trans z1, z2, fun i hi => by omega⟩
  have k4 : rs_gi S2 76 7 = rs_gi S2 91 32 := by
    rw [f2 _ _ (by omega) (by omega) (by omega) (by omega) (by omega), f2 _ _ (by omega) (by omega) (by omega) (by omega) (by omega), f1 _ _ (by omega) (by omega) (by omega), f1 _ _ (by omega) (by omega) (by omega)]
    exact h4
  have k5 : ∀ k, k < 4 → rv_sht S2 k := fun k hk => rv_sht_cg (fun k2 j z => (f2 _ _ (by omega) (by omega) (by omega) (by omega) (by omega)).trans (f1 _ _ (by omega) (by omega) (by omega))) (h5 k hk)
  have k6 : rv_z S2 := fun sc l q1 q2 => by
    rw [f2 _ _ (by omega) (by omega) (by omega) (by omega) (by omega)]
    rcases (show sc = 0 ∨ sc = 1 ∨ 2 ≤ sc by omega) with rfl | rfl | h
    · rw [show 19 * 0 + 9 + 3 * l = 0 + 1 + 6 + 3 * l + 2 by omega]
      exact zn l q2
    · rw [show 19 * 1 + 9 + 3 * l = 19 + 1 + 6 + 3 * l + 2 by omega]
      exact zd l q2
    · rw [f1 _ _ (by omega) (by omega) (by omega)]
      exact h6 sc l q1 q2
  rcases p1 : tq_all T n with e | y
  · obtain ⟨rfl, u6, ug⟩ := i1 e p1
    obtain ⟨rfl, v11, vg⟩ := i2 e p1
    refine ⟨_, S1, S2, e1, e2, ⟨a, rv_now_cg (fun k j z => ?_) hn⟩, fun k hk => ?_, tp2, ?_, k4, k5, k6⟩
    · rcases z with z | z
      · exact (f2 _ _ (by omega) (by omega) (by omega) (by omega) (by omega)).trans (ug k j (by omega))
      · exact (vg k j (by omega)).trans (f1 _ _ (by omega) (by omega) (by omega))
    · refine rv_img_cg (fun k2 j z => ?_) (h1 k hk)
      by_cases q : k2 = 92 ∨ k2 = 94
      · exact (vg k2 j q).trans (f1 _ _ (by omega) (by omega) (by omega))
      · refine (f2 _ _ (by omega) (by omega) (by omega) (by omega) (by omega)).trans ?_
        by_cases q2 : k2 = 78
        · exact ug k2 j (by omega)
        · exact f1 _ _ (by omega) (by omega) (by omega)
    · rw [f2 _ _ (by omega) (by omega) (by omega) (by omega) (by omega), u6, v11]
  · obtain ⟨rfl, u6, us, w, u78⟩ := o1 y p1
    obtain ⟨rfl, v11, v92, v94⟩ := o2 y p1
    refine ⟨_, S1, S2, e1, e2, ⟨y.2, tq_dw2 w, v92, rv_fsc_cg w.1.1 (fun k j h1 h2 => f2 _ _ (by omega) (by omega) (by omega) (by omega) (by omega)) us⟩, fun k hk => ?_, tp2, ?_, k4, k5, k6⟩
    · have e78 : rs_gi S2 78 k = 0 := (f2 _ _ (by omega) (by omega) (by omega) (by omega) (by omega)).trans (u78 k hk)
      exact ⟨e78.trans (v94 k hk).symm, Or.inl e78⟩
    · rw [f2 _ _ (by omega) (by omega) (by omega) (by omega) (by omega), u6, v11]
