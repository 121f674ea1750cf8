/-! all calls; the start -/
theorem rv_all : pt_all rv_Inv := ⟨rv_feed, rv_end, rv_text, rv_fault, rv_rule, rv_lamp, rv_row, rv_alter, rv_tell, rv_put, rv_cut, rv_rest, rv_shoot, rv_runs, rv_ahead, rv_when, rv_again, rv_best, rv_kind, rv_phase, rv_outs, rv_luck, rv_mean, rv_see, rv_forget, rv_kinds, rv_phases, rv_ask, rv_drift, rv_keep, rv_back, rv_sheet, rv_lay, rv_read, rv_torn, rv_count⟩
theorem rv_s0z : ∀ k, k < 106 → rs_z k = 0 → ∀ j, rs_gi rs_S0 k j = 0 := fun k _ h j => by
  show (if rs_z k = 1 then rs_c0 else if rs_z k = 2 then rs_c1 else if rs_z k = 3 then (fun j => if j = 1 then -1 else 0) else if rs_z k = 4 then rs_c2 else fun _ => 0) j = 0
  rw [h, if_neg (by decide), if_neg (by decide), if_neg (by decide), if_neg (by decide)]
theorem rv_s0r : ∀ j, j < 4 → rs_gi rs_S0 2 j = nI (tq_a0 (17 + j)) := by decide +kernel
theorem rv_s0h : ∀ k, k < 4 → rs_gi rs_S0 (83 + 2 * k) 1 = -1 ∧ rs_gi rs_S0 102 k = -4 := by decide +kernel
theorem rv_s0s : ∀ sc, sc < 4 → ∀ l, l < 4 → rs_z (19 * sc + 9 + 3 * l) = 0 := by decide +kernel
theorem rv_start : ∃ Sa Sb, xf_X5_firstDraft rs_S0 = some Sa ∧ xf_X5_keepDraft Sa = some Sb ∧ rv_Inv Sb := by
  obtain ⟨Sa, ea, ga, Da⟩ := tq_first rs_S0
  obtain ⟨Sb, eb, gb, vb, zb⟩ := tq_keepD Sa
  have g : ∀ k j, ¬ (k = 92 ∧ j < 51) → k ≠ 94 → k ≠ 95 → k ≠ 96 → rs_gi Sb k j = rs_gi rs_S0 k j := fun k j h1 h2 h3 h4 => (gb k j h1 h2).trans (ga k j h3 h4)
  have z : ∀ k j, k < 106 → rs_z k = 0 → ¬ (k = 92 ∧ j < 51) → k ≠ 94 → k ≠ 95 → k ≠ 96 → rs_gi Sb k j = 0 := fun k j h0 h h1 h2 h3 h4 => (g k j h1 h2 h3 h4).trans (rv_s0z k h0 h j)
  refine ⟨Sa, Sb, ea, eb, ⟨tq_a0, tq_dw2 tq_a0_w, fun j hj => (vb j hj).trans (Da.1 j hj), ⟨?_, ?_, fun j hj => ?_, fun l hl => absurd hl (by show ¬ l < 0; omega)⟩, ?_, ?_, fun j hj => absurd hj (by show ¬ j < 0; omega), ?_, fun i hi => absurd hi (by show ¬ i < 0; omega)⟩, fun k hk => ?_, ⟨0, by omega, ?_, ?_, fun i hi => by omega⟩, ?_, ?_, fun k hk => Or.inl ?_, fun sc l h1 h2 => ?_⟩
  · exact z 0 1 (by omega) rfl (by omega) (by omega) (by omega) (by omega)
  · exact z 0 3 (by omega) rfl (by omega) (by omega) (by omega) (by omega)
  · exact (g 2 j (by omega) (by omega) (by omega) (by omega)).trans (rv_s0r j hj)
  · exact z 0 4 (by omega) rfl (by omega) (by omega) (by omega) (by omega)
  · exact z 0 6 (by omega) rfl (by omega) (by omega) (by omega) (by omega)
  · exact z 0 10 (by omega) rfl (by omega) (by omega) (by omega) (by omega)
  · have e78 : rs_gi Sb 78 k = 0 := z 78 k (by omega) rfl (by omega) (by omega) (by omega) (by omega)
    exact ⟨e78.trans (zb k hk).symm, Or.inl e78⟩
  · exact z 80 1 (by omega) rfl (by omega) (by omega) (by omega) (by omega)
  · exact z 91 6 (by omega) rfl (by omega) (by omega) (by omega) (by omega)
  · exact (z 80 6 (by omega) rfl (by omega) (by omega) (by omega) (by omega)).trans (z 91 11 (by omega) rfl (by omega) (by omega) (by omega) (by omega)).symm
  · exact (z 76 7 (by omega) rfl (by omega) (by omega) (by omega) (by omega)).trans (z 91 32 (by omega) rfl (by omega) (by omega) (by omega) (by omega)).symm
  · obtain ⟨a1, a2⟩ := rv_s0h k hk
    exact ⟨(g _ _ (by omega) (by omega) (by omega) (by omega)).trans a1, (g _ _ (by omega) (by omega) (by omega) (by omega)).trans a2⟩
  · exact z _ _ (by omega) (rv_s0s sc h1 l h2) (by omega) (by omega) (by omega) (by omega)
