/-! lay -/
theorem rv_neg1 {n : Nat} (h : n < 2 ^ 31) : ¬ nI n = -1 := rv_ne h (by decide)
theorem rv_lay : pt_lay rv_Inv := by
  intro S a1 a2 a3 hI
  obtain ⟨⟨a, hn⟩, h1, h2, h3, h4, h5, h6⟩ := id hI
  unfold xf_X4_lay xf_X5_lay
  rw [rv_out, rv_b1s, rv_o0]
  by_cases hx : (0 : Int32) ≤ a1 ∧ a1 ≤ 3
  · rw [if_pos hx]
    have r0 : ∀ S : rs_St, xf_X5_isSheet S a1 0 = some 1 := fun S => by
      rw [rv_isSheet]
      exact congrArg some (if_pos ⟨hx, by decide⟩)
    obtain ⟨i, -, hi, rfl⟩ := rv_ins (lo := 0) (hi := 3) (by omega) hx (by omega)
    rw [rv_ckn (by omega) (by omega), nI_clamp (by omega)]
    simp (disch := omega) only [rv_ckm]
    rcases h5 i (by omega) with ⟨q1, q2⟩ | ⟨ln, z, b1, b2, q1, q2, q3, q4, q5⟩
    · refine ⟨-11, S, S, ?_, ?_, hI⟩
      · unfold xf_X2_faultAt
        rw [if_pos q1, rv_b1s, if_neg (by decide)]
        rfl
      · rw [r0, rv_b1s, if_neg (by decide), if_pos q2]
    · have fa : xf_X2_faultAt S (83 + 2 * i) a2 = some (if a2 < 0 then 2 else if a2 < nI z then 0 else 2) := by
        unfold xf_X2_faultAt
        rw [q1, if_neg (rv_neg1 (by omega)), q3]
        by_cases y1 : a2 < 0
        · rw [if_pos y1, if_pos y1]
        · rw [if_neg y1, if_neg y1]
          by_cases y2 : a2 < nI z
          · rw [if_pos y2, if_pos y2]
          · rw [if_neg y2, if_neg y2]
      have fi : ∀ S1 : rs_St, rs_gi S1 103 i = nI z → xf_X5_in S1 a2.toInt64 0 ((rs_gi S1 103 i - 1).toInt64) = some (if ¬ a2 < 0 ∧ a2 < nI z then 1 else 0) := fun S1 e1 => by
        rw [e1, show xf_X5_in S1 a2.toInt64 0 (nI z - 1).toInt64 = _ from rv_in _ a2 0 (nI z - 1)]
        refine congrArg some ?_
        by_cases y1 : a2 < 0
        · rw [if_neg (fun z => Int32.not_le.mpr y1 z.1), if_neg (fun z => z.1 y1)]
        · obtain ⟨m, hm, rfl⟩ := nI_of y1
          by_cases y0 : z = 0
          · subst y0
            rw [if_neg (fun q => y1 (Int32.lt_of_le_of_lt q.2 (by decide))), if_neg (fun q => y1 q.2)]
          · rw [rv_1, pk_sub (by omega)]
            by_cases y2 : m < z
            · rw [if_pos ⟨Int32.not_lt.mp y1, (nI_leI (by omega) (by omega)).mpr (by omega)⟩, if_pos ⟨y1, (nI_ltI (by omega) (by omega)).mpr y2⟩]
            · rw [if_neg (fun q => by have := (nI_leI (by omega) (by omega)).mp q.2; omega), if_neg (fun q => y2 ((nI_ltI (by omega) (by omega)).mp q.2))]
      have hl4 : ∀ S1 : rs_St, rs_gi S1 102 i = nI ln → ¬ rs_gi S1 102 i = -4 := fun S1 e => by
        rw [e]
        exact rv_neg4 (by omega)
      rw [fa, rv_b1s]
      by_cases y1 : a2 < 0
      · rw [if_pos y1]
        refine ⟨-12, S, S, rfl, ?_, hI⟩
        rw [r0, rv_b1s, if_neg (by decide), if_neg (hl4 S q2), fi S q4, rv_b1s, rv_i0, if_neg (fun q => q.1 y1)]
      · rw [if_neg y1]
        by_cases y2 : a2 < nI z
        · rw [if_pos y2, if_pos rfl]
          unfold xf_X2_store
          rw [fa, rv_b1s, if_neg y1, if_pos y2, if_pos rfl, q1]
          obtain ⟨m, hm, rfl⟩ := nI_of y1
          have hmz := (nI_ltI (by omega) (by omega)).mp y2
          rw [rv_ckn (by omega) (by omega), rv_ckn (by omega) (by omega), rv_ckn (by omega) (by omega), nI_clamp (by omega)]
          simp only [rs_lt]
          have fin : ∀ v : Int32, rv_Inv (rs_si (rs_si S (83 + 2 * i + 1) m v) 104 (40 * i + m) v) := fun v => by
            have hg : ∀ k j, ¬ (k = 83 + 2 * i + 1 ∧ j = m) → ¬ (k = 104 ∧ j = 40 * i + m) → rs_gi (rs_si (rs_si S (83 + 2 * i + 1) m v) 104 (40 * i + m) v) k j = rs_gi S k j := fun k j p1 p2 => by rw [rv_gsn p2, rv_gsn p1]
            refine ⟨⟨a, rv_now_cg (fun k j z => hg k j (by omega) (by omega)) hn⟩, fun k hk => rv_img_cg (fun k2 j z => hg k2 j (by omega) (by omega)) (h1 k hk), rv_tp_cg (fun k j z => hg k j (by omega) (by omega)) h2, ?_, ?_, fun k hk => ?_, fun sc l q1 q2 => ?_⟩
            · rw [hg _ _ (by omega) (by omega), hg _ _ (by omega) (by omega)]
              exact h3
            · rw [hg _ _ (by omega) (by omega), hg _ _ (by omega) (by omega)]
              exact h4
            · by_cases q : k = i
              · rw [q]
                refine Or.inr ⟨ln, z, b1, b2, ?_, ?_, ?_, ?_, fun x hx => ?_⟩
                · rw [hg _ _ (by omega) (by omega)]
                  exact q1
                · rw [hg _ _ (by omega) (by omega)]
                  exact q2
                · rw [hg _ _ (by omega) (by omega)]
                  exact q3
                · rw [hg _ _ (by omega) (by omega)]
                  exact q4
                · by_cases p : x = m
                  · rw [p, rv_gsn (by omega), rv_gss, rv_gss]
                  · rw [hg _ _ (by omega) (by omega), hg _ _ (by omega) (by omega)]
                    exact q5 x hx
              · exact rv_sht_cg (fun k2 j z => hg k2 j (by omega) (by omega)) (h5 k hk)
            · rw [hg _ _ (by omega) (by omega)]
              exact h6 _ _ q1 q2
          have eR : ∀ v : Int32, rs_jn (fun x11 : Int32 => if 40 * nI i + nI m < 0 ∨ 160 ≤ (40 * nI i + nI m).toNatClampNeg then none else some ((1 : Int32), rs_si (rs_si S (83 + 2 * i + 1) m v) 104 (40 * nI i + nI m).toNatClampNeg x11)) (fun J => J v) = some (1, rs_si (rs_si S (83 + 2 * i + 1) m v) 104 (40 * i + m) v) := fun v => by
            simp only [rs_jn]
            rw [rv_40, pk_mul, nI_add, rv_ckn (by omega) (by omega), nI_clamp (by omega)]
          have e102 : ∀ v, rs_gi (rs_si S (83 + 2 * i + 1) m v) 102 i = nI ln := fun v => by rw [rv_gsn (by omega)]; exact q2
          have e103 : ∀ v, rs_gi (rs_si S (83 + 2 * i + 1) m v) 103 i = nI z := fun v => by rw [rv_gsn (by omega)]; exact q4
          rcases (show ln = 0 ∨ ln = 1 ∨ ln = 2 by omega) with rfl | rfl | rfl
          · refine ⟨1, rs_si S (83 + 2 * i + 1) m (a3.toInt8.toInt32), _, rfl, ?_, fin (a3.toInt8.toInt32)⟩
            rw [r0, rv_b1s, if_neg (by decide), if_neg (hl4 _ (e102 _)), fi _ (e103 _), rv_b1s, rv_i0, if_pos ⟨y1, y2⟩, e102]
            exact eR _
          · refine ⟨1, rs_si S (83 + 2 * i + 1) m (a3.toInt16.toInt32), _, rfl, ?_, fin (a3.toInt16.toInt32)⟩
            rw [r0, rv_b1s, if_neg (by decide), if_neg (hl4 _ (e102 _)), fi _ (e103 _), rv_b1s, rv_i0, if_pos ⟨y1, y2⟩, e102]
            exact eR _
          · refine ⟨1, rs_si S (83 + 2 * i + 1) m a3, _, rfl, ?_, fin a3⟩
            rw [r0, rv_b1s, if_neg (by decide), if_neg (hl4 _ (e102 _)), fi _ (e103 _), rv_b1s, rv_i0, if_pos ⟨y1, y2⟩, e102]
            exact eR _
        · rw [if_neg y2]
          refine ⟨-12, S, S, rfl, ?_, hI⟩
          rw [r0, rv_b1s, if_neg (by decide), if_neg (hl4 S q2), fi S q4, rv_b1s, rv_i0, if_neg (fun q => y2 q.2)]
  · rw [if_neg hx]
    refine ⟨_, _, _, rfl, ?_, hI⟩
    rw [rv_isSheet, if_neg (fun z => hx z.1), rv_b1s, if_pos rfl]
