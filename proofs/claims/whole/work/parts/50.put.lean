/-! put, see, feed, rule, lamp, count -/
def rv_pt (a : Nat → Nat) (kd li pe ph : Nat) : Nat → Nat := rv_up (rv_up (rv_up (rv_up (rv_up a (4 * a 16) kd) (4 * a 16 + 1) li) (4 * a 16 + 2) pe) (4 * a 16 + 3) ph) 16 (a 16 + 1)
theorem rv_pt_hi {a : Nat → Nat} {kd li pe ph j : Nat} (hc : a 16 < 4) (hj : 17 ≤ j) : rv_pt a kd li pe ph j = a j := by
  unfold rv_pt
  rw [rv_up_n (by omega), rv_up_n (by omega), rv_up_n (by omega), rv_up_n (by omega), rv_up_n (by omega)]
theorem rv_pt_lo {a : Nat → Nat} {kd li pe ph j : Nat} (hj : j < 4 * a 16) (h6 : j ≠ 16) : rv_pt a kd li pe ph j = a j := by
  unfold rv_pt
  rw [rv_up_n (by omega), rv_up_n (by omega), rv_up_n (by omega), rv_up_n (by omega), rv_up_n (by omega)]
theorem rv_pt_16 {a : Nat → Nat} {kd li pe ph : Nat} : rv_pt a kd li pe ph 16 = a 16 + 1 := rv_up_s
theorem rv_pt_at {a : Nat → Nat} {kd li pe ph : Nat} (hc : a 16 < 4) : rv_pt a kd li pe ph (4 * a 16) = kd ∧ rv_pt a kd li pe ph (4 * a 16 + 1) = li ∧ rv_pt a kd li pe ph (4 * a 16 + 2) = pe ∧ rv_pt a kd li pe ph (4 * a 16 + 3) = ph := by
  unfold rv_pt
  refine ⟨?_, ?_, ?_, ?_⟩
  · rw [rv_up_n (by omega), rv_up_n (by omega), rv_up_n (by omega), rv_up_n (by omega), rv_up_s]
  · rw [rv_up_n (by omega), rv_up_n (by omega), rv_up_n (by omega), rv_up_s]
  · rw [rv_up_n (by omega), rv_up_n (by omega), rv_up_s]
  · rw [rv_up_n (by omega), rv_up_s]
theorem rv_pt_wf {a : Nat → Nat} {kd li pe ph : Nat} (w : rv_wf a) (hc : a 16 < 4) (b0 : kd ≤ 3) (b1 : 1 ≤ li ∧ li ≤ 9) (b2 : 1 ≤ pe ∧ pe ≤ 12) (b3 : ph ≤ 11) : rv_wf (rv_pt a kd li pe ph) := by
  obtain ⟨w1, w2, w3, w4, w5, w6⟩ := id w
  obtain ⟨e0, e1, e2, e3⟩ := rv_pt_at (kd := kd) (li := li) (pe := pe) (ph := ph) hc
  refine ⟨by rw [rv_pt_16]; omega, fun m hm => ?_, by rw [rv_pt_hi hc (by omega)]; exact w3, by rw [rv_pt_hi hc (by omega)]; exact w4, by rw [rv_pt_hi hc (by omega)]; exact w5, by rw [rv_pt_hi hc (by omega)]; exact w6⟩
  rw [rv_pt_16] at hm
  by_cases q : m = a 16
  · rw [q, e0, e1, e2, e3]
    exact ⟨b0, b1.1, b1.2, b2.1, b2.2, b3⟩
  · rw [rv_pt_lo (by omega) (by omega), rv_pt_lo (by omega) (by omega), rv_pt_lo (by omega) (by omega), rv_pt_lo (by omega) (by omega)]
    exact w2 m (by omega)
theorem rv_addLamp {S : rs_St} {B : Nat} {a : Nat → Nat} (h : rv_sc S B a rv_uu) (hc : a 16 < 4) {kd li pe ph : Nat} (b0 : kd ≤ 3) (b1 : 1 ≤ li ∧ li ≤ 9) (b2 : 1 ≤ pe ∧ pe ≤ 12) (b3 : ph ≤ 11) (hz : rs_gi S (B + 1 + 6 + 3 * a 16 + 2) 0 = 0) : ∃ S2, xf_X1_addLamp S B (nI kd) (nI li) (nI pe) (nI ph) = some (1, S2) ∧ rv_sc S2 B (rv_pt a kd li pe ph) rv_uu ∧ (∀ k j, ¬ (k = B ∧ j = 1) → k ≠ B + 1 + 6 + 3 * a 16 + 1 → k ≠ B + 1 + 6 + 3 * a 16 + 2 → rs_gi S2 k j = rs_gi S k j) ∧ S2.2 = S.2 ∧ rs_gi S2 (B + 1 + 6 + 3 * a 16 + 2) 0 = 0 ∧ rs_gi S2 B 1 = nI (a 16 + 1) := by
  obtain ⟨c1, c2, c3, c4⟩ := h
  obtain ⟨S1, e1, f1⟩ := rv_become S (B + 1 + 6 + 3 * a 16) (p := 0) (v := kd) (by omega) (Nat.zero_le _) b0
  obtain ⟨S2, e2, f2⟩ := rv_become S1 (B + 1 + 6 + 3 * a 16) (p := 1) (v := li) (by omega) b1.1 b1.2
  obtain ⟨S3, e3, f3⟩ := rv_become S2 (B + 1 + 6 + 3 * a 16) (p := 2) (v := pe) (by omega) b2.1 b2.2
  obtain ⟨S4, e4, f4⟩ := rv_become S3 (B + 1 + 6 + 3 * a 16) (p := 3) (v := ph) (by omega) (Nat.zero_le _) b3
  have g1 : xf_X0_become S (B + 1 + 6 + 3 * a 16) 0 (nI kd) = some S1 := e1
  have g2 : xf_X0_become S1 (B + 1 + 6 + 3 * a 16) 1 (nI li) = some S2 := e2
  have g3 : xf_X0_become S2 (B + 1 + 6 + 3 * a 16) 2 (nI pe) = some S3 := e3
  have g4 : xf_X0_become S3 (B + 1 + 6 + 3 * a 16) 3 (nI ph) = some S4 := e4
  have hg : ∀ k j, k ≠ B + 1 + 6 + 3 * a 16 + 1 → k ≠ B + 1 + 6 + 3 * a 16 + 2 → rs_gi S4 k j = rs_gi S k j := fun k j q1 q2 => by
    rw [f4.1 _ _ q1 q2, f3.1 _ _ q1 q2, f2.1 _ _ q1 q2, f1.1 _ _ q1 q2]
  have z4 : rs_gi S4 (B + 1 + 6 + 3 * a 16 + 2) 0 = 0 := by rw [f4.2.2.2.1, f3.2.2.2.1, f2.2.2.2.1, f1.2.2.2.1, hz]
  have ec : rs_gi S4 B 1 + 1 = nI (a 16 + 1) := by rw [hg _ _ (by omega) (by omega), c1, nI_1]
  obtain ⟨t0, t1, t2, t3⟩ := rv_pt_at (kd := kd) (li := li) (pe := pe) (ph := ph) hc
  refine ⟨rs_si S4 B 1 (nI (a 16 + 1)), ?_, ⟨?_, ?_, fun j hj => ?_, fun m hm => ?_⟩, fun k j q1 q2 q3 => ?_, ?_, ?_, rv_gss _ _ _ _⟩
  · unfold xf_X1_addLamp
    rw [c1, rv_4, rv_lt (by omega) (by omega), if_pos hc, rv_ckn hc (by omega), nI_clamp (by omega), g1, rv_b1s, g2, rv_b1s, g3, rv_b1s, g4, rv_b1s, rv_lts, ec]
  · rw [rv_gss, rv_pt_16]
  · rw [rv_gsn (by omega), hg _ _ (by omega) (by omega), rv_pt_hi hc (by omega)]
    exact c2
  · rw [rv_gsn (by omega), hg _ _ (by omega) (by omega), rv_pt_hi hc (by omega)]
    exact c3 j hj
  · rw [rv_pt_16] at hm
    by_cases q : m = a 16
    · rw [q]
      refine ⟨fun p hp => ?_, fun s hs => ?_⟩
      · rw [rv_gsn (by omega), f4.2.2.1, f3.2.2.1, f2.2.2.1, f1.2.2.1]
        rcases (show p = 0 ∨ p = 1 ∨ p = 2 ∨ p = 3 by omega) with rfl | rfl | rfl | rfl
        · rw [if_neg (by omega), if_neg (by omega), if_neg (by omega), if_pos rfl]
          exact congrArg nI t0.symm
        · rw [if_neg (by omega), if_neg (by omega), if_pos rfl, t1]
        · rw [if_neg (by omega), if_pos rfl, t2]
        · rw [if_pos rfl, t3]
      · rw [t2] at hs
        rw [rv_gsn (by omega), f4.2.2.2.2.1 rfl, f3.2.2.2.2.2 (by omega) kd li pe ⟨?_, ?_, ?_, b0, b1.2, b2.1, b2.2, ?_⟩ s hs, if_pos (show rv_uu (a 16) = true from rfl)]
        · unfold rv_gf
          rw [t0, t1, t2]
        · rw [f3.2.2.1, f2.2.2.1, f1.2.2.1, if_neg (by omega), if_neg (by omega), if_pos rfl]
        · rw [f3.2.2.1, f2.2.2.1, if_neg (by omega), if_pos rfl]
        · rw [f3.2.2.1, if_pos rfl]
        · rw [f3.2.2.2.1, f2.2.2.2.1, f1.2.2.2.1, hz]
    · refine rv_lm_cg (S := S) (fun k2 j z => ?_) (fun p hp => rv_pt_lo (by omega) (by omega)) rfl (c4 m (by omega))
      rw [rv_gsn (by omega), hg _ _ (by omega) (by omega)]
  · rw [rv_gsn q1, hg _ _ q2 q3]
  · rw [show (rs_si S4 B 1 (nI (a 16 + 1))).2 = S4.2 from rfl, f4.2.1, f3.2.1, f2.2.1, f1.2.1]
  · rw [rv_gsn (by omega)]
    exact z4
theorem rv_zn {S : rs_St} (h : rv_z S) {l : Nat} (hl : l < 4) : rs_gi S (0 + 1 + 6 + 3 * l + 2) 0 = 0 := by
  rw [show 0 + 1 + 6 + 3 * l + 2 = 19 * 0 + 9 + 3 * l by omega]
  exact h 0 l (by omega) hl
theorem rv_zd {S : rs_St} (h : rv_z S) {l : Nat} (hl : l < 4) : rs_gi S (19 + 1 + 6 + 3 * l + 2) 0 = 0 := by
  rw [show 19 + 1 + 6 + 3 * l + 2 = 19 * 1 + 9 + 3 * l by omega]
  exact h 1 l (by omega) hl
theorem rv_a0 (n : Nat) : nI n + 0 = nI n := nI_add n 0
theorem rv_a2 (n : Nat) : nI n + 2 = nI (n + 2) := nI_add n 2
theorem rv_a3 (n : Nat) : nI n + 3 = nI (n + 3) := nI_add n 3
theorem rv_put : pt_put rv_Inv := by
  intro S a1 a2 a3 hI
  obtain ⟨⟨a, w, hm, hf⟩, ho⟩ := id hI
  have hc := w.1.1
  have c1 := hf.1.1
  have hm16 := hm 16 (by omega)
  have i0 : xf_X4_isPart S 0 a1 = _ := rv_ispart S (p := 0) (by omega) a1
  have i1 : xf_X4_isPart S 1 a2 = _ := rv_ispart S (p := 1) (by omega) a2
  have i2 : xf_X4_isPart S 2 a3 = _ := rv_ispart S (p := 2) (by omega) a3
  unfold xf_X4_put xf_X5_put
  rw [i0, rv_b1s, rv_i0]
  by_cases h0 : nI (rv_pl 0) ≤ a1 ∧ a1 ≤ nI (rv_ph 0)
  · rw [if_pos h0, i1, rv_b1s, rv_i0]
    by_cases h1 : nI (rv_pl 1) ≤ a2 ∧ a2 ≤ nI (rv_ph 1)
    · rw [if_pos h1, i2, rv_b1s, rv_i0]
      by_cases h2 : nI (rv_pl 2) ≤ a3 ∧ a3 ≤ nI (rv_ph 2)
      · rw [if_pos h2]
        have r0 : ∀ S : rs_St, xf_X5_in S a1.toInt64 0 3 = some 1 := fun S => by
          rw [show xf_X5_in S a1.toInt64 0 3 = _ from rv_in _ a1 0 3]
          exact congrArg some (if_pos h0)
        have r1 : ∀ S : rs_St, xf_X5_in S a2.toInt64 1 9 = some 1 := fun S => by
          rw [show xf_X5_in S a2.toInt64 1 9 = _ from rv_in _ a2 1 9]
          exact congrArg some (if_pos h1)
        have r2 : ∀ S : rs_St, xf_X5_in S a3.toInt64 1 12 = some 1 := fun S => by
          rw [show xf_X5_in S a3.toInt64 1 12 = _ from rv_in _ a3 1 12]
          exact congrArg some (if_pos h2)
        obtain ⟨kd, -, d0, rfl⟩ := rv_ins (lo := rv_pl 0) (hi := rv_ph 0) (by decide) h0 (by decide)
        obtain ⟨li, e1, d1, rfl⟩ := rv_ins (lo := rv_pl 1) (hi := rv_ph 1) (by decide) h1 (by decide)
        obtain ⟨pe, e2, d2, rfl⟩ := rv_ins (lo := rv_pl 2) (hi := rv_ph 2) (by decide) h2 (by decide)
        rcases Nat.lt_or_ge (a 16) 4 with hc4 | hc4
        · obtain ⟨S2, e, g1, g2, g3, g4, g5⟩ := rv_addLamp hf.1 hc4 (kd := kd) (li := li) (pe := pe) (ph := 0) d0 ⟨e1, d1⟩ ⟨e2, d2⟩ (by omega) (rv_zn ho.2.2.2.2.2 hc4)
          have e' : xf_X1_addLamp S 0 (nI kd) (nI li) (nI pe) 0 = some (1, S2) := e
          rw [e', rv_b2s, if_neg (by decide), g5]
          have n16 : rs_gi S2 92 16 = nI (a 16) := by rw [g2 _ _ (by omega) (by omega) (by omega)]; exact hm16
          refine ⟨_, S2, rs_si (rs_si (rs_si (rs_si (rs_si S2 92 (4 * a 16) (nI kd)) 92 (4 * a 16 + 1) (nI li)) 92 (4 * a 16 + 2) (nI pe)) 92 (4 * a 16 + 3) (nI 0)) 92 16 (nI (a 16 + 1)), rfl, ?_, ?_⟩
          · rw [r0, rv_b1s, if_neg (by decide), r1, rv_b1s, if_neg (by decide), r2, rv_b1s, if_neg (by decide), n16, rv_4, rv_eq (by omega) (by omega), if_neg (by omega), rv_lts, pk_mul, rv_a0, nI_1, rv_a2, rv_a3]
            simp only [rv_lts]
            rw [rv_ckn (by omega) (by omega), rv_ckn (by omega) (by omega), rv_ckn (by omega) (by omega), rv_ckn (by omega) (by omega), nI_clamp (by omega), nI_clamp (by omega), nI_clamp (by omega), nI_clamp (by omega), rv_gss, rv_gsn (by omega), rv_gsn (by omega), rv_gsn (by omega), rv_gsn (by omega), n16, nI_1]
            rfl
          · have hg : ∀ k j, k ≠ 92 → rs_gi (rs_si (rs_si (rs_si (rs_si (rs_si S2 92 (4 * a 16) (nI kd)) 92 (4 * a 16 + 1) (nI li)) 92 (4 * a 16 + 2) (nI pe)) 92 (4 * a 16 + 3) (nI 0)) 92 16 (nI (a 16 + 1))) k j = rs_gi S2 k j := fun k j q => by
              rw [rv_gsn (by omega), rv_gsn (by omega), rv_gsn (by omega), rv_gsn (by omega), rv_gsn (by omega)]
            refine rv_Inv_now (a2 := rv_pt a kd li pe 0) hI (fun k j z => ?_) ⟨?_, fun j hj => ?_, rv_fsc_cg (S := S2) (by rw [rv_pt_16]; omega) (fun k j q1 q2 => hg _ _ (by omega)) ⟨g1, rv_rst_cg (fun j hj => rv_pt_hi hc4 (by omega)) (fun k j z => g2 _ _ (by omega) (by omega) (by omega)) hf.2⟩⟩
            · by_cases q : k = 92
              · rw [rv_gsn (by unfold rv_rel at z; omega), rv_gsn (by unfold rv_rel at z; omega), rv_gsn (by unfold rv_rel at z; omega), rv_gsn (by unfold rv_rel at z; omega), rv_gsn (by unfold rv_rel at z; omega), g2 _ _ (by omega) (by omega) (by omega)]
              · rw [hg k j q]
                by_cases q2 : k = 0 + 1 + 6 + 3 * a 16 + 2 ∧ j = 0
                · rw [q2.1, q2.2, g4]
                  exact (rv_zn ho.2.2.2.2.2 hc4).symm
                · exact g2 k j (by unfold rv_rel at z; omega) (by unfold rv_rel at z; omega) (by unfold rv_rel at z; omega)
            · exact rv_wf2_cg (fun j hj => rv_pt_hi hc4 (by omega)) (rv_pt_wf w.1 hc4 d0 ⟨e1, d1⟩ ⟨e2, d2⟩ (by omega)) w
            · unfold rv_pt
              simp only [rv_gs, rv_upe, true_and]
              rw [g2 _ _ (by omega) (by omega) (by omega), hm j hj]
              repeat' split
              all_goals rfl
        · refine ⟨-3, S, S, ?_, ?_, hI⟩
          · unfold xf_X1_addLamp
            rw [c1, rv_4, rv_lt (by omega) (by omega), if_neg (by omega), rv_b2s, if_pos rfl]
          · rw [r0, rv_b1s, if_neg (by decide), r1, rv_b1s, if_neg (by decide), r2, rv_b1s, if_neg (by decide), hm16, rv_4, rv_eq (by omega) (by omega), if_pos (by omega)]
      · rw [if_neg h2]
        refine ⟨_, _, _, rfl, ?_, hI⟩
        rw [show xf_X5_in S a1.toInt64 0 3 = _ from rv_in _ a1 0 3, rv_b1s, rv_i0, if_pos (show (0 : Int32) ≤ a1 ∧ a1 ≤ 3 from h0), show xf_X5_in S a2.toInt64 1 9 = _ from rv_in _ a2 1 9, rv_b1s, rv_i0, if_pos (show (1 : Int32) ≤ a2 ∧ a2 ≤ 9 from h1), show xf_X5_in S a3.toInt64 1 12 = _ from rv_in _ a3 1 12, rv_b1s, rv_i0, if_neg (show ¬ ((1 : Int32) ≤ a3 ∧ a3 ≤ 12) from h2)]
    · rw [if_neg h1]
      refine ⟨_, _, _, rfl, ?_, hI⟩
      rw [show xf_X5_in S a1.toInt64 0 3 = _ from rv_in _ a1 0 3, rv_b1s, rv_i0, if_pos (show (0 : Int32) ≤ a1 ∧ a1 ≤ 3 from h0), show xf_X5_in S a2.toInt64 1 9 = _ from rv_in _ a2 1 9, rv_b1s, rv_i0, if_neg (show ¬ ((1 : Int32) ≤ a2 ∧ a2 ≤ 9) from h1)]
  · rw [if_neg h0]
    refine ⟨_, _, _, rfl, ?_, hI⟩
    rw [show xf_X5_in S a1.toInt64 0 3 = _ from rv_in _ a1 0 3, rv_b1s, rv_i0, if_neg (show ¬ ((0 : Int32) ≤ a1 ∧ a1 ≤ 3) from h0)]
theorem rv_seeup {a : Nat → Nat} (hc : a 32 < 6) {v1 v2 v3 : Nat} : ∃ b : Nat → Nat, b = rv_up (rv_up (rv_up (rv_up a (33 + 3 * a 32) v1) (34 + 3 * a 32) v2) (35 + 3 * a 32) v3) 32 (a 32 + 1) ∧ (∀ j, j < 32 → b j = a j) ∧ b 32 = a 32 + 1 ∧ b (33 + 3 * a 32) = v1 ∧ b (34 + 3 * a 32) = v2 ∧ b (35 + 3 * a 32) = v3 ∧ ∀ j, 32 < j → j < 33 + 3 * a 32 → b j = a j := by
  refine ⟨_, rfl, fun j hj => ?_, rv_up_s, ?_, ?_, ?_, fun j h1 h2 => ?_⟩
  · rw [rv_up_n (by omega), rv_up_n (by omega), rv_up_n (by omega), rv_up_n (by omega)]
  · rw [rv_up_n (by omega), rv_up_n (by omega), rv_up_n (by omega), rv_up_s]
  · rw [rv_up_n (by omega), rv_up_n (by omega), rv_up_s]
  · rw [rv_up_n (by omega), rv_up_s]
  · rw [rv_up_n (by omega), rv_up_n (by omega), rv_up_n (by omega), rv_up_n (by omega)]
theorem rv_33 : (33 : Int32) = nI 33 := rfl
theorem rv_6 : (6 : Int32) = nI 6 := rfl
theorem rv_see : pt_see rv_Inv := by
  intro S a1 a2 a3 hI
  obtain ⟨⟨a, w, hm, hf⟩, ho⟩ := id hI
  obtain ⟨⟨c1, c2, c3, c4⟩, f2, f3, f4, f5, f6⟩ := id hf
  obtain ⟨w0, x1, x2, x3, x4, x5, x6⟩ := id w
  have hc := w.1.1
  unfold xf_X4_see xf_X5_see
  rw [rv_out, rv_b1s, rv_o0, show xf_X5_isRow = xf_X5_isRow from rfl]
  by_cases h0 : (0 : Int32) ≤ a1 ∧ a1 ≤ 20
  · rw [if_pos h0, rv_out, rv_b1s, rv_o0]
    by_cases h1 : (0 : Int32) ≤ a2 ∧ a2 ≤ 7
    · rw [if_pos h1, rv_out, rv_b1s, rv_o0]
      by_cases h2 : (0 : Int32) ≤ a3 ∧ a3 ≤ 255
      · rw [if_pos h2]
        have r0 : ∀ S : rs_St, xf_X5_in S a1.toInt64 0 20 = some 1 := fun S => by
          rw [show xf_X5_in S a1.toInt64 0 20 = _ from rv_in _ a1 0 20]
          exact congrArg some (if_pos h0)
        have r1 : ∀ S : rs_St, xf_X5_isRow S a2 = some 1 := fun S => by
          rw [rv_isRow]
          exact congrArg some (if_pos h1)
        have r2 : ∀ S : rs_St, xf_X5_in S a3.toInt64 0 255 = some 1 := fun S => by
          rw [show xf_X5_in S a3.toInt64 0 255 = _ from rv_in _ a3 0 255]
          exact congrArg some (if_pos h2)
        obtain ⟨v1, -, d0, rfl⟩ := rv_ins (lo := 0) (hi := 20) (by decide) h0 (by decide)
        obtain ⟨v2, -, d1, rfl⟩ := rv_ins (lo := 0) (hi := 7) (by decide) h1 (by decide)
        obtain ⟨v3, -, d2, rfl⟩ := rv_ins (lo := 0) (hi := 255) (by decide) h2 (by decide)
        unfold xf_X1_addSeen
        rw [f5, rv_6, rv_lt (by omega) (by omega)]
        rcases Nat.lt_or_ge (a 32) 6 with hc6 | hc6
        · obtain ⟨b, hb, b1, b2, b3, b4, b5, b6⟩ := rv_seeup hc6 (v1 := v1) (v2 := v2) (v3 := v3)
          rw [if_pos hc6, rv_ckn hc6 (by omega), nI_clamp (by omega)]
          simp only [rv_lts]
          rw [rv_gsn (by omega), f5, rv_ckn hc6 (by omega), nI_clamp (by omega), rv_gsn (by omega), rv_gsn (by omega), f5, rv_ckn hc6 (by omega), nI_clamp (by omega), rv_gsn (by omega), rv_gsn (by omega), rv_gsn (by omega), f5, nI_1, rv_b2s, if_neg (by decide), rv_gss]
          generalize hS1 : rs_si (rs_si (rs_si (rs_si S (0 + 4) (a 32) (nI v1)) (0 + 5) (a 32) (nI v2)) (0 + 6) (a 32) (nI v3)) 0 10 (nI (a 32 + 1)) = S1
          have hg1 : ∀ k j, ¬ (k = 0 ∧ j = 10) → ¬ (4 ≤ k ∧ k ≤ 6 ∧ j = a 32) → rs_gi S1 k j = rs_gi S k j := fun k j q1 q2 => by
            rw [← hS1, rv_gsn (by omega), rv_gsn (by omega), rv_gsn (by omega), rv_gsn (by omega)]
          have n32 : rs_gi S1 92 32 = nI (a 32) := by rw [hg1 _ _ (by omega) (by omega)]; exact hm 32 (by omega)
          have hgR : ∀ k j, k ≠ 92 → rs_gi (rs_si (rs_si (rs_si (rs_si S1 92 (33 + 3 * a 32) (nI v1)) 92 (34 + 3 * a 32) (nI v2)) 92 (35 + 3 * a 32) (nI v3)) 92 32 (nI (a 32 + 1))) k j = rs_gi S1 k j := fun k j q => by
            rw [rv_gsn (by omega), rv_gsn (by omega), rv_gsn (by omega), rv_gsn (by omega)]
          refine ⟨_, S1, rs_si (rs_si (rs_si (rs_si S1 92 (33 + 3 * a 32) (nI v1)) 92 (34 + 3 * a 32) (nI v2)) 92 (35 + 3 * a 32) (nI v3)) 92 32 (nI (a 32 + 1)), rfl, ?_, ?_⟩
          · rw [r0, rv_b1s, if_neg (by decide), r1, rv_b1s, if_neg (by decide), r2, rv_b1s, if_neg (by decide), n32, rv_eq (by omega) (by omega), if_neg (by omega), rv_3, pk_mul, rv_33, nI_add, nI_1, rv_a2]
            rw [rv_ckn (by omega) (by omega), rv_ckn (by omega) (by omega), rv_ckn (by omega) (by omega), nI_clamp (by omega), nI_clamp (by omega), nI_clamp (by omega), rv_gss, rv_gsn (by omega), rv_gsn (by omega), rv_gsn (by omega), n32, nI_1, show 33 + 3 * a 32 + 1 = 34 + 3 * a 32 by omega, show 33 + 3 * a 32 + 2 = 35 + 3 * a 32 by omega]
          · refine rv_Inv_now (a2 := b) hI (fun k j z => ?_) ⟨⟨rv_wf_cg (fun j hj => b1 j (by omega)) w0, by rw [b1 _ (by omega)]; exact x1, by rw [b1 _ (by omega), b1 _ (by omega)]; exact x2, by rw [b1 _ (by omega)]; exact x3, by rw [b1 _ (by omega), b1 _ (by omega)]; exact x4, by rw [b2]; omega, fun i hi => ?_⟩, fun j hj => ?_, ⟨⟨?_, ?_, fun j hj => ?_, fun l hl => ?_⟩, ?_, ?_, fun j hj => ?_, ?_, fun i hi => ?_⟩⟩
            · by_cases q : k = 92
              · rw [rv_gsn (by unfold rv_rel at z; omega), rv_gsn (by unfold rv_rel at z; omega), rv_gsn (by unfold rv_rel at z; omega), rv_gsn (by unfold rv_rel at z; omega), hg1 _ _ (by omega) (by omega)]
              · rw [hgR k j q, hg1 _ _ (by unfold rv_rel at z; omega) (by unfold rv_rel at z; omega)]
            · rw [b2] at hi
              by_cases q : i = a 32
              · rw [q, b3, b4, b5]
                exact ⟨d0, d1, d2⟩
              · rw [b6 _ (by omega) (by omega), b6 _ (by omega) (by omega), b6 _ (by omega) (by omega)]
                exact x6 i (by omega)
            · rw [hb]
              simp only [rv_gs, rv_upe, true_and]
              rw [hg1 _ _ (by omega) (by omega), hm j hj]
              repeat' split
              all_goals rfl
            · rw [hgR _ _ (by omega), hg1 _ _ (by omega) (by omega), b1 _ (by omega)]
              exact c1
            · rw [hgR _ _ (by omega), hg1 _ _ (by omega) (by omega), b1 _ (by omega)]
              exact c2
            · rw [hgR _ _ (by omega), hg1 _ _ (by omega) (by omega), b1 _ (by omega)]
              exact c3 j hj
            · rw [b1 _ (by omega)] at hl
              exact rv_lm_cg (fun k2 j z => by rw [hgR _ _ (by omega), hg1 _ _ (by omega) (by omega)]) (fun p hp => b1 _ (by omega)) rfl (c4 l hl)
            · rw [hgR _ _ (by omega), hg1 _ _ (by omega) (by omega), b1 _ (by omega)]
              exact f2
            · rw [hgR _ _ (by omega), hg1 _ _ (by omega) (by omega), b1 _ (by omega)]
              exact f3
            · rw [b1 _ (by omega)] at hj
              rw [hgR _ _ (by omega), hg1 _ _ (by omega) (by omega), b1 _ (by omega)]
              exact f4 j hj
            · rw [hgR _ _ (by omega), ← hS1, rv_gss, b2]
            · rw [b2] at hi
              rw [hgR _ _ (by omega), hgR _ _ (by omega), hgR _ _ (by omega)]
              by_cases q : i = a 32
              · rw [q, ← hS1, b3, b4, b5, rv_gsn (by omega), rv_gsn (by omega), rv_gsn (by omega), rv_gss, rv_gsn (by omega), rv_gsn (by omega), rv_gss, rv_gsn (by omega), rv_gss]
                exact ⟨rfl, rfl, rfl⟩
              · rw [hg1 _ _ (by omega) (by omega), hg1 _ _ (by omega) (by omega), hg1 _ _ (by omega) (by omega), b6 _ (by omega) (by omega), b6 _ (by omega) (by omega), b6 _ (by omega) (by omega)]
                exact f6 i (by omega)
        · rw [if_neg (by omega), rv_b2s, if_pos rfl]
          refine ⟨_, S, S, rfl, ?_, hI⟩
          rw [r0, rv_b1s, if_neg (by decide), r1, rv_b1s, if_neg (by decide), r2, rv_b1s, if_neg (by decide), hm 32 (by omega), rv_eq (by omega) (by omega), if_pos (by omega)]
      · rw [if_neg h2]
        refine ⟨_, _, _, rfl, ?_, hI⟩
        rw [show xf_X5_in S a1.toInt64 0 20 = _ from rv_in _ a1 0 20, rv_b1s, rv_i0, if_pos h0, rv_isRow, rv_b1s, rv_i0, if_pos h1, show xf_X5_in S a3.toInt64 0 255 = _ from rv_in _ a3 0 255, rv_b1s, rv_i0, if_neg h2]
    · rw [if_neg h1]
      refine ⟨_, _, _, rfl, ?_, hI⟩
      rw [show xf_X5_in S a1.toInt64 0 20 = _ from rv_in _ a1 0 20, rv_b1s, rv_i0, if_pos h0, rv_isRow, rv_b1s, rv_i0, if_neg h1]
  · rw [if_neg h0]
    refine ⟨_, _, _, rfl, ?_, hI⟩
    rw [show xf_X5_in S a1.toInt64 0 20 = _ from rv_in _ a1 0 20, rv_b1s, rv_i0, if_neg h0]
theorem rv_i8 {v : Nat} (hv : v < 128) : (nI v).toInt8.toInt32 = nI v := by
  rw [← Int32.toInt_inj, Int8.toInt_toInt32, Int32.toInt_toInt8, nI_toInt (by omega)]
  exact Int.bmod_eq_of_le (by omega) (by omega)
theorem rv_byte {v : Nat} (hv : v < 128) : vp_nar .byte ((nI v).toInt8.toInt32) = nI v := by
  rw [rv_i8 hv]
  exact rv_i8 hv
theorem rv_160 : (160 : Int32) = nI 160 := rfl
theorem rv_feed : pt_feed rv_Inv := by
  intro S a1 hI
  obtain ⟨n, hn, t1, t2, t3⟩ := hI.2.2.1
  unfold xf_X4_feed xf_X5_feed
  rw [rv_out, rv_b1s, rv_o0]
  by_cases h0 : (0 : Int32) ≤ a1 ∧ a1 ≤ 127
  · rw [if_pos h0]
    have r0 : ∀ S : rs_St, xf_X5_in S a1.toInt64 0 127 = some 1 := fun S => by
      rw [show xf_X5_in S a1.toInt64 0 127 = _ from rv_in _ a1 0 127]
      exact congrArg some (if_pos h0)
    obtain ⟨v, -, hv, rfl⟩ := rv_ins (lo := 0) (hi := 127) (by decide) h0 (by decide)
    have hby := rv_byte (show v < 128 by omega)
    unfold xf_X3_append
    rw [t1, rv_160, rv_lt (by omega) (by omega)]
    by_cases hx : n < 160
    · rw [if_pos hx, rv_ckn hx (by omega), nI_clamp (by omega)]
      simp only [rv_lts]
      rw [show vp_nar .byte ((nI v).toInt8.toInt32) = nI v from hby, rv_gsn (by omega), t1, nI_1, rv_b2s, if_neg (by decide), rv_gss]
      refine ⟨nI (n + 1), rs_si (rs_si S 81 n (nI v)) 80 1 (nI (n + 1)), rs_si (rs_si (rs_si (rs_si S 81 n (nI v)) 80 1 (nI (n + 1))) 97 n (nI v)) 91 6 (nI (n + 1)), rfl, ?_, ?_⟩
      · rw [r0, rv_b1s, if_neg (by decide), rv_gsn (by omega), rv_gsn (by omega), t2, rv_eq (by omega) (by omega), if_neg (by omega), rv_ckn hx (by omega), nI_clamp (by omega), rv_gss, rv_gsn (by omega), rv_gsn (by omega), rv_gsn (by omega), t2, nI_1]
      · obtain ⟨⟨a, ha⟩, h1, -, h3, h4, h5, h6⟩ := hI
        have hg : ∀ k j, ¬ (k = 80 ∧ j = 1) → ¬ (k = 91 ∧ j = 6) → ¬ (k = 81 ∧ j = n) → ¬ (k = 97 ∧ j = n) → rs_gi (rs_si (rs_si (rs_si (rs_si S 81 n (nI v)) 80 1 (nI (n + 1))) 97 n (nI v)) 91 6 (nI (n + 1))) k j = rs_gi S k j := fun k j q1 q2 q3 q4 => by rw [rv_gsn (by omega), rv_gsn (by omega), rv_gsn (by omega), rv_gsn (by omega)]
        generalize hS2 : rs_si (rs_si (rs_si (rs_si S 81 n (nI v)) 80 1 (nI (n + 1))) 97 n (nI v)) 91 6 (nI (n + 1)) = S2
        rw [hS2] at hg
        refine ⟨⟨a, rv_now_cg (fun k j z => hg k j (by omega) (by omega) (by omega) (by omega)) ha⟩, fun k hk => ?_, ⟨n + 1, by omega, ?_, ?_, fun i hi => ?_⟩, ?_, ?_, fun k hk => ?_, fun sc l q1 q2 => by rw [hg _ _ (by omega) (by omega) (by omega) (by omega)]; exact h6 sc l q1 q2⟩
        · obtain ⟨i1, i2⟩ := h1 k hk
          unfold rv_img
          rw [hg _ _ (by omega) (by omega) (by omega) (by omega), hg _ _ (by omega) (by omega) (by omega) (by omega)]
          exact ⟨i1, i2.imp id (fun ⟨q1, a, w, q2, q3⟩ => ⟨q1, a, w, fun j hj => by rw [hg _ _ (by omega) (by omega) (by omega) (by omega)]; exact q2 j hj, rv_fsc_cg w.1.1 (fun k2 j z1 z2 => hg _ _ (by omega) (by omega) (by omega) (by omega)) q3⟩)⟩
        · rw [← hS2, rv_gsn (by omega), rv_gsn (by omega), rv_gss]
        · rw [← hS2, rv_gss]
        · by_cases q : i = n
          · rw [q, ← hS2, rv_gsn (by omega), rv_gsn (by omega), rv_gsn (by omega), rv_gss, rv_gsn (by omega), rv_gss]
            exact ⟨rfl, v, by omega, rfl⟩
          · rw [hg _ _ (by omega) (by omega) (by omega) (by omega), hg _ _ (by omega) (by omega) (by omega) (by omega)]
            exact t3 i (by omega)
        · rw [hg _ _ (by omega) (by omega) (by omega) (by omega), hg _ _ (by omega) (by omega) (by omega) (by omega)]
          exact h3
        · rw [hg _ _ (by omega) (by omega) (by omega) (by omega), hg _ _ (by omega) (by omega) (by omega) (by omega)]
          exact h4
        · unfold rv_sht
          rw [hg _ _ (by omega) (by omega) (by omega) (by omega), hg _ _ (by omega) (by omega) (by omega) (by omega), hg _ _ (by omega) (by omega) (by omega) (by omega), hg _ _ (by omega) (by omega) (by omega) (by omega)]
          exact (h5 k hk).imp id (fun ⟨ln, z, q1, q2, q3, q4, q5, q6, q7⟩ => ⟨ln, z, q1, q2, q3, q4, q5, q6, fun i hi => by rw [hg _ _ (by omega) (by omega) (by omega) (by omega), hg _ _ (by omega) (by omega) (by omega) (by omega)]; exact q7 i hi⟩)
    · rw [if_neg hx, rv_b2s, if_pos rfl]
      refine ⟨_, _, _, rfl, ?_, hI⟩
      rw [r0, rv_b1s, if_neg (by decide), t2, rv_eq (by omega) (by omega), if_pos (by omega)]
  · rw [if_neg h0]
    refine ⟨_, _, _, rfl, ?_, hI⟩
    rw [show xf_X5_in S a1.toInt64 0 127 = _ from rv_in _ a1 0 127, rv_b1s, rv_i0, if_neg h0]
