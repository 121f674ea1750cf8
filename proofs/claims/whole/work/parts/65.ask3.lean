/-! ask -/
theorem rv_pc_cn (P : Nat → Bool) : rv_pc (rv_mn2 P 12) = rv_cn P 12 := by
  unfold rv_pc rv_cn
  exact rv_sm_cg (fun c hc => rv_mn2_bit P hc)
set_option maxRecDepth 100000 in
theorem rv_ask : pt_ask rv_Inv := by
  intro S a1 a2 hI
  obtain ⟨⟨a, hn⟩, -⟩ := id hI
  obtain ⟨w, hm, hf⟩ := id hn
  have ht := w.2.1
  have hc := w.1.1
  have hR := w.1.2.2.1
  have hm16 := hm 16 (by omega)
  rcases rv_lampd a1 (a 16) hc with ⟨l, hl, rfl⟩ | hx
  · by_cases hz : (0 : Int32) ≤ a2 ∧ a2 ≤ 1
    · obtain ⟨S2, e2, d2, v, v1, v2⟩ := rv_fitting hI hn hl (p := 3) (by omega) rfl
      obtain ⟨P, hP⟩ : ∃ P, P = (fun v => rv_al (rv_snb (rv_up a (4 * l + 3) v)) (a 32)) := ⟨_, rfl⟩
      have e2' : xf_X4_fitting S (nI l) 3 = some (nI (rv_mn2 P 12), S2) := by
        rw [hP]
        refine Eq.trans (b := some (rv_ft (fun v => rv_al (rv_snb (rv_up a (4 * l + 3) v)) (a 32)) 12 0 0, S2)) e2 ?_
        have h12 := rv_ft_mn2 (fun v => rv_al (rv_snb (rv_up a (4 * l + 3) v)) (a 32)) (d := 12) (c := 0) (by omega)
        exact congrArg (fun x => some (x, S2)) h12
      have hpc := rv_cn_le P 12
      have h4096 := rv_mn2_lt P 12
      obtain ⟨S3, e3, d3⟩ := rv_42 (S := S) (l := l) (P := P) w.1 ht hl (hf.1.2.2.1 0 (by omega)) (fun (S37 : rs_St) (x38 : Int32) (x39 : Int32) (x40 : Int32) => if a2 = 0 then some (x38, S37) else if x38 = (-4) then some (x38, S37) else some (x39, S37)) 21 0 rs_fu S2 (-4) (rv_cn P 12) (by omega) (by unfold rs_fu; omega) d2 ⟨v, v1, v2.1⟩ hpc
      have i3 := rv_drf_inv hI d3
      have hm3 : ∀ j, j < 51 → rs_gi S3 92 j = nI (a j) := fun j hj => by rw [d3.1 _ _ (by omega) (by omega)]; exact hm j hj
      obtain ⟨S8, e8, f8, k8⟩ := rv_22 (S := S3) w hm3 hl (fun (S29 : rs_St) (x30 : Int32) (x31 : Int32) => rs_b1 (xf_X5_startsJudging S29 x30) (fun S33 => xf_X5_ask_l97 x30 (fun (S70 : rs_St) (x71 : Int32) => rs_b1 (xf_X5_judged S70 a2) (fun r73 => some (r73, S70))) rs_fu S33 0)) 12 0 rs_fu S3 (by omega) (by unfold rs_fu; omega) ⟨fun _ _ _ => rfl, fun p hp => by omega⟩
      rw [← hP] at e8 k8
      have h17 : rs_gi S8 92 17 = nI (a 17) := (f8 92 17 (by omega)).trans (hm3 17 (by omega))
      obtain ⟨S10, e10, P10⟩ := rv_97 (S := S8) (R := a 17) (cn := rv_cn P 12) hR.2 hpc h17 (fun (S70 : rs_St) (x71 : Int32) => rs_b1 (xf_X5_judged S70 a2) (fun r73 => some (r73, S70))) 21 0 rs_fu (rs_si (rs_si S8 91 22 (-4)) 91 23 (nI (rv_cn P 12))) (-4) (rv_cn P 12) (by omega) (by unfold rs_fu; omega) ⟨fun k i z => by rw [rv_gsn (by unfold rv_rel at z; omega), rv_gsn (by unfold rv_rel at z; omega)], fun j => by rw [rv_gsn (by omega), rv_gsn (by omega)], by rw [rv_gsn (by omega), rv_gss], rv_gss _ _ _ _⟩ hpc
      have hV : ∀ n r, n ≤ 20 → r < a 17 → rv_vx S8 (rv_cn P 12) n r = (fun n r => rv_cv P (fun q => nI (rv_rw (rv_up a (4 * l + 3) q) rv_uu (rv_T a n) r)) 12) n r := fun n r hn2 hr => (rv_alike (P := P) (F := fun q => nI (rv_rw (rv_up a (4 * l + 3) q) rv_uu (rv_T a n) r)) (G := fun x => rs_gi S8 101 (168 * x + (8 * n + r))) (k := 12) (fun p hp hpp => by
        (try dsimp only)
        rw [k8 p hp hpp n r (by omega) (by omega)]
        unfold rv_v8
        rw [rv_up_n (by omega), if_pos hr]
        unfold rv_T
        rw [rv_up_n (by omega), rv_up_n (by omega)])).symm
      rw [rv_jo_cg (W := fun n r => rv_cv P (fun q => nI (rv_rw (rv_up a (4 * l + 3) q) rv_uu (rv_T a n) r)) 12) hV (by omega)] at P10
      generalize rv_jo (fun n r => rv_cv P (fun q => nI (rv_rw (rv_up a (4 * l + 3) q) rv_uu (rv_T a n) r)) 12) (a 17) 21 0 (-4) (rv_cn P 12) = J at e3 P10
      refine ⟨if a2 = 0 then J.1 else if J.1 = -4 then J.1 else nI J.2, S3, S10, ?_, ?_, rv_rfF_inv (rv_rfF_inv i3 f8) P10.1⟩
      · unfold xf_X4_ask
        rw [rv_lampAt hf.1.1 hc hl, rv_b1s]
        simp only [rs_om]
        rw [if_pos (rv_kd0 (by omega)), rv_out, rv_b1s, rv_o0, if_pos hz, e2', rv_b2s, rv_bitCount S2 (by omega), rv_b1s, rv_pc_cn]
        refine e3.trans ?_
        by_cases q : a2 = 0
        · rw [if_pos q, if_pos q]
        · rw [if_neg q, if_neg q]
          by_cases q2 : J.1 = -4
          · rw [if_pos q2, if_pos q2]
          · rw [if_neg q2, if_neg q2]
      · unfold xf_X5_ask
        rw [rv_isLamp (hm3 16 (by omega)) hc hl, rv_b1s, if_neg (by decide), rv_isPt, rv_b1s, rv_i0, if_pos hz]
        refine e8.trans ?_
        refine Eq.trans e10 ?_
        unfold xf_X5_judged
        rw [P10.2.2.1, P10.2.2.2]
        by_cases q2 : J.1 = -4
        · rw [if_pos q2, rv_b1s, if_pos q2, ite_self, q2]
        · rw [if_neg q2]
          by_cases q : a2 = 0
          · rw [if_pos q, if_pos q, rv_b1s]
          · rw [if_neg q, if_neg q, if_neg q2, rv_b1s]
    · refine ⟨-1, S, S, ?_, ?_, hI⟩
      · unfold xf_X4_ask
        rw [rv_lampAt hf.1.1 hc hl, rv_b1s]
        simp only [rs_om]
        rw [if_pos (rv_kd0 (by omega)), rv_out, rv_b1s, rv_o0, if_neg hz]
      · unfold xf_X5_ask
        rw [rv_isLamp hm16 hc hl, rv_b1s, if_neg (by decide), rv_isPt, rv_b1s, rv_i0, if_neg hz]
  · refine ⟨-1, S, S, ?_, ?_, hI⟩
    · unfold xf_X4_ask
      rw [rv_lampAt0 hf.1.1 hx, rv_b1s]
      rfl
    · unfold xf_X5_ask
      rw [rv_isLamp0 hm16 hc hx, rv_b1s, if_pos rfl]
