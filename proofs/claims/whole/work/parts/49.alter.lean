/-! alter, tell, put, see, feed -/
theorem rv_kd0 {l : Nat} (hl : l < 4) : rs_kd (0 + 1 + 6 + 3 * l) = 0 := by
  rcases (show l = 0 ∨ l = 1 ∨ l = 2 ∨ l = 3 by omega) with rfl | rfl | rfl | rfl <;> rfl
theorem rv_bc_rel {S S2 : rs_St} {l p v : Nat} (hl : l < 4) (hb : rv_bcP S (0 + 1 + 6 + 3 * l) p v S2) : ∀ k j, rv_rel k j → rs_gi S2 k j = rs_gi S k j := by
  intro k j z
  by_cases q : k = 0 + 1 + 6 + 3 * l + 2 ∧ j = 0
  · rw [q.1, q.2]
    exact hb.2.2.2.1
  · exact hb.1 k j (by unfold rv_rel at z; omega) (by unfold rv_rel at z; omega)
theorem rv_alter : pt_alter rv_Inv := by
  intro S a1 a2 a3 hI
  obtain ⟨⟨a, w, hm, hf⟩, -⟩ := id hI
  have hc := w.1.1
  have c1 := hf.1.1
  have hm16 := hm 16 (by omega)
  unfold xf_X4_alter xf_X5_alter
  rcases rv_lampd a1 (a 16) hc with ⟨l, hl, rfl⟩ | hx
  · rw [rv_lampAt c1 hc hl, rv_b1s]
    simp only [rs_om]
    rw [if_pos (rv_kd0 (by omega))]
    by_cases hy : (0 : Int32) ≤ a2 ∧ a2 ≤ 3
    · obtain ⟨p, -, hp, rfl⟩ := rv_ins (lo := 0) (hi := 3) (by omega) hy (by omega)
      have hh := @rv_ph_le p
      have hlo := @rv_pl_le p
      rw [rv_ispart S (by omega), rv_b1s, rv_i0]
      by_cases hv : nI (rv_pl p) ≤ a3 ∧ a3 ≤ nI (rv_ph p)
      · obtain ⟨v, h1, h2, rfl⟩ := rv_ins (lo := rv_pl p) (hi := rv_ph p) (by omega) hv (by omega)
        obtain ⟨S2, e, h3, hb⟩ := rv_scb hf.1 hl w.1 (show p < 4 by omega) h1 h2 rfl
        rw [if_pos hv, rv_ckn (by omega) (by omega), rv_lts, e, rv_b1s, nI_clamp (by omega), (hf.1.2.2.2 l hl).1 p (by omega)]
        refine ⟨_, S2, rs_si S2 92 (4 * l + p) (nI v), rfl, ?_, ?_⟩
        · have e16 : rs_gi S2 92 16 = nI (a 16) := by rw [hb.1 _ _ (by omega) (by omega)]; exact hm16
          rw [rv_isLamp e16 hc hl, rv_b1s, if_neg (by decide), show xf_X5_in S2 (nI p).toInt64 0 3 = _ from rv_in _ (nI p) 0 3, rv_b1s, rv_i0, if_pos hy, rv_lowOf _ (by omega), rv_b1s, rv_mostOf _ (by omega), rv_b1s, rv_in, rv_b1s, rv_i0, if_pos hv, rv_4, pk_mul, nI_add, rv_becomes (by omega), rv_b2s, hb.1 _ _ (by omega) (by omega), hm _ (by omega)]
        · have hg : ∀ k j, ¬ (k = 92 ∧ j = 4 * l + p) → rs_gi (rs_si S2 92 (4 * l + p) (nI v)) k j = rs_gi S2 k j := fun k j q => rv_gsn q
          refine rv_Inv_now (a2 := rv_up a (4 * l + p) v) hI (fun k j z => ?_) ⟨rv_wf2_cg (fun j hj => rv_up_n (by omega)) (rv_wfpart w.1 (by omega) (by omega) h1 h2) w, fun j hj => ?_, rv_fsc_cg (S := S2) (by rw [rv_up_n (by omega)]; exact hc) (fun k j q1 q2 => hg _ _ (by omega)) ⟨h3, rv_rst_cg (fun j hj => rv_up_n (by omega)) (fun k j z => hb.1 _ _ (by omega) (by omega)) hf.2⟩⟩
          · rw [hg k j (by unfold rv_rel at z; omega)]
            exact rv_bc_rel (by omega) hb k j z
          · rw [rv_gs, rv_upe]
            by_cases q : j = 4 * l + p
            · rw [if_pos q, if_pos ⟨rfl, q⟩]
            · rw [if_neg q, if_neg (fun z => q z.2), hb.1 _ _ (by omega) (by omega)]
              exact hm j hj
      · rw [if_neg hv]
        refine ⟨_, _, _, rfl, ?_, hI⟩
        rw [rv_isLamp hm16 hc hl, rv_b1s, if_neg (by decide), show xf_X5_in S (nI p).toInt64 0 3 = _ from rv_in _ (nI p) 0 3, rv_b1s, rv_i0, if_pos hy, rv_lowOf _ (by omega), rv_b1s, rv_mostOf _ (by omega), rv_b1s, rv_in, rv_b1s, rv_i0, if_neg hv]
    · rw [show xf_X4_isPart S a2 a3 = some 0 from rv_no4 hy, rv_b1s, if_pos rfl]
      refine ⟨_, _, _, rfl, ?_, hI⟩
      rw [rv_isLamp hm16 hc hl, rv_b1s, if_neg (by decide), show xf_X5_in S a2.toInt64 0 3 = _ from rv_in _ a2 0 3, rv_b1s, rv_i0, if_neg hy]
  · rw [rv_lampAt0 c1 hx, rv_b1s]
    refine ⟨_, _, _, rfl, ?_, hI⟩
    rw [rv_isLamp0 hm16 hc hx, rv_b1s, if_pos rfl]
theorem rv_17 : (17 : Int32) = nI 17 := rfl
theorem rv_tr {p v : Nat} (hp : p < 4) (h1 : rv_tl p ≤ v) (h2 : v ≤ rv_th p) : (p = 0 → 1 ≤ v ∧ v ≤ 8) ∧ (p = 1 → v ≤ 9) ∧ (p = 2 → 1 ≤ v ∧ v ≤ 20) ∧ (p = 3 → 1 ≤ v ∧ v ≤ 60) := by
  rcases (show p = 0 ∨ p = 1 ∨ p = 2 ∨ p = 3 by omega) with rfl | rfl | rfl | rfl
  · exact ⟨fun _ => ⟨h1, h2⟩, fun z => by omega, fun z => by omega, fun z => by omega⟩
  · exact ⟨fun z => by omega, fun _ => h2, fun z => by omega, fun z => by omega⟩
  · exact ⟨fun z => by omega, fun z => by omega, fun _ => ⟨h1, h2⟩, fun z => by omega⟩
  · exact ⟨fun z => by omega, fun z => by omega, fun z => by omega, fun _ => ⟨h1, h2⟩⟩
theorem rv_wfrule {a : Nat → Nat} {p v : Nat} (w : rv_wf a) (hp : p < 4) (h1 : rv_tl p ≤ v) (h2 : v ≤ rv_th p) : rv_wf (rv_up a (17 + p) v) := by
  obtain ⟨r0, r1, r2, r3⟩ := rv_tr hp h1 h2
  obtain ⟨w1, w2, w3, w4, w5, w6⟩ := id w
  refine ⟨by rw [rv_up_n (by omega)]; exact w1, fun m hm => ?_, ?_⟩
  · rw [rv_up_n (by omega)] at hm
    rw [rv_up_n (by omega), rv_up_n (by omega), rv_up_n (by omega), rv_up_n (by omega)]
    exact w2 m hm
  · rcases (show p = 0 ∨ p = 1 ∨ p = 2 ∨ p = 3 by omega) with rfl | rfl | rfl | rfl
    · exact ⟨r0 rfl, w4, w5, w6⟩
    · exact ⟨w3, r1 rfl, w5, w6⟩
    · exact ⟨w3, w4, r2 rfl, w6⟩
    · exact ⟨w3, w4, w5, r3 rfl⟩
/-- a rule of a scene becomes -/
theorem rv_sct {S : rs_St} {B : Nat} {a : Nat → Nat} {u : Nat → Bool} {p v : Nat} (h : rv_sc S B a u) (hc : a 16 ≤ 4) (hp : p < 4) : rv_sc (rs_si S (B + 2) p (nI v)) B (rv_up a (17 + p) v) u := by
  obtain ⟨c1, c2, c3, c4⟩ := h
  refine ⟨?_, ?_, fun j hj => ?_, fun m hm => ?_⟩
  · rw [rv_gsn (by omega), rv_up_n (by omega)]
    exact c1
  · rw [rv_gsn (by omega), rv_up_n (by omega)]
    exact c2
  · rw [rv_gs, rv_upe]
    by_cases q : j = p
    · rw [if_pos ⟨rfl, q⟩, if_pos (by omega)]
    · rw [if_neg (fun z => q z.2), if_neg (by omega)]
      exact c3 j hj
  · rw [rv_up_n (by omega)] at hm
    exact rv_lm_cg (fun k2 j q => rv_gsn (by omega)) (fun q hq => rv_up_n (by omega)) rfl (c4 m hm)
theorem rv_tell : pt_tell rv_Inv := by
  intro S a1 a2 hI
  obtain ⟨⟨a, w, hm, hf⟩, -⟩ := id hI
  have hc := w.1.1
  unfold xf_X4_tell xf_X5_tell
  by_cases hy : (0 : Int32) ≤ a1 ∧ a1 ≤ 3
  · obtain ⟨p, -, hp, rfl⟩ := rv_ins (lo := 0) (hi := 3) (by omega) hy (by omega)
    have hh := @rv_th_le p
    have hlo := @rv_tl_le p
    rw [rv_isrule S (by omega), rv_b1s, rv_i0]
    by_cases hv : nI (rv_tl p) ≤ a2 ∧ a2 ≤ nI (rv_th p)
    · obtain ⟨v, h1, h2, rfl⟩ := rv_ins (lo := rv_tl p) (hi := rv_th p) (by omega) hv (by omega)
      have h3 := rv_sct (p := p) (v := v) hf.1 hc (by omega)
      rw [if_pos hv, rv_ckn (by omega) (by omega), rv_lts, rv_ckn (by omega) (by omega), rv_lts, nI_clamp (by omega), hf.1.2.2.1 p (by omega)]
      refine ⟨_, rs_si S (0 + 2) p (nI v), rs_si (rs_si S (0 + 2) p (nI v)) 92 (17 + p) (nI v), rfl, ?_, ?_⟩
      · rw [show xf_X5_in (rs_si S (0 + 2) p (nI v)) (nI p).toInt64 0 3 = _ from rv_in _ (nI p) 0 3, rv_b1s, rv_i0, if_pos hy, rv_lowTold _ (by omega), rv_b1s, rv_mostTold _ (by omega), rv_b1s, rv_in, rv_b1s, rv_i0, if_pos hv, rv_17, nI_add, rv_becomes (by omega), rv_b2s, rv_gsn (by omega), hm _ (by omega)]
      · have hg : ∀ k j, ¬ (k = 92 ∧ j = 17 + p) → rs_gi (rs_si (rs_si S (0 + 2) p (nI v)) 92 (17 + p) (nI v)) k j = rs_gi (rs_si S (0 + 2) p (nI v)) k j := fun k j q => rv_gsn q
        refine rv_Inv_now (a2 := rv_up a (17 + p) v) hI (fun k j z => ?_) ⟨rv_wf2_cg (fun j hj => rv_up_n (by omega)) (rv_wfrule w.1 (by omega) h1 h2) w, fun j hj => ?_, rv_fsc_cg (S := rs_si S (0 + 2) p (nI v)) (by rw [rv_up_n (by omega)]; exact hc) (fun k j q1 q2 => hg _ _ (by omega)) ⟨h3, rv_rst_cg (fun j hj => rv_up_n (by omega)) (fun k j z => rv_gsn (by omega)) hf.2⟩⟩
        · rw [hg k j (by unfold rv_rel at z; omega), rv_gsn (by unfold rv_rel at z; omega)]
        · rw [rv_gs, rv_upe]
          by_cases q : j = 17 + p
          · rw [if_pos q, if_pos ⟨rfl, q⟩]
          · rw [if_neg q, if_neg (fun z => q z.2), rv_gsn (by omega)]
            exact hm j hj
    · rw [if_neg hv]
      refine ⟨_, _, _, rfl, ?_, hI⟩
      rw [show xf_X5_in S (nI p).toInt64 0 3 = _ from rv_in _ (nI p) 0 3, rv_b1s, rv_i0, if_pos hy, rv_lowTold _ (by omega), rv_b1s, rv_mostTold _ (by omega), rv_b1s, rv_in, rv_b1s, rv_i0, if_neg hv]
  · rw [show xf_X4_isRule S a1 a2 = some 0 from rv_no4 hy, rv_b1s, if_pos rfl]
    refine ⟨_, _, _, rfl, ?_, hI⟩
    rw [show xf_X5_in S a1.toInt64 0 3 = _ from rv_in _ a1 0 3, rv_b1s, rv_i0, if_neg hy]
