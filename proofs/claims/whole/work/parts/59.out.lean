/-! out -/
def rv_mk (l : Nat) : Nat → Bool := fun m => decide (m ≠ l)
theorem rv_ln13 {l : Nat} (hl : l < 4) : rs_ln (19 + 1 + 6 + 3 * l + 2) = 13 := by
  rcases (show l = 0 ∨ l = 1 ∨ l = 2 ∨ l = 3 by omega) with rfl | rfl | rfl | rfl <;> rfl
theorem rv_putOut {S : rs_St} {a : Nat → Nat} {u : Nat → Bool} {l : Nat} (w : rv_wf a) (hl : l < a 16) (h : rv_sc S 19 a u) : ∃ S2, xf_X0_putOut S (19 + 1 + 6 + 3 * l) = some S2 ∧ rv_sc S2 19 a (fun m => u m && rv_mk l m) ∧ (∀ k j, k ≠ 19 + 1 + 6 + 3 * l + 2 → rs_gi S2 k j = rs_gi S k j) ∧ S2.2 = S.2 ∧ rs_gi S2 (19 + 1 + 6 + 3 * l + 2) 0 = 0 := by
  obtain ⟨c1, c2, c3, c4⟩ := h
  have hc := w.1
  obtain ⟨S2, e2, f1, f2, f3⟩ := rv_fill (S := S) (v := 0) (rv_ln13 (show l < 4 by omega)) (by omega)
  refine ⟨S2, ?_, ⟨by rw [f1 _ _ (by omega)]; exact c1, by rw [f1 _ _ (by omega)]; exact c2, fun j hj => by rw [f1 _ _ (by omega)]; exact c3 j hj, fun m hm => ?_⟩, fun k j hk => f1 k j hk, f2, f3 0 (by omega)⟩
  · unfold xf_X0_putOut
    rw [e2, rv_b1s]
  · by_cases q : m = l
    · rw [q]
      refine ⟨fun p hp => by rw [f1 _ _ (by omega)]; exact (c4 l hl).1 p hp, fun s hs => ?_⟩
      have := (w.2.1 l hl).2.2.2.2.1
      rw [f3 s (by omega), if_neg]
      · rfl
      · simp [rv_mk]
    · exact rv_lm_cg (fun k2 j z => f1 _ _ (by omega)) (fun _ _ => rfl) (by simp [rv_mk, q]) (c4 m hm)
theorem rv_sc_mask {S : rs_St} {B : Nat} {a : Nat → Nat} {u v : Nat → Bool} (hu : ∀ m, m < a 16 → v m = u m) (h : rv_sc S B a u) : rv_sc S B a v :=
  ⟨h.1, h.2.1, h.2.2.1, fun m hm => rv_lm_cg (fun _ _ _ => rfl) (fun _ _ => rfl) (hu m hm) (h.2.2.2 m hm)⟩
theorem rv_out_l {S : rs_St} {a : Nat → Nat} {N : Nat} (hI : rv_Inv S) (hn : rv_now S a) (hN : N ≤ 41) (K : rs_St → Int32 → Int32 → Int32 → Option (Int32 × rs_St)) : ∀ (d l fu : Nat) (S1 : rs_St) (co : Int32) (mu : Nat), l + d = a 16 → d < fu → rv_drf S S1 → rv_sc S1 19 a rv_uu → mu ≤ 1000000 → ∃ S2 x, xf_X4_out_l48 (nI N) K fu S1 co (nI mu) (nI l) = K S2 (rv_jf (fun l => rv_gb a (rv_mk l) N) d l co mu).1 (nI (rv_jf (fun l => rv_gb a (rv_mk l) N) d l co mu).2) x ∧ rv_drf S S2 := by
  obtain ⟨w, hm, hf⟩ := id hn
  have ht := w.2.1
  have hc := w.1.1
  intro d
  induction d with
  | zero =>
    intro l fu S1 co mu hl hfu hd hs hmu
    obtain ⟨f, rfl⟩ : ∃ f, fu = f + 1 := ⟨fu - 1, by omega⟩
    refine ⟨S1, nI l, ?_, hd⟩
    rw [xf_X4_out_l48, hd.1 _ _ (by omega) (by omega), hf.1.1, rv_le (by omega) (by omega), if_pos (by omega)]
    rfl
  | succ d ih =>
    intro l fu S1 co mu hl hfu hd hs hmu
    obtain ⟨f, rfl⟩ : ∃ f, fu = f + 1 := ⟨fu - 1, by omega⟩
    have hla : l < a 16 := by omega
    obtain ⟨S3, e3, s3, g3, g4, g5⟩ := rv_putOut w.1 hla hs
    have s3' : rv_sc S3 19 a (rv_mk l) := rv_sc_mask (fun m _ => by simp [rv_uu]) s3
    have hgb := rv_gb_le a (rv_mk l) N
    have e23 : xf_X1_greatestBands S3 19 (nI N) = some (nI (rv_gb a (rv_mk l) N)) := rv_cgreat w.1 s3' ht hN
    obtain ⟨S4, e4, t1, t2, t3, t4⟩ := rv_cpl (S := S3) (k := 19 + 1 + 6 + 3 * l) (m := 0 + 1 + 6 + 3 * l) (by omega) (by omega)
    have hnow : ∀ k j, k < 19 → rs_gi S3 k j = rs_gi S k j := fun k j hk => (g3 k j (by omega)).trans (hd.1 k j (by omega) (by omega))
    have s4 : rv_sc S4 19 a rv_uu := by
      obtain ⟨c1, c2, c3, c4⟩ := s3'
      refine ⟨by rw [t1 _ _ (by omega) (by omega)]; exact c1, by rw [t1 _ _ (by omega) (by omega)]; exact c2, fun j hj => by rw [t1 _ _ (by omega) (by omega)]; exact c3 j hj, fun m hm2 => ?_⟩
      by_cases q : m = l
      · rw [q]
        have := (w.1.2.1 l hla).2.2.2.2.1
        refine ⟨fun p hp => ?_, fun s hs => ?_⟩
        · rw [t3 p hp, hnow _ _ (by omega)]
          exact (hf.1.2.2.2 l hla).1 p hp
        · rw [t4 s (by omega), hnow _ _ (by omega)]
          exact (hf.1.2.2.2 l hla).2 s hs
      · exact rv_lm_cg (fun k2 j z => t1 _ _ (by omega) (by omega)) (fun _ _ => rfl) (by simp [rv_mk, q, rv_uu]) (c4 m hm2)
    have hd4 : rv_drf S S4 := by
      refine ⟨fun k j q q2 => ?_, fun m hm2 => ?_⟩
      · rw [t1 _ _ (by omega) (by omega), g3 _ _ (by omega)]
        exact hd.1 k j q q2
      · by_cases q : m = l
        · rw [q, t4 0 (by omega), hnow _ _ (by omega)]
          exact rv_zn hI.2.2.2.2.2.2 (by omega)
        · rw [t1 _ _ (by omega) (by omega), g3 _ _ (by omega)]
          exact hd.2 m hm2
    rw [xf_X4_out_l48, hd.1 _ _ (by omega) (by omega), hf.1.1, rv_le (by omega) (by omega), if_neg (by omega), rv_ckn (by omega) (by omega), nI_clamp (by omega), e3, rv_b1s, e23, rv_b1s, rv_ckm (by omega) (by omega), rv_ckm (by omega) (by omega), e4, rv_b1s, nI_1]
    simp only [rs_jn, rs_lt]
    rw [rv_le (by omega) (by omega), rv_jf]
    by_cases q : mu ≤ rv_gb a (rv_mk l) N
    · rw [if_pos q, if_pos q]
      exact ih (l + 1) f _ co mu (by omega) (by omega) hd4 s4 hmu
    · rw [if_neg q, if_neg q]
      exact ih (l + 1) f _ (nI l) _ (by omega) (by omega) hd4 s4 (by omega)
theorem rv_go91 {S S2 : rs_St} {a : Nat → Nat} {u : Nat → Bool} {v : Int32} (hs : rv_stP S S2) (ha : ∀ j, j < 51 → rs_gi S 92 j = nI (a j)) : rv_goP (rs_si S2 91 13 v) a u 0 (rs_si S2 91 13 v) := by
  obtain ⟨h1, h2, h3, h4, h5, h6, h7, h8, h9, h10⟩ := hs
  refine ⟨⟨fun _ _ _ _ => rfl, rfl⟩, fun i hi => ?_, fun h => by omega, fun _ _ => rfl, fun h => by omega, ?_, ?_, ?_, ?_⟩
  · rw [rv_as_0, rv_gsn (by omega), h3 i hi, ha i hi]
  · rw [rv_gsn (by omega)]
    exact h7
  · rw [rv_gsn (by omega)]
    exact h8
  · rw [rv_gsn (by omega)]
    exact h9
  · rw [rv_gsn (by omega)]
    exact h10
theorem rv_on91 {S S2 : rs_St} (h : rv_stP S S2) {l : Nat} (a : Nat → Nat) {m : Nat} (hm : m < 4) (hl : l < 4) : rv_on (rs_si S2 91 13 (nI l)) a m = rv_mk l m := by
  unfold rv_on rv_mk
  rw [rv_gss, rv_gsn (by omega), h.2.2.2.2.2.1]
  have e : (nI m = nI l) ↔ m = l := nI_eq (by omega) (by omega)
  simp [e]
theorem rv_orf {S : rs_St} {a : Nat → Nat} {N : Nat} (w : rv_wf2 a) (hm : ∀ j, j < 51 → rs_gi S 92 j = nI (a j)) (hN : N ≤ 41) (K : rs_St → Int32 → Option (Int32 × rs_St)) : ∀ (d l fu : Nat) (S3 : rs_St) (co : Int32) (mu : Nat), l + d = a 16 → d < fu → rv_rfF S S3 → rs_gi S3 91 22 = co → rs_gi S3 91 23 = nI mu → mu ≤ 1000000 → ∃ S4, xf_X5_out_l35 (nI N) K fu S3 (nI l) = K S4 (nI (a 16)) ∧ rv_rfF S S4 ∧ rs_gi S4 91 22 = (rv_jf (fun l => rv_gb a (rv_mk l) N) d l co mu).1 ∧ rs_gi S4 91 23 = nI (rv_jf (fun l => rv_gb a (rv_mk l) N) d l co mu).2 := by
  have ht := w.2.1
  have hc := w.1.1
  intro d
  induction d with
  | zero =>
    intro l fu S3 co mu hl hfu hr h1 h2 hmu
    obtain ⟨f, rfl⟩ : ∃ f, fu = f + 1 := ⟨fu - 1, by omega⟩
    obtain rfl : l = a 16 := by omega
    refine ⟨S3, ?_, hr, h1, h2⟩
    rw [xf_X5_out_l35, hr 92 16 (by omega), hm 16 (by omega), rv_le (by omega) (by omega), if_pos (by omega)]
  | succ d ih =>
    intro l fu S3 co mu hl hfu hr h1 h2 hmu
    obtain ⟨f, rfl⟩ : ∃ f, fu = f + 1 := ⟨fu - 1, by omega⟩
    have hm3 : ∀ j, j < 51 → rs_gi S3 92 j = nI (a j) := fun j hj => (hr 92 j (by omega)).trans (hm j hj)
    obtain ⟨S7, e7, s7⟩ := rv_starts S3
    obtain ⟨S11, e11, g11⟩ := rv_shotsGo (n := N) (u := rv_mk l) w.1 (fun m hm2 => rv_on91 s7 _ (by omega) (by omega)) hN ht (rv_go91 (v := nI l) s7 hm3)
    have h91 : ∀ i, i < 13 ∨ 19 < i → rs_gi S11 91 i = rs_gi S3 91 i := fun i hi => by
      rw [g11.2.2.2.1 i (by omega), rv_gsn (by omega)]
      exact s7.2.2.2.1 i (by omega)
    have r1 : rv_rfF S3 S11 := fun k i z => by
      by_cases q : k = 91
      · rw [q]
        exact h91 i (by unfold rv_rel at z; omega)
      · exact (congrFun (g11.1.1 k q (by unfold rv_rel at z; omega) (by unfold rv_rel at z; omega)) i).trans ((rv_gsn (by omega)).trans (congrFun (s7.1 k q (by unfold rv_rel at z; omega)) i))
    have hgb := rv_gb_le a (rv_mk l) N
    obtain ⟨S13, e13, q1, q2, q3⟩ := rv_judges (S := S11) (c := l) (v := rv_gb a (rv_mk l) N) (mu := mu) (co := co) ((h91 22 (by omega)).trans h1) ((h91 23 (by omega)).trans h2) (by omega) hmu
    have e15 : rs_gi S11 91 15 = nI (rv_gb a (rv_mk l) N) := g11.2.2.2.2.2.1
    rw [xf_X5_out_l35, hm3 16 (by omega), rv_le (by omega) (by omega), if_neg (by omega), e7, rv_b1s, rv_lts, e11, rv_b1s, e15, e13, rv_b1s, rv_lts, nI_1]
    have hr13 : rv_rfF S S13 := fun k i z => ((q3 k i (by unfold rv_rel at z; omega)).trans (r1 k i z)).trans (hr k i z)
    rw [rv_jf]
    by_cases q : mu ≤ rv_gb a (rv_mk l) N
    · rw [if_pos q]
      rw [if_pos q] at q1 q2
      exact ih (l + 1) f S13 co mu (by omega) (by omega) hr13 q1 q2 hmu
    · rw [if_neg q]
      rw [if_neg q] at q1 q2
      exact ih (l + 1) f S13 (nI l) _ (by omega) (by omega) hr13 q1 q2 (by omega)
theorem rv_outs : pt_out rv_Inv := by
  intro S a1 a2 hI
  obtain ⟨⟨a, hn⟩, -⟩ := id hI
  obtain ⟨w, hm, hf⟩ := id hn
  have ht := w.2.1
  have hc := w.1.1
  unfold xf_X4_out xf_X5_out
  rw [rv_out, rv_b1s, rv_o0, rv_out, rv_b1s, rv_o0]
  by_cases hy : (0 : Int32) ≤ a1 ∧ a1 ≤ 40
  · rw [if_pos hy]
    by_cases hz : (0 : Int32) ≤ a2 ∧ a2 ≤ 1
    · rw [if_pos hz]
      have r1 : ∀ S : rs_St, xf_X5_isFar S a1 = some 1 := fun S => by
        rw [rv_isFar]
        exact congrArg some (if_pos hy)
      have r2 : ∀ S : rs_St, xf_X5_isPart S a2 = some 1 := fun S => by
        rw [rv_isPt]
        exact congrArg some (if_pos hz)
      obtain ⟨N, -, hN, rfl⟩ := rv_ins (lo := 0) (hi := 40) (by omega) hy (by omega)
      obtain ⟨S1, e1, c1, d1⟩ := rv_draft hI hn
      have hgb := rv_gb_le a rv_uu N
      have sc0 : rv_sc S1 0 a rv_uu := (rv_fsc_cg hc (fun k j q1 q2 => d1.1 _ _ (by omega) (by omega)) hf).1
      have eg : xf_X1_greatestBands S1 0 (nI N) = some (nI (rv_gb a rv_uu N)) := rv_cgreat w.1 sc0 ht (by omega)
      obtain ⟨S2, x, e2, d2⟩ := rv_out_l hI hn (show N ≤ 41 by omega) (fun (S30 : rs_St) (x31 : Int32) (x32 : Int32) (x33 : Int32) => if a2 = 0 then some (x31, S30) else if x31 = (-4) then some (x31, S30) else some (x32, S30)) (a 16) 0 rs_fu S1 (-4) (rv_gb a rv_uu N) (by omega) (by unfold rs_fu; omega) d1 c1.1 (by omega)
      have i2 := rv_drf_inv hI d2
      have hm2 : ∀ j, j < 51 → rs_gi S2 92 j = nI (a j) := fun j hj => by rw [d2.1 _ _ (by omega) (by omega)]; exact hm j hj
      obtain ⟨S7, e7, s7⟩ := rv_starts S2
      obtain ⟨S8, e8, g8⟩ := rv_shotsGo (n := N) (u := rv_uu) w.1 (fun l hl => rv_on_st s7 a (by omega)) (by omega) ht (rv_go0 s7 hm2)
      have e15 : rs_gi S8 91 15 = nI (rv_gb a rv_uu N) := g8.2.2.2.2.2.1
      have r8 : rv_rfF S2 S8 := rv_go_rel s7 g8
      obtain ⟨S9, e9, r9, q1, q2⟩ := rv_orf (S := rs_si (rs_si S8 91 22 (-4)) 91 23 (nI (rv_gb a rv_uu N))) w (fun j hj => by rw [rv_gsn (by omega), rv_gsn (by omega), r8 _ _ (by omega)]; exact hm2 j hj) (show N ≤ 41 by omega) (fun (S24 : rs_St) (x25 : Int32) => rs_b1 (xf_X5_judged S24 a2) (fun r27 => some (r27, S24))) (a 16) 0 rs_fu _ (-4) (rv_gb a rv_uu N) (by omega) (by unfold rs_fu; omega) (fun _ _ _ => rfl) (by rw [rv_gsn (by omega), rv_gss]) (rv_gss _ _ _ _) (by omega)
      have f9 : rv_rfF S2 S9 := fun k i z => by
        rw [r9 k i z, rv_gsn (by unfold rv_rel at z; omega), rv_gsn (by unfold rv_rel at z; omega), r8 k i z]
      have eC : ∀ r, (if a2 = 0 then some ((rv_jf (fun l => rv_gb a (rv_mk l) N) (a 16) 0 (-4) (rv_gb a rv_uu N)).1, S2) else if (rv_jf (fun l => rv_gb a (rv_mk l) N) (a 16) 0 (-4) (rv_gb a rv_uu N)).1 = (-4) then some ((rv_jf (fun l => rv_gb a (rv_mk l) N) (a 16) 0 (-4) (rv_gb a rv_uu N)).1, S2) else some (nI (rv_jf (fun l => rv_gb a (rv_mk l) N) (a 16) 0 (-4) (rv_gb a rv_uu N)).2, S2)) = some (r, S2) → rs_b1 (xf_X1_copyFrom S 19 0) (fun S8 => rs_b1 (xf_X1_greatestBands S8 0 (nI N)) (fun r10 => xf_X4_out_l48 (nI N) (fun (S30 : rs_St) (x31 : Int32) (x32 : Int32) (x33 : Int32) => if a2 = 0 then some (x31, S30) else if x31 = (-4) then some (x31, S30) else some (x32, S30)) rs_fu S8 (-4) r10 0)) = some (r, S2) := fun r hr => by
        rw [e1, rv_b1s, eg, rv_b1s]
        exact e2.trans hr
      have eR : ∀ r, xf_X5_judged S9 a2 = some r → rs_b1 (xf_X5_isFar S2 (nI N)) (fun r2 => if r2 = 0 then some ((-1), S2) else rs_b1 (xf_X5_isPart S2 a2) (fun r5 => if r5 = 0 then some ((-1), S2) else rs_b1 (xf_X5_starts S2) (fun S8 => rs_b1 (xf_X5_shotsGo S8 (nI N)) (fun S10 => rs_b1 (xf_X5_startsJudging S10 (rs_gi S10 91 15)) (fun S12 => xf_X5_out_l35 (nI N) (fun (S24 : rs_St) (x25 : Int32) => rs_b1 (xf_X5_judged S24 a2) (fun r27 => some (r27, S24))) rs_fu S12 0))))) = some (r, S9) := fun r hr => by
        rw [r1, rv_b1s, if_neg (by decide), r2, rv_b1s, if_neg (by decide), e7, rv_b1s, e8, rv_b1s, e15]
        unfold xf_X5_startsJudging
        simp only [rs_lt, rv_b1s]
        refine e9.trans ?_
        rw [hr, rv_b1s]
      have i9 := rv_rfF_inv i2 f9
      unfold xf_X5_judged at eR
      rw [q1, q2] at eR
      by_cases p4 : (rv_jf (fun l => rv_gb a (rv_mk l) N) (a 16) 0 (-4) (rv_gb a rv_uu N)).1 = -4
      · refine ⟨-4, S2, S9, eC _ ?_, eR _ (if_pos p4), i9⟩
        rw [p4]
        by_cases p : a2 = 0
        · rw [if_pos p]
        · rw [if_neg p, if_pos rfl]
      · rw [if_neg p4] at eR
        by_cases p : a2 = 0
        · exact ⟨_, S2, S9, eC _ (if_pos p), eR _ (if_pos p), i9⟩
        · refine ⟨_, S2, S9, eC _ ?_, eR _ (if_neg p), i9⟩
          rw [if_neg p, if_neg p4]
    · rw [if_neg hz]
      refine ⟨_, _, _, rfl, ?_, hI⟩
      rw [rv_isFar, rv_b1s, rv_i0, if_pos hy, rv_isPt, rv_b1s, rv_i0, if_neg hz]
  · rw [if_neg hy]
    refine ⟨_, _, _, rfl, ?_, hI⟩
    rw [rv_isFar, rv_b1s, rv_i0, if_neg hy]
