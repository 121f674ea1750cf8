/-! ask -/
theorem rv_le_mx {f : Nat → Nat} : ∀ {n i : Nat}, i < n → f i ≤ rv_mx f n
  | 0, i, h => by omega
  | n + 1, i, h => by
    rw [rv_mx]
    by_cases e : i = n
    · rw [e]
      split <;> omega
    · have := rv_le_mx (f := f) (n := n) (i := i) (by omega)
      split <;> omega
theorem rv_cnt_eq {P : Nat → Bool} {F G : Nat → Int32} (v : Int32) : ∀ {k : Nat}, (∀ p, p < k → P p = true → G (rv_cn P p) = F p) → rv_sm (fun q => if P q && decide (F q = v) then 1 else 0) k = rv_sm (fun y => if v = G y then 1 else 0) (rv_cn P k)
  | 0, _ => rfl
  | k + 1, h => by
    have ih := rv_cnt_eq (F := F) (G := G) v (k := k) (fun p hp => h p (by omega))
    have ec : rv_cn P (k + 1) = rv_cn P k + if P k then 1 else 0 := rfl
    rw [rv_sm, ih, ec]
    cases hp : P k with
    | false => rfl
    | true =>
      rw [if_pos (rfl : true = true), rv_sm, h k (by omega) hp, Bool.true_and]
      by_cases e : F k = v
      · rw [decide_eq_true e, if_pos rfl, if_pos e.symm]
      · rw [decide_eq_false e, if_neg (by decide), if_neg (fun z => e z.symm)]
theorem rv_alike {P : Nat → Bool} {F G : Nat → Int32} : ∀ {k : Nat}, (∀ p, p < k → P p = true → G (rv_cn P p) = F p) → rv_mx (fun p => if P p then rv_sm (fun q => if P q && decide (F q = F p) then 1 else 0) (p + 1) else 0) k = rv_mx (fun x => rv_sm (fun y => if G x = G y then 1 else 0) (rv_cn P k)) (rv_cn P k)
  | 0, _ => rfl
  | k + 1, h => by
    have ih := rv_alike (F := F) (G := G) (k := k) (fun p hp => h p (by omega))
    have ec : rv_cn P (k + 1) = rv_cn P k + if P k then 1 else 0 := rfl
    rw [rv_mx, ih, ec]
    cases hp : P k with
    | false =>
      rw [if_neg (show ¬ false = true by decide), if_pos (Nat.zero_le _), if_neg (show ¬ false = true by decide), Nat.add_zero]
    | true =>
      have eg := h k (by omega) hp
      have e1 : rv_sm (fun q => if P q && decide (F q = F k) then 1 else 0) (k + 1) = rv_sm (fun y => if F k = G y then 1 else 0) (rv_cn P k) + 1 := by
        rw [rv_sm, rv_cnt_eq (G := G) (F k) (fun p hp2 => h p (by omega)), hp, Bool.true_and, decide_eq_true rfl, if_pos rfl]
      rw [if_pos (rfl : true = true), if_pos (rfl : true = true), e1]
      generalize rv_cn P k = c at *
      have el : ∀ x, rv_sm (fun y => if G x = G y then 1 else 0) (c + 1) = rv_sm (fun y => if G x = G y then 1 else 0) c + if G x = F k then 1 else 0 := fun x => by rw [rv_sm, eg]
      apply Nat.le_antisymm
      · have hA : rv_mx (fun x => rv_sm (fun y => if G x = G y then 1 else 0) c) c ≤ rv_mx (fun x => rv_sm (fun y => if G x = G y then 1 else 0) (c + 1)) (c + 1) := rv_mx_le (fun i hi => by
          have := rv_le_mx (f := fun x => rv_sm (fun y => if G x = G y then 1 else 0) (c + 1)) (n := c + 1) (i := i) (by omega)
          rw [el] at this
          omega)
        have hB := rv_le_mx (f := fun x => rv_sm (fun y => if G x = G y then 1 else 0) (c + 1)) (n := c + 1) (i := c) (by omega)
        (try dsimp only at hB)
        rw [el, eg, if_pos rfl] at hB
        split <;> omega
      · refine rv_mx_le (fun i hi => ?_)
        (try dsimp only)
        rw [el]
        by_cases e : G i = F k
        · rw [if_pos e, e]
          split <;> omega
        · rw [if_neg e]
          by_cases hic : i = c
          · rw [hic, eg] at e
            exact absurd rfl e
          · have := rv_le_mx (f := fun x => rv_sm (fun y => if G x = G y then 1 else 0) c) (n := c) (i := i) (by omega)
            (try dsimp only at this)
            split <;> omega
theorem rv_cn_le (P : Nat → Bool) : ∀ n : Nat, rv_cn P n ≤ n
  | 0 => Nat.le_refl _
  | n + 1 => by
    have := rv_cn_le P n
    show rv_cn P n + (if P n then 1 else 0) ≤ n + 1
    split <;> omega
/-! the class: most alike -/
theorem rv_66 {S : rs_St} {P : Nat → Bool} {F : Nat → Int32} {p : Nat} (hp : p < 12) (h82 : ∀ q, q ≤ p → P q = true → rs_gi S 82 q = F q) (hpp : rs_gi S 82 p = F p) (K : Int32 → Int32 → Option (Int32 × rs_St)) : ∀ (d q fu : Nat), q + d = p + 1 → d < fu → xf_X4_mostAlike_l66 (nI (rv_mn2 P 12)) (nI p) S K fu (nI (rv_sm (fun q => if P q && decide (F q = F p) then 1 else 0) q)) (nI q) = K (nI (rv_sm (fun q => if P q && decide (F q = F p) then 1 else 0) (p + 1))) (nI (p + 1)) := by
  intro d
  induction d with
  | zero =>
    intro q fu hq hf
    obtain ⟨f, rfl⟩ : ∃ f, fu = f + 1 := ⟨fu - 1, by omega⟩
    rw [xf_X4_mostAlike_l66, rv_lt (by omega) (by omega), if_pos (by omega), show q = p + 1 by omega]
  | succ d ih =>
    intro q fu hq hf
    obtain ⟨f, rfl⟩ : ∃ f, fu = f + 1 := ⟨fu - 1, by omega⟩
    have ih' := ih (q + 1) f (by omega) (by omega)
    rw [rv_sm] at ih'
    rw [xf_X4_mostAlike_l66, rv_lt (by omega) (by omega), if_neg (by omega), rv_bt P (by omega)]
    simp (disch := omega) only [rs_jn, rs_lt, rv_ckn]
    rw [nI_clamp (by omega), nI_clamp (by omega), hpp, nI_1, nI_1]
    cases hP : P q with
    | false =>
      rw [hP, Bool.false_and, if_neg (show ¬ false = true by decide), Nat.add_zero] at ih'
      rw [if_neg (show ¬ false = true by decide), if_neg (show ¬ (0 : Int32) = 1 by decide)]
      exact ih'
    | true =>
      rw [hP, Bool.true_and] at ih'
      rw [if_pos rfl, if_pos rfl, h82 q (by omega) hP]
      by_cases e : F q = F p
      · rw [decide_eq_true e, if_pos rfl] at ih'
        rw [if_pos e]
        exact ih'
      · rw [decide_eq_false e, if_neg (by decide), Nat.add_zero] at ih'
        rw [if_neg e]
        exact ih'
def rv_cv (P : Nat → Bool) (F : Nat → Int32) (k : Nat) : Nat := rv_mx (fun p => if P p then rv_sm (fun q => if P q && decide (F q = F p) then 1 else 0) (p + 1) else 0) k
theorem rv_one_le {P : Nat → Bool} {F : Nat → Int32} {v : Int32} (n : Nat) : rv_sm (fun q => if P q && decide (F q = v) then 1 else 0) n ≤ n := by
  have := rv_sm_le (f := fun q => if P q && decide (F q = v) then 1 else 0) (c := 1) (n := n) (fun i _ => by (try dsimp only); split <;> omega)
  omega
theorem rv_cv_le (P : Nat → Bool) (F : Nat → Int32) {k : Nat} (hk : k ≤ 12) : rv_cv P F k ≤ 12 := rv_mx_le (fun p hp => by
  (try dsimp only)
  split
  · exact Nat.le_trans (rv_one_le _) (by omega)
  · omega)
set_option maxRecDepth 100000 in
theorem rv_ma_l {S : rs_St} {a : Nat → Nat} {l n r : Nat} {P : Nat → Bool} (w : rv_wf a) (ht : a 21 ≤ 99999) (hl : l < a 16) (hn : n ≤ 20) (hr : r < 8) (K : rs_St → Int32 → Int32 → Option (Int32 × rs_St)) : ∀ (d c fu : Nat) (S1 : rs_St), c + d = 12 → d < fu → rv_drf S S1 → (∃ v, v ≤ 11 ∧ rv_sc S1 19 (rv_up a (4 * l + 3) v) rv_uu) → (∀ q, q < c → P q = true → rs_gi S1 82 q = nI (rv_rw (rv_up a (4 * l + 3) q) rv_uu (rv_T a n) r)) → ∃ S2, xf_X4_mostAlike_l6 (nI l) (nI (rv_mn2 P 12)) (nI n) (nI r) K fu S1 (nI (rv_cv P (fun q => nI (rv_rw (rv_up a (4 * l + 3) q) rv_uu (rv_T a n) r)) c)) (nI c) = K S2 (nI (rv_cv P (fun q => nI (rv_rw (rv_up a (4 * l + 3) q) rv_uu (rv_T a n) r)) 12)) (nI 12) ∧ rv_drf S S2 ∧ ∃ v, v ≤ 11 ∧ rv_sc S2 19 (rv_up a (4 * l + 3) v) rv_uu := by
  have hc := w.1
  intro d
  induction d with
  | zero =>
    intro c fu S1 hcd hf hd hv h82
    obtain ⟨f, rfl⟩ : ∃ f, fu = f + 1 := ⟨fu - 1, by omega⟩
    obtain rfl : c = 12 := by omega
    refine ⟨S1, ?_, hd, hv⟩
    rw [xf_X4_mostAlike_l6, rv_12, rv_le (by omega) (by omega), if_pos (by omega)]
  | succ d ih =>
    intro c fu S1 hcd hf hd hv h82
    obtain ⟨f, rfl⟩ : ∃ f, fu = f + 1 := ⟨fu - 1, by omega⟩
    have hcv := rv_cv_le P (fun q => nI (rv_rw (rv_up a (4 * l + 3) q) rv_uu (rv_T a n) r)) (k := c) (by omega)
    have estep : rv_cv P (fun q => nI (rv_rw (rv_up a (4 * l + 3) q) rv_uu (rv_T a n) r)) (c + 1) = (if (if P c then rv_sm (fun q => if P q && decide (nI (rv_rw (rv_up a (4 * l + 3) q) rv_uu (rv_T a n) r) = nI (rv_rw (rv_up a (4 * l + 3) c) rv_uu (rv_T a n) r)) then 1 else 0) (c + 1) else 0) ≤ rv_cv P (fun q => nI (rv_rw (rv_up a (4 * l + 3) q) rv_uu (rv_T a n) r)) c then rv_cv P (fun q => nI (rv_rw (rv_up a (4 * l + 3) q) rv_uu (rv_T a n) r)) c else (if P c then rv_sm (fun q => if P q && decide (nI (rv_rw (rv_up a (4 * l + 3) q) rv_uu (rv_T a n) r) = nI (rv_rw (rv_up a (4 * l + 3) c) rv_uu (rv_T a n) r)) then 1 else 0) (c + 1) else 0)) := rfl
    rw [xf_X4_mostAlike_l6, rv_12, rv_le (by omega) (by omega), if_neg (by omega), rv_bt P (by omega)]
    simp only [rs_jn, rs_lt]
    cases hP : P c with
    | false =>
      rw [if_neg (show ¬ false = true by decide), if_pos rfl, nI_1]
      rw [hP, if_neg (show ¬ false = true by decide), if_pos (Nat.zero_le _)] at estep
      rw [← estep]
      exact ih (c + 1) f S1 (by omega) (by omega) hd hv (fun q hq hq2 => h82 q (by
        by_cases e : q = c
        · rw [e, hP] at hq2
          exact absurd hq2 (by decide)
        · omega) hq2)
    | true =>
      obtain ⟨v, v2, hv⟩ := hv
      obtain ⟨S3, e3, hs3, hb3⟩ := rv_scb (l := l) (p := 3) (v := c) hv (by rw [rv_up_n (by omega)]; exact hl) (rv_wfpart (p := 3) w (by omega) (by omega) (Nat.zero_le _) v2) (by omega) (Nat.zero_le _) (show c ≤ 11 by omega) rfl
      have e3' : xf_X0_become S1 ((19 + 1) + 6 + 3 * l) 3 (nI c) = some S3 := e3
      rw [rv_up_up] at hs3
      have hd3 : rv_drf S S3 := rv_drf_bc (by omega) hd hb3
      have wc := rv_wfpart (p := 3) (v := c) w (show l < 4 by omega) (by omega) (Nat.zero_le _) (show c ≤ 11 by omega)
      have eb : xf_X1_bright S3 19 (nI n) (nI r) = some (nI (rv_rw (rv_up a (4 * l + 3) c) rv_uu (rv_T a n) r)) := by
        rw [rv_cbright wc hs3 (by rw [rv_up_n (by omega)]; exact ht) (by omega) (by omega)]
        unfold rv_T
        rw [rv_up_n (by omega), rv_up_n (by omega)]
      have h1 := rv_one_le (P := P) (F := fun q => nI (rv_rw (rv_up a (4 * l + 3) q) rv_uu (rv_T a n) r)) (v := nI (rv_rw (rv_up a (4 * l + 3) c) rv_uu (rv_T a n) r)) (c + 1)
      rw [hP, if_pos rfl] at estep
      obtain ⟨S2, x1, x2⟩ := ih (c + 1) f (rs_si S3 82 c (nI (rv_rw (rv_up a (4 * l + 3) c) rv_uu (rv_T a n) r))) (by omega) (by omega) (rv_drf_si (by omega) hd3) ⟨c, by omega, by
        obtain ⟨c1, c2, c3, c4⟩ := hs3
        exact ⟨by rw [rv_gsn (by omega)]; exact c1, by rw [rv_gsn (by omega)]; exact c2, fun j hj => by rw [rv_gsn (by omega)]; exact c3 j hj, fun m hm => rv_lm_cg (fun k2 j z => rv_gsn (by rw [rv_up_n (by omega)] at hm; omega)) (fun _ _ => rfl) rfl (c4 m hm)⟩⟩ (fun q hq hq2 => by
        by_cases e : q = c
        · rw [e, rv_gss]
        · rw [rv_gsn (by omega), hb3.1 _ _ (by omega) (by omega)]
          exact h82 q (by omega) hq2)
      refine ⟨S2, ?_, x2⟩
      rw [if_pos rfl, if_neg (show ¬ (1 : Int32) = 0 by decide), rv_ckn (by omega) (by omega), nI_clamp (by omega), e3', rv_b1s, eb, rv_b1s, rv_ckn (by omega) (by omega), nI_clamp (by omega)]
      refine (rv_66 (S := rs_si S3 82 c (nI (rv_rw (rv_up a (4 * l + 3) c) rv_uu (rv_T a n) r))) (P := P) (F := fun q => nI (rv_rw (rv_up a (4 * l + 3) q) rv_uu (rv_T a n) r)) (p := c) (by omega) (fun q hq hq2 => by
        by_cases e : q = c
        · rw [e, rv_gss]
        · rw [rv_gsn (by omega), hb3.1 _ _ (by omega) (by omega)]
          exact h82 q (by omega) hq2) (rv_gss _ _ _ _) _ (c + 1) 0 rs_fu (by omega) (by unfold rs_fu; omega)).trans ?_
      rw [rv_lt (by omega) (by omega), rv_nite, rv_maxe, ← estep, nI_1]
      exact x1
theorem rv_mostAlike {S S1 : rs_St} {a : Nat → Nat} {l n r : Nat} {P : Nat → Bool} (w : rv_wf a) (ht : a 21 ≤ 99999) (hl : l < a 16) (hn : n ≤ 20) (hr : r < 8) (hd : rv_drf S S1) (hv : ∃ v, v ≤ 11 ∧ rv_sc S1 19 (rv_up a (4 * l + 3) v) rv_uu) : ∃ S2, xf_X4_mostAlike S1 (nI l) (nI (rv_mn2 P 12)) (nI n) (nI r) = some (nI (rv_cv P (fun q => nI (rv_rw (rv_up a (4 * l + 3) q) rv_uu (rv_T a n) r)) 12), S2) ∧ rv_drf S S2 ∧ ∃ v, v ≤ 11 ∧ rv_sc S2 19 (rv_up a (4 * l + 3) v) rv_uu :=
  rv_ma_l w ht hl hn hr (fun (S31 : rs_St) (x32 : Int32) (x33 : Int32) => some (x32, S31)) 12 0 rs_fu S1 (by omega) (by unfold rs_fu; omega) hd hv (fun q hq => by omega)
