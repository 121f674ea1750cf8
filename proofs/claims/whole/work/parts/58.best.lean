/-! the draft; best, kind, phase -/
theorem rv_up_up {a : Nat → Nat} {j v w : Nat} : rv_up (rv_up a j v) j w = rv_up a j w := by
  funext i
  simp only [rv_upe]
  by_cases h : i = j
  · rw [if_pos h, if_pos h]
  · rw [if_neg h, if_neg h, if_neg h]
theorem rv_up_id {a : Nat → Nat} {j : Nat} : rv_up a j (a j) = a := by
  funext i
  simp only [rv_upe]
  by_cases h : i = j
  · rw [if_pos h, h]
  · rw [if_neg h]
def rv_drf (S S1 : rs_St) : Prop := (∀ k j, ¬ (19 ≤ k ∧ k < 38) → k ≠ 82 → rs_gi S1 k j = rs_gi S k j) ∧ ∀ l, l < 4 → rs_gi S1 (19 + 1 + 6 + 3 * l + 2) 0 = 0
theorem rv_drf_inv {S S1 : rs_St} (hI : rv_Inv S) (h : rv_drf S S1) : rv_Inv S1 := by
  refine rv_Inv_cg (fun k j z => ?_) hI
  by_cases q : 19 ≤ k ∧ k < 38
  · obtain ⟨l, hl, rfl⟩ : ∃ l, l < 4 ∧ k = 19 + 1 + 6 + 3 * l + 2 := ⟨(k - 28) / 3, by unfold rv_rel at z; omega, by unfold rv_rel at z; omega⟩
    have hj : j = 0 := by unfold rv_rel at z; omega
    rw [hj, h.2 l hl, rv_zd hI.2.2.2.2.2.2 hl]
  · exact h.1 k j q (by unfold rv_rel at z; omega)
/-- a draft of the scene -/
theorem rv_draft {S : rs_St} {a : Nat → Nat} (hI : rv_Inv S) (hn : rv_now S a) : ∃ S1, xf_X1_copyFrom S 19 0 = some S1 ∧ rv_fsc S1 19 a ∧ rv_drf S S1 := by
  obtain ⟨S1, e, c1, c2, c3, c4⟩ := rv_copy (S := S) (A := 0) (B := 19) hn.1 (by omega) hn.2.2
  exact ⟨S1, e, c1, fun k j q _ => c2 k j (by omega), c4 (fun l hl => rv_zd hI.2.2.2.2.2.2 hl)⟩
theorem rv_drf_bc {S S1 S2 : rs_St} {l p v : Nat} (hl : l < 4) (h : rv_drf S S1) (hb : rv_bcP S1 (19 + 1 + 6 + 3 * l) p v S2) : rv_drf S S2 := by
  refine ⟨fun k j q q2 => (hb.1 k j (by omega) (by omega)).trans (h.1 k j q q2), fun m hm => ?_⟩
  by_cases q : m = l
  · rw [q, hb.2.2.2.1]
    exact h.2 l hl
  · rw [hb.1 _ _ (by omega) (by omega)]
    exact h.2 m hm
theorem rv_drf_si {S S1 : rs_St} {k j : Nat} {v : Int32} (hk : 19 ≤ k ∧ k < 26 ∨ k = 82) (h : rv_drf S S1) : rv_drf S (rs_si S1 k j v) :=
  ⟨fun k2 j2 q q2 => (rv_gsn (by omega)).trans (h.1 k2 j2 q q2), fun m hm => (rv_gsn (by omega)).trans (h.2 m hm)⟩
/-- the best so far -/
def rv_jf (F : Nat → Nat) : Nat → Nat → Int32 → Nat → Int32 × Nat
  | 0, _, co, mu => (co, mu)
  | d + 1, c, co, mu => if mu ≤ F c then rv_jf F d (c + 1) co mu else rv_jf F d (c + 1) (nI c) (F c)
theorem rv_jf_ne {F : Nat → Nat} : ∀ {d c : Nat} {co : Int32} {mu : Nat}, ¬ co = -4 → c + d < 2 ^ 31 → ¬ (rv_jf F d c co mu).1 = -4
  | 0, _, _, _, h, _ => h
  | d + 1, c, co, mu, h, hc => by
    rw [rv_jf]
    split
    · exact rv_jf_ne h (by omega)
    · exact rv_jf_ne (rv_neg4 (by omega)) (by omega)
theorem rv_jf_m {F : Nat → Nat} {d c m1 m2 : Nat} (h1 : F c < m1) (h2 : F c < m2) : rv_jf F (d + 1) c (-4) m1 = rv_jf F (d + 1) c (-4) m2 := by
  rw [rv_jf, rv_jf, if_neg (by omega), if_neg (by omega)]
theorem rv_jf_1 {F : Nat → Nat} {d c mu : Nat} (h : F c < mu) (hc : c + d + 1 < 2 ^ 31) : ¬ (rv_jf F (d + 1) c (-4) mu).1 = -4 := by
  rw [rv_jf, if_neg (by omega)]
  exact rv_jf_ne (rv_neg4 (by omega)) (by omega)
def rv_gb (a : Nat → Nat) (u : Nat → Bool) (N : Nat) : Nat := rv_mx (fun n => rv_bd a u (rv_T a n)) N
theorem rv_gb_le (a : Nat → Nat) (u : Nat → Bool) (N : Nat) : rv_gb a u N ≤ 255 := rv_mx_le (fun _ _ => rv_bd_le _ _ _)
/-! the reference judges -/
def rv_rfF (S S2 : rs_St) : Prop := ∀ k j, rv_rel k j ∨ k < 38 ∨ k = 92 → rs_gi S2 k j = rs_gi S k j
theorem rv_rfF_inv {S S2 : rs_St} (hI : rv_Inv S) (h : rv_rfF S S2) : rv_Inv S2 := rv_Inv_cg (fun k j z => h k j (by
  rcases z with z | z
  · omega
  · exact Or.inl z)) hI
theorem rv_judges {S : rs_St} {c v mu : Nat} {co : Int32} (h1 : rs_gi S 91 22 = co) (h2 : rs_gi S 91 23 = nI mu) (hv : v ≤ 1000000) (hm : mu ≤ 1000000) : ∃ S2, xf_X5_judges S (nI c) (nI v) = some S2 ∧ rs_gi S2 91 22 = (if mu ≤ v then co else nI c) ∧ rs_gi S2 91 23 = nI (if mu ≤ v then mu else v) ∧ ∀ k j, ¬ (k = 91 ∧ (j = 22 ∨ j = 23)) → rs_gi S2 k j = rs_gi S k j := by
  unfold xf_X5_judges
  rw [h2, rv_le (by omega) (by omega)]
  by_cases q : mu ≤ v
  · rw [if_pos q, if_pos q, if_pos q]
    exact ⟨S, rfl, h1, h2, fun _ _ _ => rfl⟩
  · rw [if_neg q, if_neg q, if_neg q]
    refine ⟨_, rfl, ?_, rv_gss _ _ _ _, fun k j hk => ?_⟩
    · rw [rv_gsn (by omega), rv_gss]
    · rw [rv_gsn (by omega), rv_gsn (by omega)]
/-- a fresh start with one number changed -/
theorem rv_go93 {S S2 : rs_St} {a : Nat → Nat} {u : Nat → Bool} {j v : Nat} (hs : rv_stP S S2) (ha : ∀ j, j < 51 → rs_gi S 92 j = nI (a j)) (hj : j < 51) : rv_goP (rs_si S2 93 j (nI v)) (rv_up a j v) u 0 (rs_si S2 93 j (nI v)) := by
  obtain ⟨h1, h2, h3, h4, h5, h6, h7, h8, h9, h10⟩ := hs
  refine ⟨⟨fun _ _ _ _ => rfl, rfl⟩, fun i hi => ?_, fun h => by omega, fun _ _ => rfl, fun h => by omega, ?_, ?_, ?_, ?_⟩
  · rw [rv_as_0, rv_gs, rv_upe]
    by_cases q : i = j
    · rw [if_pos ⟨rfl, q⟩, if_pos q]
    · rw [if_neg (fun z => q z.2), if_neg q, h3 i hi, ha i hi]
  · rw [rv_gsn (by omega)]
    exact h7
  · rw [rv_gsn (by omega)]
    exact h8
  · rw [rv_gsn (by omega)]
    exact h9
  · rw [rv_gsn (by omega)]
    exact h10
theorem rv_on93 {S S2 : rs_St} (h : rv_stP S S2) {j v : Nat} (a : Nat → Nat) {l : Nat} (hl : l < 4) : rv_on (rs_si S2 93 j (nI v)) a l = rv_uu l := by
  unfold rv_on
  rw [rv_gsn (by omega), rv_gsn (by omega), h.2.2.2.2.1, h.2.2.2.2.2.1]
  simp [rv_neg4 (n := l) (by omega), rv_uu]
theorem rv_rfF_go {S S2 S3 : rs_St} {a b : Nat → Nat} {u : Nat → Bool} {n j v : Nat} (h : rv_stP S S2) (g : rv_goP (rs_si S2 93 j (nI v)) b u n S3) : rv_rfF S S3 ∧ rs_gi S3 91 22 = rs_gi S 91 22 ∧ rs_gi S3 91 23 = rs_gi S 91 23 := by
  have h91 : ∀ i, i < 13 ∨ 19 < i → rs_gi S3 91 i = rs_gi S 91 i := fun i hi => by
    rw [g.2.2.2.1 i (by omega), rv_gsn (by omega)]
    exact h.2.2.2.1 i (by omega)
  refine ⟨fun k i z => ?_, h91 22 (by omega), h91 23 (by omega)⟩
  by_cases q : k = 91
  · rw [q]
    exact h91 i (by unfold rv_rel at z; omega)
  · exact (congrFun (g.1.1 k q (by unfold rv_rel at z; omega) (by unfold rv_rel at z; omega)) i).trans ((rv_gsn (by unfold rv_rel at z; omega)).trans (congrFun (h.1 k q (by unfold rv_rel at z; omega)) i))
theorem rv_bof_l {S : rs_St} {a : Nat → Nat} {j hi N : Nat} (hj : j < 51) (hj1 : j ≠ 21) (hN : N ≤ 41) (hh : hi ≤ 100) (ht : a 21 ≤ 99999) (hm : ∀ j, j < 51 → rs_gi S 92 j = nI (a j)) (K : rs_St → Int32 → Option (Int32 × rs_St)) : ∀ (d c fu : Nat) (S3 : rs_St) (co : Int32) (mu : Nat), c + d = hi + 1 → d < fu → (∀ x, c ≤ x → x ≤ hi → rv_wf (rv_up a j x)) → rv_rfF S S3 → rs_gi S3 91 22 = co → rs_gi S3 91 23 = nI mu → mu ≤ 1000000 → ∃ S4, xf_X5_bestOf_l9 (nI j) (nI hi) (nI N) K fu S3 (nI c) = K S4 (nI (hi + 1)) ∧ rv_rfF S S4 ∧ rs_gi S4 91 22 = (rv_jf (fun x => rv_gb (rv_up a j x) rv_uu N) d c co mu).1 ∧ rs_gi S4 91 23 = nI (rv_jf (fun x => rv_gb (rv_up a j x) rv_uu N) d c co mu).2 := by
  intro d
  induction d with
  | zero =>
    intro c fu S3 co mu hc hf hw hr h1 h2 hmu
    obtain ⟨f, rfl⟩ : ∃ f, fu = f + 1 := ⟨fu - 1, by omega⟩
    obtain rfl : c = hi + 1 := by omega
    refine ⟨S3, ?_, hr, h1, h2⟩
    rw [xf_X5_bestOf_l9, rv_lt (by omega) (by omega), if_pos (by omega)]
  | succ d ih =>
    intro c fu S3 co mu hc hf hw hr h1 h2 hmu
    obtain ⟨f, rfl⟩ : ∃ f, fu = f + 1 := ⟨fu - 1, by omega⟩
    have hm3 : ∀ j, j < 51 → rs_gi S3 92 j = nI (a j) := fun j hj => (hr 92 j (by omega)).trans (hm j hj)
    have wc := hw c (by omega) (by omega)
    obtain ⟨S7, e7, s7⟩ := rv_starts S3
    obtain ⟨S11, e11, g11⟩ := rv_shotsGo (n := N) (u := rv_uu) wc (fun l hl => rv_on93 s7 _ (by have := wc.1; omega)) hN (by rw [rv_up_n (by omega)]; exact ht) (rv_go93 (v := c) s7 hm3 hj)
    obtain ⟨r1, r2, r3⟩ := rv_rfF_go (a := a) s7 g11
    have hgb := rv_gb_le (rv_up a j c) rv_uu N
    obtain ⟨S13, e13, q1, q2, q3⟩ := rv_judges (S := S11) (c := c) (v := rv_gb (rv_up a j c) rv_uu N) (mu := mu) (co := co) (r2.trans h1) (r3.trans h2) (by omega) hmu
    have e15 : rs_gi S11 91 15 = nI (rv_gb (rv_up a j c) rv_uu N) := g11.2.2.2.2.2.1
    rw [xf_X5_bestOf_l9, rv_lt (by omega) (by omega), if_neg (by omega), e7, rv_b1s, rv_ckn hj (by omega), nI_clamp (by omega), rv_lts, e11, rv_b1s, e15, e13, rv_b1s, rv_lts, nI_1]
    have hr13 : rv_rfF S S13 := fun k i z => ((q3 k i (by unfold rv_rel at z; omega)).trans (r1 k i z)).trans (hr k i z)
    rw [rv_jf]
    by_cases q : mu ≤ rv_gb (rv_up a j c) rv_uu N
    · rw [if_pos q]
      rw [if_pos q] at q1 q2
      exact ih (c + 1) f S13 co mu (by omega) (by omega) (fun x x1 x2 => hw x (by omega) x2) hr13 q1 q2 hmu
    · rw [if_neg q]
      rw [if_neg q] at q1 q2
      exact ih (c + 1) f S13 (nI c) _ (by omega) (by omega) (fun x x1 x2 => hw x (by omega) x2) hr13 q1 q2 (by omega)
theorem rv_bestOf {S : rs_St} {a : Nat → Nat} {j lo hi N : Nat} (a5 : Int32) (hj : j < 51) (hj1 : j ≠ 21) (hN : N ≤ 41) (hl : lo ≤ hi) (hh : hi ≤ 100) (ht : a 21 ≤ 99999) (hm : ∀ j, j < 51 → rs_gi S 92 j = nI (a j)) (hw : ∀ x, lo ≤ x → x ≤ hi → rv_wf (rv_up a j x)) : ∃ S4, xf_X5_bestOf S (nI j) (nI lo) (nI hi) (nI N) a5 = some ((if a5 = 0 then (rv_jf (fun x => rv_gb (rv_up a j x) rv_uu N) (hi + 1 - lo) lo (-4) 256).1 else nI (rv_jf (fun x => rv_gb (rv_up a j x) rv_uu N) (hi + 1 - lo) lo (-4) 256).2), S4) ∧ rv_rfF S S4 := by
  have hgb := rv_gb_le (rv_up a j lo) rv_uu N
  unfold xf_X5_bestOf xf_X5_startsJudging
  simp only [rs_lt, rv_b1s]
  obtain ⟨S4, e4, r4, q1, q2⟩ := rv_bof_l (S := rs_si (rs_si S 91 22 (-4)) 91 23 1000000) hj hj1 hN hh ht (fun j hj => by rw [rv_gsn (by omega), rv_gsn (by omega)]; exact hm j hj) (fun (S15 : rs_St) (x16 : Int32) => rs_b1 (xf_X5_judged S15 a5) (fun r18 => some (r18, S15))) (hi + 1 - lo) lo rs_fu _ (-4) 1000000 (by omega) (by unfold rs_fu; omega) hw (fun _ _ _ => rfl) (by rw [rv_gsn (by omega), rv_gss]) (rv_gss _ _ _ _) (by omega)
  refine ⟨S4, ?_, fun k i z => ?_⟩
  · refine e4.trans ?_
    obtain ⟨d, hd⟩ : ∃ d, hi + 1 - lo = d + 1 := ⟨hi - lo, by omega⟩
    rw [hd, rv_jf_m (m1 := 1000000) (m2 := 256) (by omega) (by omega)] at q1 q2
    rw [hd]
    unfold xf_X5_judged
    rw [q1, q2, if_neg (rv_jf_1 (by omega) (by omega))]
    by_cases q : a5 = 0
    · rw [if_pos q, if_pos q]
      rfl
    · rw [if_neg q, if_neg q]
      rfl
  · rw [r4 k i z, rv_gsn (by unfold rv_rel at z; omega), rv_gsn (by unfold rv_rel at z; omega)]
/-! the class judges -/
theorem rv_best_l {S : rs_St} {a : Nat → Nat} {r N : Nat} (hr : r < 4) (w : rv_wf a) (ht : a 21 ≤ 99999) (hN : N ≤ 41) (K : rs_St → Int32 → Int32 → Int32 → Option (Int32 × rs_St)) : ∀ (d c fu : Nat) (S1 : rs_St) (co : Int32) (mu : Nat), c + d = rv_th r + 1 → d < fu → rv_tl r ≤ c → rv_drf S S1 → (∃ v, rv_sc S1 19 (rv_up a (17 + r) v) rv_uu) → mu ≤ 1000000 → ∃ S2 x, xf_X4_best_l57 (nI r) (nI N) K fu S1 co (nI mu) (nI c) = K S2 (rv_jf (fun x => rv_gb (rv_up a (17 + r) x) rv_uu N) d c co mu).1 (nI (rv_jf (fun x => rv_gb (rv_up a (17 + r) x) rv_uu N) d c co mu).2) x ∧ rv_drf S S2 := by
  have hth := @rv_th_le r
  have hc4 := w.1
  intro d
  induction d with
  | zero =>
    intro c fu S1 co mu hc hf hlo hd hs hmu
    obtain ⟨f, rfl⟩ : ∃ f, fu = f + 1 := ⟨fu - 1, by omega⟩
    refine ⟨S1, nI c, ?_, hd⟩
    rw [xf_X4_best_l57, rv_ckn hr (by omega), nI_clamp (by omega), (rv_sv4 hr).2.2.2, rv_lt (by omega) (by omega), if_pos (by omega)]
    rfl
  | succ d ih =>
    intro c fu S1 co mu hc hf hlo hd hs hmu
    obtain ⟨f, rfl⟩ : ∃ f, fu = f + 1 := ⟨fu - 1, by omega⟩
    obtain ⟨v, hs⟩ := hs
    have hs2 := rv_sct (p := r) (v := c) hs (by rw [rv_up_n (by omega)]; exact hc4) hr
    rw [rv_up_up] at hs2
    have wc := rv_wfrule (v := c) w hr hlo (by omega)
    have hgb := rv_gb_le (rv_up a (17 + r) c) rv_uu N
    have e23 : xf_X1_greatestBands (rs_si S1 (19 + 2) r (nI c)) 19 (nI N) = some (nI (rv_gb (rv_up a (17 + r) c) rv_uu N)) := rv_cgreat wc hs2 (by rw [rv_up_n (by omega)]; exact ht) hN
    rw [xf_X4_best_l57, rv_ckn hr (by omega), rv_ckn hr (by omega), nI_clamp (by omega), (rv_sv4 hr).2.2.2, rv_lt (by omega) (by omega), if_neg (by omega), rv_lts, e23, rv_b1s, nI_1]
    simp only [rs_jn, rs_lt]
    rw [rv_le (by omega) (by omega), rv_jf]
    have hd2 : rv_drf S (rs_si S1 (19 + 2) r (nI c)) := rv_drf_si (by omega) hd
    by_cases q : mu ≤ rv_gb (rv_up a (17 + r) c) rv_uu N
    · rw [if_pos q, if_pos q]
      exact ih (c + 1) f _ co mu (by omega) (by omega) (by omega) hd2 ⟨c, hs2⟩ hmu
    · rw [if_neg q, if_neg q]
      exact ih (c + 1) f _ (nI c) _ (by omega) (by omega) (by omega) hd2 ⟨c, hs2⟩ (by omega)
theorem rv_256 : (256 : Int32) = nI 256 := rfl
theorem rv_best : pt_best rv_Inv := by
  intro S a1 a2 a3 hI
  obtain ⟨⟨a, hn⟩, -⟩ := id hI
  obtain ⟨w, hm, hf⟩ := id hn
  have ht := w.2.1
  unfold xf_X4_best xf_X5_best
  rw [rv_out, rv_b1s, rv_o0, rv_out, rv_b1s, rv_o0, rv_out, rv_b1s, rv_o0]
  by_cases hx : (1 : Int32) ≤ a1 ∧ a1 ≤ 3
  · rw [if_pos hx]
    have r0 : ∀ S : rs_St, xf_X5_in S a1.toInt64 1 3 = some 1 := fun S => by
      rw [show xf_X5_in S a1.toInt64 1 3 = _ from rv_in _ a1 1 3]
      exact congrArg some (if_pos hx)
    by_cases hy : (0 : Int32) ≤ a2 ∧ a2 ≤ 40
    · rw [if_pos hy]
      have r1 : ∀ S : rs_St, xf_X5_isFar S a2 = some 1 := fun S => by
        rw [rv_isFar]
        exact congrArg some (if_pos hy)
      by_cases hz : (0 : Int32) ≤ a3 ∧ a3 ≤ 1
      · rw [if_pos hz]
        have r2 : ∀ S : rs_St, xf_X5_isPart S a3 = some 1 := fun S => by
          rw [rv_isPt]
          exact congrArg some (if_pos hz)
        obtain ⟨r, hr1, hr, rfl⟩ := rv_ins (lo := 1) (hi := 3) (by omega) hx (by omega)
        obtain ⟨N, -, hN, rfl⟩ := rv_ins (lo := 0) (hi := 40) (by omega) hy (by omega)
        obtain ⟨S1, e1, c1, d1⟩ := rv_draft hI hn
        have hth := @rv_th_le r
        have htl := @rv_tl_le r
        have hlh : rv_tl r ≤ rv_th r := by
          rcases (show r = 1 ∨ r = 2 ∨ r = 3 by omega) with rfl | rfl | rfl <;> decide
        obtain ⟨S2, x, e2, d2⟩ := rv_best_l (S := S) (a := a) (r := r) (N := N) (by omega) w.1 ht (by omega) (fun (S29 : rs_St) (x30 : Int32) (x31 : Int32) (x32 : Int32) => if a3 = 0 then some (x30, S29) else some (x31, S29)) (rv_th r + 1 - rv_tl r) (rv_tl r) rs_fu S1 (-4) 256 (by omega) (by unfold rs_fu; omega) (by omega) d1 ⟨a (17 + r), by rw [rv_up_id]; exact c1.1⟩ (by omega)
        obtain ⟨S4, e4, f4⟩ := rv_bestOf (S := S2) (a := a) (j := 17 + r) (lo := rv_tl r) (hi := rv_th r) (N := N) a3 (by omega) (by omega) (by omega) hlh (by omega) ht (fun j hj => by rw [d2.1 _ _ (by omega) (by omega)]; exact hm j hj) (fun x x1 x2 => rv_wfrule w.1 (by omega) x1 x2)
        refine ⟨if a3 = 0 then (rv_jf (fun x => rv_gb (rv_up a (17 + r) x) rv_uu N) (rv_th r + 1 - rv_tl r) (rv_tl r) (-4) 256).1 else nI (rv_jf (fun x => rv_gb (rv_up a (17 + r) x) rv_uu N) (rv_th r + 1 - rv_tl r) (rv_tl r) (-4) 256).2, S2, S4, ?_, ?_, rv_rfF_inv (rv_drf_inv hI d2) f4⟩
        · rw [e1, rv_b1s, rv_ckn (by omega) (by omega), nI_clamp (by omega), (rv_sv4 (show r < 4 by omega)).2.2.1, rv_lts]
          refine e2.trans ?_
          exact (apply_ite (fun y => some (y, S2)) (a3 = 0) _ _).symm
        · rw [r0, rv_b1s, if_neg (by decide), r1, rv_b1s, if_neg (by decide), r2, rv_b1s, if_neg (by decide), rv_lowTold _ (by omega), rv_b1s, rv_mostTold _ (by omega), rv_b1s, rv_17, nI_add, e4, rv_b2s]
      · rw [if_neg hz]
        refine ⟨_, _, _, rfl, ?_, hI⟩
        rw [r0, rv_b1s, if_neg (by decide), r1, rv_b1s, if_neg (by decide), rv_isPt, rv_b1s, rv_i0, if_neg hz]
    · rw [if_neg hy]
      refine ⟨_, _, _, rfl, ?_, hI⟩
      rw [r0, rv_b1s, if_neg (by decide), rv_isFar, rv_b1s, rv_i0, if_neg hy]
  · rw [if_neg hx]
    refine ⟨_, _, _, rfl, ?_, hI⟩
    rw [show xf_X5_in S a1.toInt64 1 3 = _ from rv_in _ a1 1 3, rv_b1s, rv_i0, if_neg hx]
theorem rv_bp_l {S : rs_St} {a : Nat → Nat} {l p N : Nat} (hl : l < a 16) (hp : p < 4) (w : rv_wf a) (ht : a 21 ≤ 99999) (hN : N ≤ 41) (K : rs_St → Int32 → Int32 → Int32 → Option (Int32 × rs_St)) : ∀ (d c fu : Nat) (S1 : rs_St) (co : Int32) (mu : Nat), c + d = rv_ph p + 1 → d < fu → rv_pl p ≤ c → rv_drf S S1 → (∃ v, rv_pl p ≤ v ∧ v ≤ rv_ph p ∧ rv_sc S1 19 (rv_up a (4 * l + p) v) rv_uu) → mu ≤ 1000000 → ∃ S2 x, xf_X4_bestPart_l60 (nI l) (nI p) (nI N) K fu S1 co (nI mu) (nI c) = K S2 (rv_jf (fun x => rv_gb (rv_up a (4 * l + p) x) rv_uu N) d c co mu).1 (nI (rv_jf (fun x => rv_gb (rv_up a (4 * l + p) x) rv_uu N) d c co mu).2) x ∧ rv_drf S S2 := by
  have hth := @rv_ph_le p
  have hc4 := w.1
  intro d
  induction d with
  | zero =>
    intro c fu S1 co mu hc hf hlo hd hs hmu
    obtain ⟨f, rfl⟩ : ∃ f, fu = f + 1 := ⟨fu - 1, by omega⟩
    refine ⟨S1, nI c, ?_, hd⟩
    rw [xf_X4_bestPart_l60, rv_ckn hp (by omega), nI_clamp (by omega), (rv_sv4 hp).2.1, rv_lt (by omega) (by omega), if_pos (by omega)]
    rfl
  | succ d ih =>
    intro c fu S1 co mu hc hf hlo hd hs hmu
    obtain ⟨f, rfl⟩ : ∃ f, fu = f + 1 := ⟨fu - 1, by omega⟩
    obtain ⟨v, v1, v2, hs⟩ := hs
    obtain ⟨S3, e3, hs3, hb3⟩ := rv_scb (l := l) (p := p) (v := c) hs (by rw [rv_up_n (by omega)]; exact hl) (rv_wfpart w (by omega) hp v1 v2) hp hlo (by omega) rfl
    rw [rv_up_up] at hs3
    have wc := rv_wfpart (v := c) w (show l < 4 by omega) hp hlo (by omega)
    have hgb := rv_gb_le (rv_up a (4 * l + p) c) rv_uu N
    have e23 : xf_X1_greatestBands S3 19 (nI N) = some (nI (rv_gb (rv_up a (4 * l + p) c) rv_uu N)) := rv_cgreat wc hs3 (by rw [rv_up_n (by omega)]; exact ht) hN
    rw [xf_X4_bestPart_l60, rv_ckn hp (by omega), nI_clamp (by omega), (rv_sv4 hp).2.1, rv_lt (by omega) (by omega), if_neg (by omega), rv_ckn (by omega) (by omega), nI_clamp (by omega), e3, rv_b1s, e23, rv_b1s, nI_1]
    simp only [rs_jn, rs_lt]
    rw [rv_le (by omega) (by omega), rv_jf]
    have hd2 : rv_drf S S3 := rv_drf_bc (by omega) hd hb3
    by_cases q : mu ≤ rv_gb (rv_up a (4 * l + p) c) rv_uu N
    · rw [if_pos q, if_pos q]
      exact ih (c + 1) f _ co mu (by omega) (by omega) (by omega) hd2 ⟨c, hlo, by omega, hs3⟩ hmu
    · rw [if_neg q, if_neg q]
      exact ih (c + 1) f _ (nI c) _ (by omega) (by omega) (by omega) hd2 ⟨c, hlo, by omega, hs3⟩ (by omega)
theorem rv_prt {a : Nat → Nat} {l p : Nat} (w : rv_wf a) (hl : l < a 16) (hp : p < 4) : rv_pl p ≤ a (4 * l + p) ∧ a (4 * l + p) ≤ rv_ph p := by
  obtain ⟨h1, h2, h3, h4, h5, h6⟩ := w.2.1 l hl
  rcases (show p = 0 ∨ p = 1 ∨ p = 2 ∨ p = 3 by omega) with rfl | rfl | rfl | rfl
  · exact ⟨Nat.zero_le _, h1⟩
  · exact ⟨h2, h3⟩
  · exact ⟨h4, h5⟩
  · exact ⟨Nat.zero_le _, h6⟩
theorem rv_bpart {S : rs_St} {a1 a2 a3 : Int32} (hI : rv_Inv S) {p : Nat} (hp : p < 4) (hp0 : rv_pl p = 0) : ∃ (r : Int32) (S1 S2 : rs_St), xf_X4_bestPart S a1 (nI p) a2 a3 = some (r, S1) ∧ rs_b1 (xf_X5_isLamp S1 a1) (fun r2 => if r2 = 0 then some ((-1), S1) else rs_b1 (xf_X5_isFar S1 a2) (fun r5 => if r5 = 0 then some ((-1), S1) else rs_b1 (xf_X5_isPart S1 a3) (fun r8 => if r8 = 0 then some ((-1), S1) else rs_b2 (xf_X5_bestOf S1 ((4 * a1) + nI p) 0 (nI (rv_ph p)) a2 a3) (fun r12 S11 => some (r12, S11))))) = some (r, S2) ∧ rv_Inv S2 := by
  obtain ⟨⟨a, hn⟩, -⟩ := id hI
  obtain ⟨w, hm, hf⟩ := id hn
  have ht := w.2.1
  have hc := w.1.1
  have hm16 := hm 16 (by omega)
  unfold xf_X4_bestPart
  rcases rv_lampd a1 (a 16) hc with ⟨l, hl, rfl⟩ | hx
  · rw [rv_lampAt hf.1.1 hc hl, rv_b1s]
    simp only [rs_om]
    rw [if_pos (rv_kd0 (by omega)), rv_out, rv_b1s, rv_o0, rv_out, rv_b1s, rv_o0]
    by_cases hy : (0 : Int32) ≤ a2 ∧ a2 ≤ 40
    · rw [if_pos hy]
      by_cases hz : (0 : Int32) ≤ a3 ∧ a3 ≤ 1
      · rw [if_pos hz]
        obtain ⟨N, -, hN, rfl⟩ := rv_ins (lo := 0) (hi := 40) (by omega) hy (by omega)
        obtain ⟨S1, e1, c1, d1⟩ := rv_draft hI hn
        have hth := @rv_ph_le p
        obtain ⟨pr1, pr2⟩ := rv_prt w.1 hl hp
        obtain ⟨S2, x, e2, d2⟩ := rv_bp_l (S := S) (a := a) (l := l) (p := p) (N := N) hl hp w.1 ht (by omega) (fun (S31 : rs_St) (x32 : Int32) (x33 : Int32) (x34 : Int32) => if a3 = 0 then some (x32, S31) else some (x33, S31)) (rv_ph p + 1 - 0) 0 rs_fu S1 (-4) 256 (by omega) (by unfold rs_fu; omega) (by omega) d1 ⟨a (4 * l + p), pr1, pr2, by rw [rv_up_id]; exact c1.1⟩ (by omega)
        obtain ⟨S4, e4, f4⟩ := rv_bestOf (S := S2) (a := a) (j := 4 * l + p) (lo := 0) (hi := rv_ph p) (N := N) a3 (by omega) (by omega) (by omega) (by omega) (by omega) ht (fun j hj => by rw [d2.1 _ _ (by omega) (by omega)]; exact hm j hj) (fun x x1 x2 => rv_wfpart w.1 (by omega) hp (by omega) x2)
        have e4' : xf_X5_bestOf S2 (nI (4 * l + p)) 0 (nI (rv_ph p)) (nI N) a3 = _ := e4
        refine ⟨if a3 = 0 then (rv_jf (fun x => rv_gb (rv_up a (4 * l + p) x) rv_uu N) (rv_ph p + 1 - 0) 0 (-4) 256).1 else nI (rv_jf (fun x => rv_gb (rv_up a (4 * l + p) x) rv_uu N) (rv_ph p + 1 - 0) 0 (-4) 256).2, S2, S4, ?_, ?_, rv_rfF_inv (rv_drf_inv hI d2) f4⟩
        · rw [e1, rv_b1s, rv_ckn hp (by omega), nI_clamp (by omega), (rv_sv4 hp).1, rv_lts, hp0]
          refine e2.trans ?_
          exact (apply_ite (fun y => some (y, S2)) (a3 = 0) _ _).symm
        · rw [rv_isLamp (c := a 16) (by rw [d2.1 _ _ (by omega) (by omega)]; exact hm16) hc hl, rv_b1s, if_neg (by decide), rv_isFar, rv_b1s, rv_i0, if_pos hy, rv_isPt, rv_b1s, rv_i0, if_pos hz, rv_4, pk_mul, nI_add, e4', rv_b2s]
          rfl
      · rw [if_neg hz]
        refine ⟨_, _, _, rfl, ?_, hI⟩
        rw [rv_isLamp hm16 hc hl, rv_b1s, if_neg (by decide), rv_isFar, rv_b1s, rv_i0, if_pos hy, rv_isPt, rv_b1s, rv_i0, if_neg hz]
    · rw [if_neg hy]
      refine ⟨_, _, _, rfl, ?_, hI⟩
      rw [rv_isLamp hm16 hc hl, rv_b1s, if_neg (by decide), rv_isFar, rv_b1s, rv_i0, if_neg hy]
  · rw [rv_lampAt0 hf.1.1 hx, rv_b1s]
    refine ⟨_, _, _, rfl, ?_, hI⟩
    rw [rv_isLamp0 hm16 hc hx, rv_b1s, if_pos rfl]
theorem rv_kind : pt_kind rv_Inv := by
  intro S a1 a2 a3 hI
  obtain ⟨r, S1, S2, e1, e2, i2⟩ := rv_bpart (a1 := a1) (a2 := a2) (a3 := a3) hI (p := 0) (by omega) rfl
  refine ⟨r, S1, S2, ?_, e2, i2⟩
  unfold xf_X4_kind
  rw [show xf_X4_bestPart S a1 0 a2 a3 = some (r, S1) from e1, rv_b2s]
theorem rv_phase : pt_phase rv_Inv := by
  intro S a1 a2 a3 hI
  obtain ⟨r, S1, S2, e1, e2, i2⟩ := rv_bpart (a1 := a1) (a2 := a2) (a3 := a3) hI (p := 3) (by omega) rfl
  refine ⟨r, S1, S2, ?_, e2, i2⟩
  unfold xf_X4_phase
  rw [show xf_X4_bestPart S a1 3 a2 a3 = some (r, S1) from e1, rv_b2s]
