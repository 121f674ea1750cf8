/-! lamps that fail -/
def rv_fm (a : Nat → Nat) (x : Bool) (l : Nat) : Bool := !x || decide (a (4 * l) = 0)
theorem rv_dsl {S : rs_St} {a : Nat → Nat} (w : rv_wf a) : ∀ (d l fu : Nat) (S1 : rs_St), l + d = a 16 → d < fu → rv_drf S S1 → rv_sc S1 19 a (fun m => decide (l ≤ m) || decide (a (4 * m) = 0)) → ∃ S2, xf_X4_draftSteadyLamps_l13 (fun (S14 : rs_St) (x15 : Int32) => some S14) fu S1 (nI l) = some S2 ∧ rv_drf S S2 ∧ rv_sc S2 19 a (fun m => decide (a 16 ≤ m) || decide (a (4 * m) = 0)) := by
  have hc := w.1
  intro d
  induction d with
  | zero =>
    intro l fu S1 hl hf hd hs
    obtain ⟨f, rfl⟩ : ∃ f, fu = f + 1 := ⟨fu - 1, by omega⟩
    obtain rfl : l = a 16 := by omega
    refine ⟨S1, ?_, hd, hs⟩
    rw [xf_X4_draftSteadyLamps_l13, hs.1, rv_le (by omega) (by omega), if_pos (by omega)]
  | succ d ih =>
    intro l fu S1 hl hf hd hs
    obtain ⟨f, rfl⟩ : ∃ f, fu = f + 1 := ⟨fu - 1, by omega⟩
    have hk := (w.2.1 l (by omega)).1
    have h0 : rs_gi S1 (19 + 1 + 6 + 3 * l + 1) 0 = nI (a (4 * l)) := (hs.2.2.2 l (by omega)).1 0 (by omega)
    rw [xf_X4_draftSteadyLamps_l13, hs.1, rv_le (by omega) (by omega), if_neg (by omega), rv_ckn (by omega) (by omega), nI_clamp (by omega), h0]
    simp only [rs_jn, rs_lt]
    rw [rv_eq0 (by omega), nI_1]
    by_cases q : a (4 * l) = 0
    · rw [if_pos q]
      refine ih (l + 1) f S1 (by omega) (by omega) hd (rv_sc_mask (fun m hm => ?_) hs)
      by_cases e : m = l
      · rw [e, decide_eq_true q, Bool.or_true, Bool.or_true]
      · exact congrArg (fun z => z || decide (a (4 * m) = 0)) (decide_eq_decide.mpr (by omega))
    · obtain ⟨S2, e2, s2, g2, -, z2⟩ := rv_putOut w (show l < a 16 by omega) hs
      rw [if_neg q, rv_ckm (by omega) (by omega), e2, rv_b1s]
      refine ih (l + 1) f S2 (by omega) (by omega) ⟨fun k j k1 k2 => (g2 k j (by omega)).trans (hd.1 k j k1 k2), fun m hm => ?_⟩ (rv_sc_mask (fun m hm => ?_) s2)
      · by_cases e : m = l
        · rw [e]
          exact z2
        · rw [g2 _ _ (by omega)]
          exact hd.2 m hm
      · unfold rv_mk
        by_cases e : m = l
        · rw [e, decide_eq_false q, decide_eq_false (show ¬ l + 1 ≤ l by omega), decide_eq_false (show ¬ l ≠ l from fun z => z rfl), Bool.and_false]
          rfl
        · rw [decide_eq_true (show m ≠ l from e), Bool.and_true]
          exact congrArg (fun z => z || decide (a (4 * m) = 0)) (decide_eq_decide.mpr (by omega))
theorem rv_dSteady {S : rs_St} {a : Nat → Nat} (hI : rv_Inv S) (hn : rv_now S a) : ∃ S2, xf_X4_draftSteadyLamps S = some S2 ∧ rv_drf S S2 ∧ rv_sc S2 19 a (rv_fm a true) ∧ rv_sc S2 0 a rv_uu := by
  have w := hn.1.1
  have hc := w.1
  obtain ⟨S1, e1, c1, d1⟩ := rv_draft hI hn
  obtain ⟨S2, e2, d2, s2⟩ := rv_dsl (S := S) w (a 16) 0 rs_fu S1 (by omega) (by unfold rs_fu; omega) d1 (rv_sc_mask (fun m hm => by rw [decide_eq_true (Nat.zero_le m)]; rfl) c1.1)
  refine ⟨S2, ?_, d2, rv_sc_mask (fun m hm => ?_) s2, (rv_now_cg (fun k j z => d2.1 k j (by omega) (by omega)) hn).2.2.1⟩
  · unfold xf_X4_draftSteadyLamps
    rw [e1, rv_b1s]
    exact e2
  · rw [decide_eq_false (show ¬ a 16 ≤ m by omega)]
    rfl
def rv_lf (a : Nat → Nat) (v b k : Nat) : Nat := (if rv_bd a rv_uu (rv_T a k) ≤ b then 10 - v else 0) + (if rv_bd a (rv_fm a true) (rv_T a k) ≤ b then v else 0)
theorem rv_lk {S : rs_St} {a : Nat → Nat} (w : rv_wf a) (ht : a 21 ≤ 99999) (s0 : rv_sc S 0 a rv_uu) (s1 : rv_sc S 19 a (rv_fm a true)) {v n b : Nat} (hv : v ≤ 10) (hn : n ≤ 8) (hb : b ≤ 255) (K : Int64 → Int64 → Int32 → Option (Int64 × rs_St)) : ∀ (d i fu : Nat), i + d = n → d < fu → xf_X4_luck_l58 (nI v) (nI n) (nI b) S K fu (lN (rv_pd (rv_lf a v b) i)) (lN (10 ^ i)) (nI i) = K (lN (rv_pd (rv_lf a v b) n)) (lN (10 ^ n)) (nI n) := by
  intro d
  induction d with
  | zero =>
    intro i fu hi hf
    obtain ⟨f, rfl⟩ : ∃ f, fu = f + 1 := ⟨fu - 1, by omega⟩
    rw [xf_X4_luck_l58, rv_le (by omega) (by omega), if_pos (by omega), show i = n by omega]
  | succ d ih =>
    intro i fu hi hf
    obtain ⟨f, rfl⟩ : ∃ f, fu = f + 1 := ⟨fu - 1, by omega⟩
    have b0 := rv_bd_le a rv_uu (rv_T a i)
    have b1 := rv_bd_le a (rv_fm a true) (rv_T a i)
    have ih' := ih (i + 1) f (by omega) (by omega)
    have fin : ∀ x y : Nat, x + y = rv_lf a v b i → x + y ≤ 20 → xf_X4_luck_l58 (nI v) (nI n) (nI b) S K f (lN (rv_pd (rv_lf a v b) i) * (nI x + nI y).toInt64) (lN (10 ^ i) * 10) (nI i + 1) = K (lN (rv_pd (rv_lf a v b) n)) (lN (10 ^ n)) (nI n) := fun x y h hle => by
      rw [nI_add, nI_l (by omega), lN_mul, h, rv_l10, lN_mul, nI_1]
      exact ih'
    rw [xf_X4_luck_l58, rv_le (by omega) (by omega), if_neg (by omega), rv_cbands w s0 ht (by omega), rv_b1s, rv_cbands w s1 ht (by omega)]
    simp only [rs_jn, rs_lt, rv_b1s]
    rw [rv_lt (by omega) (by omega), rv_lt (by omega) (by omega), rv_lt (by omega) (by omega), rv_10, pk_sub hv]
    by_cases q0 : b < rv_bd a rv_uu (rv_T a i)
    · rw [if_pos q0]
      by_cases q1 : b < rv_bd a (rv_fm a true) (rv_T a i)
      · rw [if_pos q1]
        exact fin 0 0 (by unfold rv_lf; rw [if_neg (by omega), if_neg (by omega)]) (by omega)
      · rw [if_neg q1]
        exact fin 0 v (by unfold rv_lf; rw [if_neg (by omega), if_pos (by omega)]) (by omega)
    · rw [if_neg q0]
      by_cases q1 : b < rv_bd a (rv_fm a true) (rv_T a i)
      · rw [if_pos q1]
        exact fin (10 - v) 0 (by unfold rv_lf; rw [if_pos (by omega), if_neg (by omega)]) (by omega)
      · rw [if_neg q1]
        exact fin (10 - v) v (by unfold rv_lf; rw [if_pos (by omega), if_pos (by omega)]) (by omega)
/-! the reference: all sets of shots -/
theorem rv_btn {m c : Nat} (hm : m < 4096) (hc : c < 12) : (nI m >>> (nI c &&& 31)) &&& 1 = if rv_bi m c then 1 else 0 := by
  apply Int32.toBitVec_inj.1
  rw [rv_btc _ hc, rv_bt0 hm]
  unfold rv_bi
  rcases (show m / 2 ^ c % 2 = 0 ∨ m / 2 ^ c % 2 = 1 by omega) with h | h
  · rw [h]
    rfl
  · rw [h]
    rfl
def rv_oB (a : Nat → Nat) (k : Nat) (x : Bool) : Nat := rv_bd a (rv_fm a x) (rv_T a k)
def rv_oL (a : Nat → Nat) (k : Nat) (x : Bool) : Nat := rv_ls a (rv_fm a x) (rv_T a k)
theorem rv_63 {S : rs_St} {a : Nat → Nat} {v n m : Nat} (w : rv_wf a) (ht : a 21 ≤ 99999) (hv : v ≤ 10) (hn : n ≤ 8) (hm : m < 256) (K : rs_St → Int64 → Int32 → Option rs_St) : ∀ (d i fu : Nat) (S1 : rs_St), i + d = n → d < fu → rv_rfF S S1 → S1.2 = S.2 → rs_gi S1 91 13 = -4 → rs_gi S1 91 15 = nI (rv_mx (fun k => rv_oB a k (rv_bi m k)) i) → rs_gi S1 91 17 = nI (rv_sm (fun k => rv_oL a k (rv_bi m k)) i) → (∃ b, rv_nw S1 b ∧ (∀ j, j < 21 → b j = a j) ∧ b 21 = rv_T a i) → ∃ S2, xf_X5_findOdds_l63 (nI v) (nI n) (nI m) K fu S1 (lN (rv_pd (fun k => if rv_bi m k then v else 10 - v) i)) (nI i) = K S2 (lN (rv_pd (fun k => if rv_bi m k then v else 10 - v) n)) (nI n) ∧ rv_rfF S S2 ∧ S2.2 = S.2 ∧ rs_gi S2 91 15 = nI (rv_mx (fun k => rv_oB a k (rv_bi m k)) n) ∧ rs_gi S2 91 17 = nI (rv_sm (fun k => rv_oL a k (rv_bi m k)) n) := by
  have hc := w.1
  have hp := w.2.2.2.2.2
  intro d
  induction d with
  | zero =>
    intro i fu S1 hi hf hr h2 h13 h15 h17 hb
    obtain ⟨f, rfl⟩ : ∃ f, fu = f + 1 := ⟨fu - 1, by omega⟩
    obtain rfl : i = n := by omega
    refine ⟨S1, ?_, hr, h2, h15, h17⟩
    rw [xf_X5_findOdds_l63, rv_le (by omega) (by omega), if_pos (by omega)]
  | succ d ih =>
    intro i fu S1 hi hf hr h2 h13 h15 h17 hb
    obtain ⟨f, rfl⟩ : ∃ f, fu = f + 1 := ⟨fu - 1, by omega⟩
    obtain ⟨b, b1, b2, b3⟩ := hb
    have hmul : i * a 20 ≤ 8 * 60 := Nat.mul_le_mul (by omega) hp.2
    have eT : rv_T a i = a 21 + i * a 20 := rfl
    have wb : rv_wf b := rv_wf_cg b2 w
    have e16 : b 16 = a 16 := b2 16 (by omega)
    have nw : rv_nw (rs_si S1 91 14 (if rv_bi m i then 1 else 0)) b := fun j hj => by
      rw [rv_gsn (by omega)]
      exact b1 j hj
    obtain ⟨S20, e20, p1, p2, p3, p4, p5, p6, p7, p8, p9⟩ := rv_shotGoes (u := rv_fm a (rv_bi m i)) nw wb (by rw [b3]; omega) (fun l hl => by
      unfold rv_on rv_fm
      rw [rv_gsn (by omega), rv_gss, h13, b2 (4 * l) (by omega)]
      rw [decide_eq_true (rv_neg4 (n := l) (by omega)), Bool.true_and]
      cases rv_bi m i <;> rfl)
    have ebd : rv_bd b (rv_fm a (rv_bi m i)) (rv_T a i) = rv_oB a i (rv_bi m i) := rv_bd_cg hc b2 (fun _ _ => rfl) _
    have els : rv_ls b (rv_fm a (rv_bi m i)) (rv_T a i) = rv_oL a i (rv_bi m i) := rv_ls_cg hc b2 (fun _ _ => rfl) _
    rw [b3, ebd, rv_gsn (by omega), h15] at p6
    rw [b3, els, rv_gsn (by omega), h17, nI_add] at p8
    have hbl : ∀ k, rv_oB a k (rv_bi m k) ≤ 255 := fun k => rv_bd_le _ _ _
    have hmx : rv_mx (fun k => rv_oB a k (rv_bi m k)) i ≤ 255 := rv_mx_le (fun j _ => hbl j)
    have hbi := hbl i
    rw [rv_le (by omega) (by omega), rv_nite] at p6
    have h20 : b 20 = a 20 := b2 20 (by omega)
    obtain ⟨S2, y1, y2⟩ := ih (i + 1) f S20 (by omega) (by omega) (fun k j z => by
      by_cases q : k = 91
      · rw [q, p4 j (by unfold rv_rel at z; omega), rv_gsn (by unfold rv_rel at z; omega), ← q]
        exact hr k j z
      · exact (congrFun (p1.1 k q (by unfold rv_rel at z; omega) (by unfold rv_rel at z; omega)) j).trans ((rv_gsn (by unfold rv_rel at z; omega)).trans (hr k j z))) (p1.2.trans h2) (by
      rw [p4 13 (by omega), rv_gsn (by omega)]
      exact h13) p6 p8 ⟨rv_nx b (rv_fm a (rv_bi m i)), p2, fun j hj => by
      unfold rv_nx
      rw [if_neg (by omega), if_neg (by omega), if_neg (by omega), if_neg (by omega)]
      exact b2 j hj, by
      unfold rv_nx
      rw [if_pos rfl, b3, h20]
      unfold rv_T
      rw [Nat.succ_mul]
      omega⟩
    refine ⟨S2, ?_, y2⟩
    rw [xf_X5_findOdds_l63, rv_le (by omega) (by omega), if_neg (by omega), rv_btn (by omega) (by omega)]
    simp only [rs_jn, rs_lt]
    rw [rv_pd] at y1
    cases hx : rv_bi m i with
    | true =>
      rw [hx, if_pos rfl] at e20 y1
      rw [if_pos rfl, if_pos rfl, if_pos (show (1 : Int32) = 0 ∨ True from Or.inr trivial), rv_gss, if_neg (show ¬ (1 : Int32) = 0 by decide), nI_l (by omega), lN_mul, e20, rv_b1s, nI_1]
      exact y1
    | false =>
      rw [hx, if_neg (show ¬ false = true by decide)] at e20 y1
      rw [if_neg (show ¬ false = true by decide), if_neg (show ¬ (0 : Int32) = 1 by decide), if_pos (show True ∨ (0 : Int32) = 1 from Or.inl trivial), rv_gss, if_pos rfl, rv_10, pk_sub hv, nI_l (by omega), lN_mul, e20, rv_b1s, nI_1]
      exact y1
