/-! the class: names, numbers, lines -/
def tq_len (k : Nat) : Nat := rs_tl.getD k 0
def tq_ch (k i : Nat) : Nat := ((rs_tv.getD k []).getD i 0).toNatClampNeg
theorem tq_len6 : ∀ k, k < 8 → tq_len k ≤ 6 := by decide +kernel
theorem tq_tab : ∀ k, k < 8 → ∀ i, i < tq_len k → (((rs_tv.getD k []).getD i 0 &&& 255).toUInt32 % 65536).toInt32 = nI (tq_ch k i) ∧ tq_ch k i < 128 := by decide +kernel
def tq_nm (T : Nat → Nat) (s q k : Nat) : Bool := decide (q = s + tq_len k) && rv_al (fun i => decide (T (s + i) = tq_ch k i)) (tq_len k)
def tq_fst (P : Nat → Bool) : Nat → Nat → Nat
  | 0, k => k
  | d + 1, k => if P k then k else tq_fst P d (k + 1)
theorem tq_fst_b {P : Nat → Bool} : ∀ {d k : Nat}, k ≤ tq_fst P d k ∧ tq_fst P d k ≤ k + d
  | 0, k => ⟨Nat.le_refl _, Nat.le_refl _⟩
  | d + 1, k => by
    have ih := tq_fst_b (P := P) (d := d) (k := k + 1)
    rw [tq_fst]
    split <;> omega
def tq_ln (T : Nat → Nat) (s q : Nat) : Nat := tq_fst (tq_nm T s q) 8 0
theorem tq_ln8 {T : Nat → Nat} {s q : Nat} : tq_ln T s q ≤ 8 := by
  have h := tq_fst_b (P := tq_nm T s q) (d := 8) (k := 0)
  unfold tq_ln
  omega
theorem tq_ic_l {T : Nat → Nat} {n s k : Nat} {S : rs_St} (c : tq_cT T n S) (hk : k < 8) (h3 : rs_gi S 80 3 = nI s) (hq : s + tq_len k ≤ n) : ∀ (d i fu : Nat), i + d = tq_len k → d < fu → ∃ b : Bool, (b = true ↔ ∀ m, i ≤ m → m < tq_len k → T (s + m) = tq_ch k m) ∧ xf_X3_isCalled_l20 S k (fun (x13 : Int32) => some 1) fu (nI i) = some (if b then 1 else 0) := by
  obtain ⟨c1, c2, c3, c4⟩ := c
  have hl := tq_len6 k hk
  have hlen : xf_J0_length_8abf5 S k = some (nI (tq_len k)) := rfl
  intro d
  induction d with
  | zero =>
    intro i fu hi hf
    obtain ⟨f, rfl⟩ : ∃ f, fu = f + 1 := ⟨fu - 1, by omega⟩
    refine ⟨true, ⟨fun _ m h1 h2 => by omega, fun _ => rfl⟩, ?_⟩
    rw [xf_X3_isCalled_l20, hlen, rv_b1s, rv_le (by omega) (by omega), if_pos (by omega)]
    rfl
  | succ d ih =>
    intro i fu hi hf
    obtain ⟨f, rfl⟩ : ∃ f, fu = f + 1 := ⟨fu - 1, by omega⟩
    obtain ⟨t1, t2⟩ := tq_tab k hk i (by omega)
    have hch : xf_J0_charAt_5068e S k (nI i) = some (nI (tq_ch k i)) := by
      unfold xf_J0_charAt_5068e
      rw [rv_ckn (show i < rs_tl.getD k 0 by unfold tq_len at hi; omega) (by unfold tq_len at hl; omega), nI_clamp (by omega), t1]
    have hTs := c2 (s + i) (by omega)
    rw [xf_X3_isCalled_l20, hlen, rv_b1s, rv_le (by omega) (by omega), if_neg (by omega), h3, nI_add, rv_ckn (by omega) (by omega), hch, rv_b1s, nI_clamp (by omega), c4 (s + i) (by omega), rv_eq (by omega) (by omega), nI_1]
    by_cases q : T (s + i) = tq_ch k i
    · obtain ⟨b, b1, b2⟩ := ih (i + 1) f (by omega) (by omega)
      rw [if_pos q, rv_lts]
      refine ⟨b, b1.trans ⟨fun z m m1 m2 => ?_, fun z m m1 m2 => z m (by omega) m2⟩, b2⟩
      by_cases e : m = i
      · rw [e]
        exact q
      · exact z m (by omega) m2
    · rw [if_neg q]
      exact ⟨false, ⟨fun z => absurd z (by decide), fun z => absurd (z i (by omega) (by omega)) q⟩, rfl⟩
theorem tq_ic {T : Nat → Nat} {n s q k : Nat} {S : rs_St} (c : tq_cT T n S) (hk : k < 8) (h3 : rs_gi S 80 3 = nI s) (h4 : rs_gi S 80 4 = nI q) (hs : s ≤ q) (hq : q ≤ n) : xf_X3_isCalled S k = some (if tq_nm T s q k then 1 else 0) := by
  have hl := tq_len6 k hk
  have hn := c.1
  have hlen : xf_J0_length_8abf5 S k = some (nI (tq_len k)) := rfl
  unfold xf_X3_isCalled
  rw [hlen, rv_b1s, h3, h4, pk_sub hs, rv_eq (by omega) (by omega)]
  unfold tq_nm
  by_cases e : tq_len k = q - s
  · rw [if_pos e, decide_eq_true (show q = s + tq_len k by omega), Bool.true_and]
    obtain ⟨b, b1, b2⟩ := tq_ic_l c hk h3 (by omega) (tq_len k) 0 rs_fu (by omega) (by unfold rs_fu; omega)
    rw [show rv_al (fun i => decide (T (s + i) = tq_ch k i)) (tq_len k) = b from rv_bool (rv_al_iff.trans ⟨fun z => b1.mpr (fun m _ hm => of_decide_eq_true (z m hm)), fun z m hm => decide_eq_true (b1.mp z m (by omega) hm)⟩)]
    exact b2
  · rw [if_neg e, decide_eq_false (show ¬ q = s + tq_len k by omega), Bool.false_and]
    rfl
theorem tq_nameOf (S : rs_St) {k : Nat} (hk : k < 8) : xf_X3_nameOf S (nI k) = some (some k) := by
  rcases (show k = 0 ∨ k = 1 ∨ k = 2 ∨ k = 3 ∨ k = 4 ∨ k = 5 ∨ k = 6 ∨ k = 7 by omega) with rfl | rfl | rfl | rfl | rfl | rfl | rfl | rfl <;> rfl
theorem tq_lb_l {T : Nat → Nat} {n s q : Nat} {S : rs_St} (c : tq_cT T n S) (h3 : rs_gi S 80 3 = nI s) (h4 : rs_gi S 80 4 = nI q) (hs : s ≤ q) (hq : q ≤ n) : ∀ (d k fu : Nat), k + d = 8 → d < fu → xf_X3_lineBegun_l11 S (fun (x12 : Int32) => some (-1)) fu (nI k) = some (if tq_fst (tq_nm T s q) d k = 8 then -1 else nI (tq_fst (tq_nm T s q) d k)) := by
  intro d
  induction d with
  | zero =>
    intro k fu hk hf
    obtain ⟨f, rfl⟩ : ∃ f, fu = f + 1 := ⟨fu - 1, by omega⟩
    rw [xf_X3_lineBegun_l11, rv_8, rv_le (by omega) (by omega), if_pos (by omega), tq_fst, if_pos (by omega)]
  | succ d ih =>
    intro k fu hk hf
    obtain ⟨f, rfl⟩ : ∃ f, fu = f + 1 := ⟨fu - 1, by omega⟩
    rw [xf_X3_lineBegun_l11, rv_8, rv_le (by omega) (by omega), if_neg (by omega), tq_nameOf S (by omega), rv_b1s]
    simp only [rs_om]
    rw [if_pos (by omega), tq_ic c (by omega) h3 h4 hs hq, rv_b1s, tq_fst]
    cases hb : tq_nm T s q k with
    | true =>
      rw [if_pos rfl, if_neg (show ¬ (1 : Int32) = 0 by decide), if_pos rfl, if_neg (by omega)]
    | false =>
      rw [if_neg (show ¬ false = true by decide), if_pos rfl, if_neg (show ¬ false = true by decide), rv_lts, nI_1]
      exact ih (k + 1) f (by omega) (by omega)
def tq_li (T : Nat → Nat) (n p : Nat) : Nat := if tq_tk T n p = 0 then tq_ln T (tq_ts T n p) (tq_te T n p) else 8
theorem tq_li8 {T : Nat → Nat} {n p : Nat} : tq_li T n p ≤ 8 := by
  unfold tq_li
  split
  · exact tq_ln8
  · omega
/-- the class has read the token behind p -/
def tq_cA (T : Nat → Nat) (n p : Nat) (S : rs_St) : Prop := rs_gi S 80 3 = nI (tq_ts T n p) ∧ (tq_bad T n p = true → rs_gi S 80 6 = 1) ∧ (tq_bad T n p = false → rs_gi S 80 6 = 0 ∧ rs_gi S 80 2 = nI (tq_tk T n p) ∧ rs_gi S 80 4 = nI (tq_te T n p))
theorem tq_tk4 {T : Nat → Nat} {n p : Nat} : tq_tk T n p ≤ 4 := by
  unfold tq_tk
  split
  · omega
  · split
    · omega
    · split
      · omega
      · split <;> omega
theorem tq_lb {T : Nat → Nat} {n p : Nat} {S : rs_St} (c : tq_cT T n S) (hp : p ≤ n) (A : tq_cA T n p S) (hb : tq_bad T n p = false) : xf_X3_lineBegun S = some (if tq_li T n p = 8 then -1 else nI (tq_li T n p)) := by
  obtain ⟨A1, -, A2⟩ := A
  obtain ⟨A3, A4, A5⟩ := A2 hb
  have hk4 := tq_tk4 (T := T) (n := n) (p := p)
  unfold xf_X3_lineBegun tq_li
  rw [A4, rv_eq0 (by omega)]
  by_cases h : tq_tk T n p = 0
  · rw [if_pos h, if_pos h]
    obtain ⟨t1, t2, t3⟩ := tq_te_b (T := T) hp (by omega) (by omega)
    exact tq_lb_l c A1 A5 (by omega) t3 8 0 rs_fu (by omega) (by unfold rs_fu; omega)
  · rw [if_neg h, if_neg h]
    rfl
/-! numbers -/
def tq_bd {α β : Type} (x : Sum (Nat × Nat) α) (f : α → Sum (Nat × Nat) β) : Sum (Nat × Nat) β := match x with
  | .inl e => .inl e
  | .inr v => f v
def tq_V (T : Nat → Nat) (n p : Nat) : Nat := tq_vv T (tq_ts T n p) (tq_te T n p - tq_ts T n p)
def tq_pn (T : Nat → Nat) (n p lo hi : Nat) : Sum (Nat × Nat) (Nat × Nat) := if tq_bad T n p then .inl (1, tq_ts T n p) else if tq_tk T n p = 1 then (if lo ≤ tq_V T n p ∧ tq_V T n p ≤ hi then .inr (tq_V T n p, tq_te T n p) else .inl (3, tq_ts T n p)) else .inl (2, tq_ts T n p)
def tq_ps (T : Nat → Nat) (n p : Nat) : Sum (Nat × Nat) Nat := if tq_bad T n p then .inl (1, tq_ts T n p) else if tq_tk T n p = 2 then .inr (tq_te T n p) else .inl (2, tq_ts T n p)
theorem tq_dig {T : Nat → Nat} {n p : Nat} (h : tq_tk T n p = 1) : ∀ i, i < tq_te T n p - tq_ts T n p → 48 ≤ T (tq_ts T n p + i) ∧ T (tq_ts T n p + i) ≤ 57 := by
  intro i hi
  have ee : tq_te T n p = tq_rn T n 48 57 (tq_ts T n p) := by
    unfold tq_te
    rw [h]
    rfl
  rw [ee] at hi
  exact tq_run_in (by omega) (show tq_ts T n p + i < tq_run T 48 57 (n - tq_ts T n p) (tq_ts T n p) by unfold tq_rn at hi; omega)
theorem tq_vv_le {T : Nat → Nat} {s : Nat} : ∀ {m : Nat}, m ≤ 2 → (∀ i, i < m → 48 ≤ T (s + i) ∧ T (s + i) ≤ 57) → tq_vv T s m ≤ 99 := by
  intro m hm h
  rcases (show m = 0 ∨ m = 1 ∨ m = 2 by omega) with rfl | rfl | rfl
  · show 0 ≤ 99
    omega
  · have h0 := h 0 (by omega)
    show 10 * 0 + T (s + 0) - 48 ≤ 99
    omega
  · have h0 := h 0 (by omega)
    have h1 := h 1 (by omega)
    show 10 * (10 * 0 + T (s + 0) - 48) + T (s + 1) - 48 ≤ 99
    omega
theorem tq_V_le {T : Nat → Nat} {n p : Nat} (hb : tq_bad T n p = false) (h : tq_tk T n p = 1) : tq_V T n p ≤ 99 := tq_vv_le ((tq_bad4 hb).2 h) (tq_dig h)
theorem tq_pn_b {T : Nat → Nat} {n p lo hi v q : Nat} (hp : p ≤ n) (h : tq_pn T n p lo hi = .inr (v, q)) : lo ≤ v ∧ v ≤ hi ∧ p < q ∧ q ≤ n := by
  unfold tq_pn at h
  cases hb : tq_bad T n p with
  | true =>
    rw [hb, if_pos rfl] at h
    cases h
  | false =>
    rw [hb, if_neg (by decide)] at h
    by_cases h1 : tq_tk T n p = 1
    · rw [if_pos h1] at h
      by_cases h2 : lo ≤ tq_V T n p ∧ tq_V T n p ≤ hi
      · rw [if_pos h2] at h
        cases h
        have := tq_te_b (T := T) hp (by omega) (by omega)
        omega
      · rw [if_neg h2] at h
        cases h
    · rw [if_neg h1] at h
      cases h
theorem tq_ps_b {T : Nat → Nat} {n p q : Nat} (hp : p ≤ n) (h : tq_ps T n p = .inr q) : p < q ∧ q ≤ n := by
  unfold tq_ps at h
  cases hb : tq_bad T n p with
  | true =>
    rw [hb, if_pos rfl] at h
    cases h
  | false =>
    rw [hb, if_neg (by decide)] at h
    by_cases h1 : tq_tk T n p = 2
    · rw [if_pos h1] at h
      cases h
      have := tq_te_b (T := T) hp (by omega) (by omega)
      omega
    · rw [if_neg h1] at h
      cases h
/-- the class has found a fault -/
def tq_cR (S : rs_St) (e : Nat × Nat) : Prop := rs_gi S 80 6 = nI e.1 ∧ rs_gi S 80 3 = nI e.2 ∧ 1 ≤ e.1 ∧ e.1 ≤ 5 ∧ e.2 ≤ 160
theorem tq_cRn {S : rs_St} {e : Nat × Nat} (h : tq_cR S e) : ¬ rs_gi S 80 6 = 0 := fun z => by
  have := (nI_eq (show e.1 < 2 ^ 31 by have := h.2.2.2.1; omega) (by omega)).mp (h.1.symm.trans (z.trans rv_0))
  have := h.2.2.1
  omega
theorem tq_num_l {T : Nat → Nat} {n s q : Nat} {S : rs_St} (c : tq_cT T n S) (h4 : rs_gi S 80 4 = nI q) (hq : q ≤ n) (hm : q - s ≤ 2) (hd : ∀ i, i < q - s → 48 ≤ T (s + i) ∧ T (s + i) ≤ 57) (K : Int32 → Int32 → Option (Int32 × rs_St)) : ∀ (d i fu : Nat), s + i + d = q → d < fu → xf_X3_readNumber_l48 S K fu (nI (tq_vv T s i)) (nI (s + i)) = K (nI (tq_vv T s (q - s))) (nI q) := by
  obtain ⟨c1, c2, c3, c4⟩ := c
  intro d
  induction d with
  | zero =>
    intro i fu hi hf
    obtain ⟨f, rfl⟩ : ∃ f, fu = f + 1 := ⟨fu - 1, by omega⟩
    rw [xf_X3_readNumber_l48, h4, rv_le (by omega) (by omega), if_pos (by omega), show q - s = i by omega, show s + i = q by omega]
  | succ d ih =>
    intro i fu hi hf
    obtain ⟨f, rfl⟩ : ∃ f, fu = f + 1 := ⟨fu - 1, by omega⟩
    have hv := tq_vv_le (T := T) (s := s) (m := i) (by omega) (fun j hj => hd j (by omega))
    have hd1 := hd i (by omega)
    rw [xf_X3_readNumber_l48, h4, rv_le (by omega) (by omega), if_neg (by omega), rv_ckn (by omega) (by omega), nI_clamp (by omega), c4 (s + i) (by omega), rv_10, pk_mul, nI_add, tq_48, pk_sub (by omega), rv_lts, rv_lts, nI_1]
    exact ih (i + 1) f (by omega) (by omega)
theorem tq_f80_tr {S S2 S3 : rs_St} (h : tq_f80 S S2) (h2 : tq_f80 S2 S3) : tq_f80 S S3 := fun k j z => (h2 k j z).trans (h k j z)
set_option maxRecDepth 100000 in
theorem tq_cnumE {S : rs_St} {e : Nat × Nat} (h : tq_cR S e) (lo hi : Int32) : xf_X3_readNumber S lo hi = some (0, S) := by
  have hn := tq_cRn h
  unfold xf_X3_readNumber
  simp only [rs_jn, rs_lt]
  rw [if_neg hn, if_neg hn, if_neg hn]
set_option maxRecDepth 100000 in
theorem tq_cnum {T : Nat → Nat} {n p lo hi : Nat} {S : rs_St} (hl : lo ≤ 200) (hh : hi ≤ 200) (c : tq_cT T n S) (hp : p ≤ n) (h4 : rs_gi S 80 4 = nI p) (h6 : rs_gi S 80 6 = 0) : ∃ r S2, xf_X3_readNumber S (nI lo) (nI hi) = some (r, S2) ∧ tq_f80 S S2 ∧ (∀ e, tq_pn T n p lo hi = .inl e → tq_cR S2 e) ∧ (∀ v q, tq_pn T n p lo hi = .inr (v, q) → r = nI v ∧ rs_gi S2 80 6 = 0 ∧ rs_gi S2 80 4 = nI q) := by
  obtain ⟨S1, e1, g1, A1, A2, A3⟩ := tq_adv c hp h4 h6
  have hs := tq_ts_b (T := T) hp
  have hn := c.1
  have hk4 := tq_tk4 (T := T) (n := n) (p := p)
  have c' := tq_cT_cg g1 c
  unfold xf_X3_readNumber tq_pn
  simp only [rs_jn, rs_lt]
  rw [h6, if_pos rfl, e1, rv_b1s]
  cases hb : tq_bad T n p with
  | true =>
    have q6 := A2 hb
    rw [q6, if_neg (show ¬ (1 : Int32) = 0 by decide), if_neg (show ¬ (1 : Int32) = 0 by decide)]
    refine ⟨0, S1, rfl, g1, fun e h => ?_, fun v q h => ?_⟩
    · rw [if_pos rfl] at h
      cases h
      exact ⟨q6, A1, Nat.le_refl _, by omega, by omega⟩
    · rw [if_pos rfl] at h
      cases h
  | false =>
    obtain ⟨q6, q2, q4⟩ := A3 hb
    rw [q6, if_pos rfl, q2, rv_1, rv_eq (by omega) (by omega)]
    by_cases h1 : tq_tk T n p = 1
    · obtain ⟨t1, t2, t3⟩ := tq_te_b (T := T) hp (by omega) (by omega)
      have hV := tq_V_le hb h1
      have hV2 : tq_vv T (tq_ts T n p) (tq_te T n p - tq_ts T n p) ≤ 99 := hV
      rw [if_pos h1, if_pos rfl, A1]
      have hl48 := tq_num_l (s := tq_ts T n p) c' q4 t3 ((tq_bad4 hb).2 h1) (tq_dig h1) (fun (x13 : Int32) (x14 : Int32) => rs_b1 (xf_X4_outside S1 x13 (nI lo) (nI hi)) (fun r16 => if r16 = 0 then some (x13, S1) else some (x13, rs_si S1 80 6 3))) (tq_te T n p - tq_ts T n p) 0 rs_fu (by omega) (by unfold rs_fu; omega)
      have hl48' : xf_X3_readNumber_l48 S1 (fun (x13 : Int32) (x14 : Int32) => rs_b1 (xf_X4_outside S1 x13 (nI lo) (nI hi)) (fun r16 => if r16 = 0 then some (x13, S1) else some (x13, rs_si S1 80 6 3))) rs_fu 0 (nI (tq_ts T n p)) = if lo ≤ tq_V T n p ∧ tq_V T n p ≤ hi then some (nI (tq_V T n p), S1) else some (nI (tq_V T n p), rs_si S1 80 6 3) := by
        refine hl48.trans ?_
        rw [rv_out, rv_b1s, rv_o0]
        by_cases hr : lo ≤ tq_V T n p ∧ tq_V T n p ≤ hi
        · rw [if_pos hr, if_pos ⟨(nI_leI (by omega) (by omega)).mpr hr.1, (nI_leI (by omega) (by omega)).mpr hr.2⟩]
          rfl
        · rw [if_neg hr, if_neg (fun z => hr ⟨(nI_leI (by omega) (by omega)).mp z.1, (nI_leI (by omega) (by omega)).mp z.2⟩)]
          rfl
      rw [hl48']
      by_cases hr : lo ≤ tq_V T n p ∧ tq_V T n p ≤ hi
      · rw [if_pos hr]
        refine ⟨_, S1, rfl, g1, fun e h => ?_, fun v q h => ?_⟩
        · rw [if_neg (by decide), if_pos h1, if_pos hr] at h
          cases h
        · rw [if_neg (by decide), if_pos h1, if_pos hr] at h
          cases h
          exact ⟨rfl, q6, q4⟩
      · rw [if_neg hr]
        refine ⟨_, _, rfl, fun k j z => (rv_gsn (by omega)).trans (g1 k j z), fun e h => ?_, fun v q h => ?_⟩
        · rw [if_neg (by decide), if_pos h1, if_neg hr] at h
          cases h
          exact ⟨rv_gss _ _ _ _, (rv_gsn (by omega)).trans A1, (show 1 ≤ 3 by omega), (show 3 ≤ 5 by omega), (show tq_ts T n p ≤ 160 by omega)⟩
        · rw [if_neg (by decide), if_pos h1, if_neg hr] at h
          cases h
    · rw [if_neg h1, rv_gss, if_neg (show ¬ (2 : Int32) = 0 by decide)]
      refine ⟨_, _, rfl, fun k j z => (rv_gsn (by omega)).trans (g1 k j z), fun e h => ?_, fun v q h => ?_⟩
      · rw [if_neg (by decide), if_neg h1] at h
        cases h
        exact ⟨rv_gss _ _ _ _, (rv_gsn (by omega)).trans A1, (show 1 ≤ 2 by omega), (show 2 ≤ 5 by omega), (show tq_ts T n p ≤ 160 by omega)⟩
      · rw [if_neg (by decide), if_neg h1] at h
        cases h
