/-! the reference: ask -/
theorem rv_168 : (168 : Int32) = nI 168 := rfl
theorem rv_10 : (10 : Int32) = nI 10 := rfl
theorem rv_11 : (11 : Int32) = nI 11 := rfl
def rv_akF (S S2 : rs_St) : Prop := ∀ k j, rv_rel k j ∨ k < 38 ∨ k = 92 → rs_gi S2 k j = rs_gi S k j
theorem rv_46 {S : rs_St} {x : Nat} (hx : x < 12) (K : rs_St → Int32 → Option (Int32 × rs_St)) : ∀ (d i fu : Nat) (S1 : rs_St), i + d = 168 → d < fu → (∀ k j, ¬ (k = 101 ∧ 168 * x ≤ j ∧ j < 168 * x + 168) → rs_gi S1 k j = rs_gi S k j) → (∀ j, j < i → rs_gi S1 101 (168 * x + j) = rs_gi S 100 j) → ∃ S2, xf_X5_ask_l46 (nI x) K fu S1 (nI i) = K S2 (nI 168) ∧ (∀ k j, ¬ (k = 101 ∧ 168 * x ≤ j ∧ j < 168 * x + 168) → rs_gi S2 k j = rs_gi S k j) ∧ (∀ j, j < 168 → rs_gi S2 101 (168 * x + j) = rs_gi S 100 j) := by
  intro d
  induction d with
  | zero =>
    intro i fu S1 hi hf h1 h2
    obtain ⟨f, rfl⟩ : ∃ f, fu = f + 1 := ⟨fu - 1, by omega⟩
    obtain rfl : i = 168 := by omega
    refine ⟨S1, ?_, h1, h2⟩
    rw [xf_X5_ask_l46, rv_168, rv_le (by omega) (by omega), if_pos (by omega)]
  | succ d ih =>
    intro i fu S1 hi hf h1 h2
    obtain ⟨f, rfl⟩ : ∃ f, fu = f + 1 := ⟨fu - 1, by omega⟩
    rw [xf_X5_ask_l46, rv_168, rv_le (by omega) (by omega), if_neg (by omega), rv_ckn (by omega) (by omega), pk_mul, nI_add, rv_ckn (by omega) (by omega), nI_clamp (by omega), nI_clamp (by omega), rv_lts, rv_lts, nI_1]
    refine ih (i + 1) f _ (by omega) (by omega) (fun k j hk => ?_) (fun j hj => ?_)
    · rw [rv_gsn (by omega)]
      exact h1 k j hk
    · by_cases e : j = i
      · rw [e, rv_gss]
        exact h1 _ _ (by omega)
      · rw [rv_gsn (by omega)]
        exact h2 j (by omega)
/-- how many of the rows kept are as row x, at place o -/
def rv_gx (S : rs_St) (o cn x : Nat) : Nat := rv_sm (fun y => if rs_gi S 101 (168 * x + o) = rs_gi S 101 (168 * y + o) then 1 else 0) cn
theorem rv_gx_le (S : rs_St) (o cn x : Nat) : rv_gx S o cn x ≤ cn := by
  have := rv_sm_le (f := fun y => if rs_gi S 101 (168 * x + o) = rs_gi S 101 (168 * y + o) then 1 else 0) (c := 1) (n := cn) (fun i _ => by (try dsimp only); split <;> omega)
  unfold rv_gx
  omega
theorem rv_gx_cg {S S2 : rs_St} (h : ∀ j, rs_gi S2 101 j = rs_gi S 101 j) (o cn : Nat) : rv_gx S2 o cn = rv_gx S o cn := by
  funext x
  unfold rv_gx
  simp only [h]
theorem rv_147 {S : rs_St} {cn o x : Nat} (hc : cn ≤ 12) (ho : o < 168) (hx : x < 12) (K : Int32 → Int32 → Option (Int32 × rs_St)) : ∀ (d y fu : Nat), y + d = cn → d < fu → xf_X5_ask_l147 (nI cn) S (nI o) (nI x) K fu (nI (rv_sm (fun y => if rs_gi S 101 (168 * x + o) = rs_gi S 101 (168 * y + o) then 1 else 0) y)) (nI y) = K (nI (rv_gx S o cn x)) (nI cn) := by
  intro d
  induction d with
  | zero =>
    intro y fu hy hf
    obtain ⟨f, rfl⟩ : ∃ f, fu = f + 1 := ⟨fu - 1, by omega⟩
    rw [xf_X5_ask_l147, rv_le (by omega) (by omega), if_pos (by omega), show y = cn by omega]
    rfl
  | succ d ih =>
    intro y fu hy hf
    obtain ⟨f, rfl⟩ : ∃ f, fu = f + 1 := ⟨fu - 1, by omega⟩
    have ih' := ih (y + 1) f (by omega) (by omega)
    rw [rv_sm] at ih'
    rw [xf_X5_ask_l147, rv_le (by omega) (by omega), if_neg (by omega), rv_168, pk_mul, pk_mul, nI_add, nI_add, rv_ckn (by omega) (by omega), rv_ckn (by omega) (by omega)]
    simp only [rs_jn, rs_lt]
    rw [nI_clamp (by omega), nI_clamp (by omega)]
    by_cases e : rs_gi S 101 (168 * x + o) = rs_gi S 101 (168 * y + o)
    · rw [if_pos e] at ih'
      rw [if_pos e, show xf_X5_flag S 1 = some (nI 1) from rfl, rv_b1s, nI_add, nI_1]
      exact ih'
    · rw [if_neg e, Nat.add_zero] at ih'
      rw [if_neg e, show xf_X5_flag S 0 = some (nI 0) from rfl, rv_b1s, nI_add, Nat.add_zero, nI_1]
      exact ih'
theorem rv_135 {S : rs_St} {cn o : Nat} (hc : cn ≤ 12) (ho : o < 168) (K : Int32 → Int32 → Option (Int32 × rs_St)) : ∀ (d x fu : Nat), x + d = cn → d < fu → xf_X5_ask_l135 (nI cn) S (nI o) K fu (nI (rv_mx (rv_gx S o cn) x)) (nI x) = K (nI (rv_mx (rv_gx S o cn) cn)) (nI cn) := by
  intro d
  induction d with
  | zero =>
    intro x fu hy hf
    obtain ⟨f, rfl⟩ : ∃ f, fu = f + 1 := ⟨fu - 1, by omega⟩
    rw [xf_X5_ask_l135, rv_le (by omega) (by omega), if_pos (by omega), show x = cn by omega]
  | succ d ih =>
    intro x fu hy hf
    obtain ⟨f, rfl⟩ : ∃ f, fu = f + 1 := ⟨fu - 1, by omega⟩
    have ih' := ih (x + 1) f (by omega) (by omega)
    rw [rv_mx] at ih'
    have g1 := rv_gx_le S o cn x
    have g2 : rv_mx (rv_gx S o cn) x ≤ cn := rv_mx_le (fun i _ => rv_gx_le S o cn i)
    rw [xf_X5_ask_l135, rv_le (by omega) (by omega), if_neg (by omega)]
    refine (rv_147 hc ho (by omega) _ cn 0 rs_fu (by omega) (by unfold rs_fu; omega)).trans ?_
    simp only [rs_jn, rs_lt]
    rw [rv_le (by omega) (by omega), nI_1]
    by_cases e : rv_gx S o cn x ≤ rv_mx (rv_gx S o cn) x
    · rw [if_pos e] at ih' ⊢
      exact ih'
    · rw [if_neg e] at ih' ⊢
      exact ih'
/-- the least so far, over the rows of a shot; over shots -/
def rv_ji (V : Nat → Nat) (n : Nat) : Nat → Nat → Int32 → Nat → Int32 × Nat
  | 0, _, co, mu => (co, mu)
  | d + 1, r, co, mu => if mu ≤ V r then rv_ji V n d (r + 1) co mu else rv_ji V n d (r + 1) (nI (10 * n + r)) (V r)
def rv_jo (V : Nat → Nat → Nat) (R : Nat) : Nat → Nat → Int32 → Nat → Int32 × Nat
  | 0, _, co, mu => (co, mu)
  | d + 1, n, co, mu => rv_jo V R d (n + 1) (rv_ji (V n) n R 0 co mu).1 (rv_ji (V n) n R 0 co mu).2
theorem rv_ji_le {V : Nat → Nat} {n : Nat} : ∀ {d r : Nat} {co : Int32} {mu : Nat}, mu ≤ 12 → (rv_ji V n d r co mu).2 ≤ 12
  | 0, _, _, _, h => h
  | d + 1, r, co, mu, h => by
    rw [rv_ji]
    split
    · exact rv_ji_le h
    · exact rv_ji_le (by omega)
theorem rv_ji_cg {V W : Nat → Nat} {n R : Nat} (h : ∀ r, r < R → V r = W r) : ∀ {d r : Nat} {co : Int32} {mu : Nat}, r + d = R → rv_ji V n d r co mu = rv_ji W n d r co mu
  | 0, _, _, _, _ => rfl
  | d + 1, r, co, mu, hr => by
    rw [rv_ji, rv_ji, h r (by omega), rv_ji_cg h (by omega), rv_ji_cg h (by omega)]
theorem rv_jo_cg {V W : Nat → Nat → Nat} {R : Nat} (h : ∀ n r, n ≤ 20 → r < R → V n r = W n r) : ∀ {d n : Nat} {co : Int32} {mu : Nat}, n + d = 21 → rv_jo V R d n co mu = rv_jo W R d n co mu
  | 0, _, _, _, _ => rfl
  | d + 1, n, co, mu, hn => by
    rw [rv_jo, rv_jo, rv_ji_cg (R := R) (h n · (by omega)) (by omega), rv_jo_cg h (by omega)]
def rv_jgP (S S3 : rs_St) (co : Int32) (mu : Nat) : Prop := rv_rfF S S3 ∧ (∀ j, rs_gi S3 101 j = rs_gi S 101 j) ∧ rs_gi S3 91 22 = co ∧ rs_gi S3 91 23 = nI mu
def rv_vx (S : rs_St) (cn n r : Nat) : Nat := rv_mx (rv_gx S (8 * n + r) cn) cn
theorem rv_vx_le (S : rs_St) (cn n r : Nat) : rv_vx S cn n r ≤ cn := rv_mx_le (fun i _ => rv_gx_le S _ cn i)
theorem rv_107 {S : rs_St} {R cn n : Nat} (hR : R ≤ 8) (hc : cn ≤ 12) (hn : n ≤ 20) (h17 : rs_gi S 92 17 = nI R) (K : rs_St → Int32 → Option (Int32 × rs_St)) : ∀ (d r fu : Nat) (S3 : rs_St) (co : Int32) (mu : Nat), r + d = R → d < fu → rv_jgP S S3 co mu → mu ≤ 12 → ∃ S4, xf_X5_ask_l107 (nI cn) (nI n) K fu S3 (nI r) = K S4 (nI R) ∧ rv_jgP S S4 (rv_ji (rv_vx S cn n) n d r co mu).1 (rv_ji (rv_vx S cn n) n d r co mu).2 := by
  intro d
  induction d with
  | zero =>
    intro r fu S3 co mu hr hf hP hmu
    obtain ⟨f, rfl⟩ : ∃ f, fu = f + 1 := ⟨fu - 1, by omega⟩
    refine ⟨S3, ?_, hP⟩
    rw [xf_X5_ask_l107, hP.1 92 17 (by omega), h17, rv_le (by omega) (by omega), if_pos (by omega), show r = R by omega]
  | succ d ih =>
    intro r fu S3 co mu hr hf hP hmu
    obtain ⟨f, rfl⟩ : ∃ f, fu = f + 1 := ⟨fu - 1, by omega⟩
    obtain ⟨p1, p2, p3, p4⟩ := hP
    have hv := rv_vx_le S cn n r
    obtain ⟨S13, e13, q1, q2, q3⟩ := rv_judges (S := S3) (c := 10 * n + r) (v := rv_vx S cn n r) (mu := mu) (co := co) p3 p4 (by omega) (by omega)
    have e135 := rv_135 (S := S3) (cn := cn) (o := 8 * n + r) hc (by omega) (fun (x62 : Int32) (x63 : Int32) => rs_b1 (xf_X5_judges S3 ((10 * nI n) + nI r) x62) (fun S65 => rs_lt (nI r + 1) (fun x66 => xf_X5_ask_l107 (nI cn) (nI n) K f S65 x66))) cn 0 rs_fu (by omega) (by unfold rs_fu; omega)
    rw [rv_gx_cg p2] at e135
    have e1 : xf_X5_ask_l107 (nI cn) (nI n) K (f + 1) S3 (nI r) = xf_X5_ask_l107 (nI cn) (nI n) K f S13 (nI (r + 1)) := by
      rw [xf_X5_ask_l107, p1 92 17 (by omega), h17, rv_le (by omega) (by omega), if_neg (by omega), rv_8, pk_mul, nI_add, rv_lts]
      refine e135.trans ?_
      show rs_b1 (xf_X5_judges S3 ((10 * nI n) + nI r) (nI (rv_vx S cn n r))) _ = _
      rw [rv_10, pk_mul, nI_add, e13, rv_b1s, rv_lts, nI_1]
    rw [e1, rv_ji]
    have hr13 : rv_rfF S S13 := fun k i z => (q3 k i (by unfold rv_rel at z; omega)).trans (p1 k i z)
    have h13 : ∀ j, rs_gi S13 101 j = rs_gi S 101 j := fun j => (q3 101 j (by omega)).trans (p2 j)
    by_cases q : mu ≤ rv_vx S cn n r
    · rw [if_pos q] at q1 q2
      rw [if_pos q]
      exact ih (r + 1) f S13 co mu (by omega) (by omega) ⟨hr13, h13, q1, q2⟩ hmu
    · rw [if_neg q] at q1 q2
      rw [if_neg q]
      exact ih (r + 1) f S13 _ _ (by omega) (by omega) ⟨hr13, h13, q1, q2⟩ (by omega)
theorem rv_97 {S : rs_St} {R cn : Nat} (hR : R ≤ 8) (hc : cn ≤ 12) (h17 : rs_gi S 92 17 = nI R) (K : rs_St → Int32 → Option (Int32 × rs_St)) : ∀ (d n fu : Nat) (S3 : rs_St) (co : Int32) (mu : Nat), n + d = 21 → d < fu → rv_jgP S S3 co mu → mu ≤ 12 → ∃ S4, xf_X5_ask_l97 (nI cn) K fu S3 (nI n) = K S4 (nI 21) ∧ rv_jgP S S4 (rv_jo (rv_vx S cn) R d n co mu).1 (rv_jo (rv_vx S cn) R d n co mu).2 := by
  intro d
  induction d with
  | zero =>
    intro n fu S3 co mu hr hf hP hmu
    obtain ⟨f, rfl⟩ : ∃ f, fu = f + 1 := ⟨fu - 1, by omega⟩
    refine ⟨S3, ?_, hP⟩
    rw [xf_X5_ask_l97, rv_20, rv_lt (by omega) (by omega), if_pos (by omega), show n = 21 by omega]
  | succ d ih =>
    intro n fu S3 co mu hr hf hP hmu
    obtain ⟨f, rfl⟩ : ∃ f, fu = f + 1 := ⟨fu - 1, by omega⟩
    obtain ⟨S4, e4, P4⟩ := rv_107 (S := S) (R := R) (cn := cn) (n := n) hR hc (by omega) h17 (fun (S67 : rs_St) (x68 : Int32) => rs_lt (nI n + 1) (fun x69 => xf_X5_ask_l97 (nI cn) K f S67 x69)) R 0 rs_fu S3 co mu (by omega) (by unfold rs_fu; omega) hP hmu
    have e1 : xf_X5_ask_l97 (nI cn) K (f + 1) S3 (nI n) = xf_X5_ask_l97 (nI cn) K f S4 (nI (n + 1)) := by
      rw [xf_X5_ask_l97, rv_20, rv_lt (by omega) (by omega), if_neg (by omega)]
      refine e4.trans ?_
      rw [rv_lts, nI_1]
    rw [e1, rv_jo]
    exact ih (n + 1) f S4 _ _ (by omega) (by omega) P4 (rv_ji_le hmu)
/-- what the reference keeps: the rows by each phase that fits -/
def rv_akP (S : rs_St) (a : Nat → Nat) (l : Nat) (P : Nat → Bool) (c : Nat) (S7 : rs_St) : Prop := rv_rfF S S7 ∧ ∀ p, p < c → P p = true → ∀ m r, m < 21 → r < 8 → rs_gi S7 101 (168 * rv_cn P p + (8 * m + r)) = rv_v8 (rv_up a (4 * l + 3) p) m r
theorem rv_cn_mono (P : Nat → Bool) {p c : Nat} (h : p < c) (hp : P p = true) : rv_cn P p < rv_cn P c := by
  have h1 : rv_cn P (p + 1) = rv_cn P p + 1 := by
    show rv_sm _ (p + 1) = _
    rw [rv_sm, hp, if_pos rfl]
    rfl
  have h2 := rv_sm_mono (fun p => if P p then 1 else 0) (p + 1) c (by omega)
  have h3 : rv_cn P (p + 1) ≤ rv_cn P c := h2
  omega
theorem rv_22 {S : rs_St} {a : Nat → Nat} {l : Nat} (w : rv_wf2 a) (hm : ∀ j, j < 51 → rs_gi S 92 j = nI (a j)) (hl : l < a 16) (K : rs_St → Int32 → Int32 → Option (Int32 × rs_St)) : ∀ (d c fu : Nat) (S7 : rs_St), c + d = 12 → d < fu → rv_akP S a l (fun v => rv_al (rv_snb (rv_up a (4 * l + 3) v)) (a 32)) c S7 → ∃ S8, xf_X5_ask_l22 (nI l) K fu S7 (nI (rv_cn (fun v => rv_al (rv_snb (rv_up a (4 * l + 3) v)) (a 32)) c)) (nI c) = K S8 (nI (rv_cn (fun v => rv_al (rv_snb (rv_up a (4 * l + 3) v)) (a 32)) 12)) (nI 12) ∧ rv_akP S a l (fun v => rv_al (rv_snb (rv_up a (4 * l + 3) v)) (a 32)) 12 S8 := by
  have hc := w.1.1
  generalize hP : (fun v => rv_al (rv_snb (rv_up a (4 * l + 3) v)) (a 32)) = P
  intro d
  induction d with
  | zero =>
    intro c fu S7 hcd hf h
    obtain ⟨f, rfl⟩ : ∃ f, fu = f + 1 := ⟨fu - 1, by omega⟩
    obtain rfl : c = 12 := by omega
    refine ⟨S7, ?_, h⟩
    rw [xf_X5_ask_l22, rv_11, rv_lt (by omega) (by omega), if_pos (by omega)]
  | succ d ih =>
    intro c fu S7 hcd hf h
    obtain ⟨f, rfl⟩ : ∃ f, fu = f + 1 := ⟨fu - 1, by omega⟩
    obtain ⟨h1, h2⟩ := h
    obtain ⟨S5, e5, k5, v5⟩ := rv_isSo (S := S7) (j := 4 * l + 3) (v := c) w (fun j hj => (h1 92 j (by omega)).trans (hm j hj)) (by omega) (rv_wfpart (p := 3) w.1 (by omega) (by omega) (Nat.zero_le _) (show c ≤ 11 by omega))
    have eP : rv_al (rv_snb (rv_up a (4 * l + 3) c)) (a 32) = P c := congrFun hP c
    rw [eP] at e5
    have hs5 : rv_rfF S S5 := fun k i z => (k5 k i (by
      rcases z with z | z | z
      · exact Or.inl z
      · omega
      · omega)).trans (h1 k i z)
    have h101 : ∀ j, rs_gi S5 101 j = rs_gi S7 101 j := fun j => k5 101 j (by omega)
    have hcn := rv_cn_le P c
    have ec : rv_cn P (c + 1) = rv_cn P c + if P c then 1 else 0 := rfl
    rw [xf_X5_ask_l22, rv_11, rv_lt (by omega) (by omega), if_neg (by omega), rv_4, pk_mul, rv_a3, e5, rv_b2s]
    simp only [rs_jn, rs_lt]
    cases hb : P c with
    | false =>
      rw [hb, if_neg (show ¬ false = true by decide)] at ec
      replace ec : rv_cn P (c + 1) = rv_cn P c := ec
      rw [if_neg (show ¬ false = true by decide), if_pos rfl, nI_1, ← ec]
      refine ih (c + 1) f S5 (by omega) (by omega) ⟨hs5, fun p hp hpp m r hm hr => ?_⟩
      rw [h101]
      refine h2 p ?_ hpp m r hm hr
      by_cases e : p = c
      · rw [e, hb] at hpp
        exact absurd hpp (by decide)
      · omega
    | true =>
      rw [hb, if_pos rfl] at ec
      obtain ⟨S6, e6, y1, y2⟩ := rv_46 (S := S5) (x := rv_cn P c) (by omega) (fun (S26 : rs_St) (x27 : Int32) => xf_X5_ask_l22 (nI l) K f S26 (nI (rv_cn P c) + 1) (nI c + 1)) 168 0 rs_fu S5 (by omega) (by unfold rs_fu; omega) (fun _ _ _ => rfl) (fun j hj => by omega)
      have e7 : xf_X5_ask_l46 (nI (rv_cn P c)) (fun (S26 : rs_St) (x27 : Int32) => xf_X5_ask_l22 (nI l) K f S26 (nI (rv_cn P c) + 1) (nI c + 1)) rs_fu S5 0 = xf_X5_ask_l22 (nI l) K f S6 (nI (rv_cn P (c + 1))) (nI (c + 1)) := by
        refine e6.trans ?_
        rw [nI_1, nI_1, ← ec]
      rw [if_pos rfl, if_neg (show ¬ (1 : Int32) = 0 by decide), e7]
      refine ih (c + 1) f S6 (by omega) (by omega) ⟨fun k i z => (y1 k i (by unfold rv_rel at z; omega)).trans (hs5 k i z), fun p hp hpp m r hm hr => ?_⟩
      by_cases e : p = c
      · rw [e, y2 _ (by omega)]
        exact v5 m r hm hr
      · have := rv_cn_mono P (show p < c by omega) hpp
        rw [y1 _ _ (by omega), h101]
        exact h2 p (by omega) hpp m r hm hr
/-! the class: ask -/
theorem rv_52 {S : rs_St} {a : Nat → Nat} {l n : Nat} {P : Nat → Bool} (w : rv_wf a) (ht : a 21 ≤ 99999) (hl : l < a 16) (hn : n ≤ 20) (h17 : rs_gi S 2 0 = nI (a 17)) (K : rs_St → Int32 → Int32 → Int32 → Option (Int32 × rs_St)) : ∀ (d r fu : Nat) (S1 : rs_St) (co : Int32) (mu : Nat), r + d = a 17 → d < fu → rv_drf S S1 → (∃ v, v ≤ 11 ∧ rv_sc S1 19 (rv_up a (4 * l + 3) v) rv_uu) → mu ≤ 12 → ∃ S2, xf_X4_ask_l52 (nI l) (nI (rv_mn2 P 12)) (nI n) K fu S1 co (nI mu) (nI r) = K S2 (rv_ji (fun r => rv_cv P (fun q => nI (rv_rw (rv_up a (4 * l + 3) q) rv_uu (rv_T a n) r)) 12) n d r co mu).1 (nI (rv_ji (fun r => rv_cv P (fun q => nI (rv_rw (rv_up a (4 * l + 3) q) rv_uu (rv_T a n) r)) 12) n d r co mu).2) (nI (a 17)) ∧ rv_drf S S2 ∧ ∃ v, v ≤ 11 ∧ rv_sc S2 19 (rv_up a (4 * l + 3) v) rv_uu := by
  have hc := w.1
  have hR := w.2.2.1
  intro d
  induction d with
  | zero =>
    intro r fu S1 co mu hr hf hd hv hmu
    obtain ⟨f, rfl⟩ : ∃ f, fu = f + 1 := ⟨fu - 1, by omega⟩
    refine ⟨S1, ?_, hd, hv⟩
    rw [xf_X4_ask_l52, show rs_gi S1 (0 + 2) 0 = nI (a 17) from (hd.1 2 0 (by omega) (by omega)).trans h17, rv_le (by omega) (by omega), if_pos (by omega), show r = a 17 by omega]
    rfl
  | succ d ih =>
    intro r fu S1 co mu hr hf hd hv hmu
    obtain ⟨f, rfl⟩ : ∃ f, fu = f + 1 := ⟨fu - 1, by omega⟩
    obtain ⟨S3, e3, d3, v3⟩ := rv_mostAlike (S := S) (n := n) (r := r) (P := P) w ht hl hn (by omega) hd hv
    have hcv := rv_cv_le P (fun q => nI (rv_rw (rv_up a (4 * l + 3) q) rv_uu (rv_T a n) r)) (k := 12) (by omega)
    rw [xf_X4_ask_l52, show rs_gi S1 (0 + 2) 0 = nI (a 17) from (hd.1 2 0 (by omega) (by omega)).trans h17, rv_le (by omega) (by omega), if_neg (by omega), e3, rv_b2s]
    simp only [rs_jn, rs_lt]
    rw [rv_le (by omega) (by omega), rv_10, pk_mul, nI_add, nI_1, rv_ji]
    by_cases q : mu ≤ rv_cv P (fun q => nI (rv_rw (rv_up a (4 * l + 3) q) rv_uu (rv_T a n) r)) 12
    · rw [if_pos q, if_pos q]
      exact ih (r + 1) f S3 co mu (by omega) (by omega) d3 v3 hmu
    · rw [if_neg q, if_neg q]
      exact ih (r + 1) f S3 _ _ (by omega) (by omega) d3 v3 (by omega)
theorem rv_42 {S : rs_St} {a : Nat → Nat} {l : Nat} {P : Nat → Bool} (w : rv_wf a) (ht : a 21 ≤ 99999) (hl : l < a 16) (h17 : rs_gi S 2 0 = nI (a 17)) (K : rs_St → Int32 → Int32 → Int32 → Option (Int32 × rs_St)) : ∀ (d n fu : Nat) (S1 : rs_St) (co : Int32) (mu : Nat), n + d = 21 → d < fu → rv_drf S S1 → (∃ v, v ≤ 11 ∧ rv_sc S1 19 (rv_up a (4 * l + 3) v) rv_uu) → mu ≤ 12 → ∃ S2, xf_X4_ask_l42 (nI l) (nI (rv_mn2 P 12)) K fu S1 co (nI mu) (nI n) = K S2 (rv_jo (fun n r => rv_cv P (fun q => nI (rv_rw (rv_up a (4 * l + 3) q) rv_uu (rv_T a n) r)) 12) (a 17) d n co mu).1 (nI (rv_jo (fun n r => rv_cv P (fun q => nI (rv_rw (rv_up a (4 * l + 3) q) rv_uu (rv_T a n) r)) 12) (a 17) d n co mu).2) (nI 21) ∧ rv_drf S S2 := by
  have hR := w.2.2.1
  intro d
  induction d with
  | zero =>
    intro n fu S1 co mu hr hf hd hv hmu
    obtain ⟨f, rfl⟩ : ∃ f, fu = f + 1 := ⟨fu - 1, by omega⟩
    refine ⟨S1, ?_, hd⟩
    rw [xf_X4_ask_l42, rv_20, rv_lt (by omega) (by omega), if_pos (by omega), show n = 21 by omega]
    rfl
  | succ d ih =>
    intro n fu S1 co mu hr hf hd hv hmu
    obtain ⟨f, rfl⟩ : ∃ f, fu = f + 1 := ⟨fu - 1, by omega⟩
    obtain ⟨S4, e4, d4, v4⟩ := rv_52 (S := S) (n := n) (P := P) w ht hl (by omega) h17 (fun (S32 : rs_St) (x33 : Int32) (x34 : Int32) (x35 : Int32) => rs_lt (nI n + 1) (fun x36 => xf_X4_ask_l42 (nI l) (nI (rv_mn2 P 12)) K f S32 x33 x34 x36)) (a 17) 0 rs_fu S1 co mu (by omega) (by unfold rs_fu; omega) hd hv hmu
    obtain ⟨S2, e2, d2⟩ := ih (n + 1) f S4 _ _ (by omega) (by omega) d4 v4 (rv_ji_le (V := fun r => rv_cv P (fun q => nI (rv_rw (rv_up a (4 * l + 3) q) rv_uu (rv_T a n) r)) 12) (n := n) (d := a 17) (r := 0) (co := co) hmu)
    refine ⟨S2, ?_, d2⟩
    rw [xf_X4_ask_l42, rv_20, rv_lt (by omega) (by omega), if_neg (by omega)]
    refine e4.trans ?_
    rw [rv_lts, nI_1, rv_jo]
    exact e2
