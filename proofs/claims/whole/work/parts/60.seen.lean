/-! kinds, phases -/
def rv_snb (b : Nat → Nat) (m : Nat) : Bool := decide (b (34 + 3 * m) < b 17) && decide (rv_rw b rv_uu (rv_T b (b (33 + 3 * m))) (b (34 + 3 * m)) = b (35 + 3 * m))
def rv_al (q : Nat → Bool) : Nat → Bool
  | 0 => true
  | n + 1 => rv_al q n && q n
theorem rv_al_iff {q : Nat → Bool} : ∀ {n : Nat}, rv_al q n = true ↔ ∀ m, m < n → q m = true
  | 0 => ⟨fun _ m hm => by omega, fun _ => rfl⟩
  | n + 1 => by
    rw [rv_al, Bool.and_eq_true, rv_al_iff (n := n)]
    refine ⟨fun h m hm => ?_, fun h => ⟨fun m hm => h m (by omega), h n (by omega)⟩⟩
    by_cases e : m = n
    · rw [e]
      exact h.2
    · exact h.1 m (by omega)
theorem rv_bool {b c : Bool} (h : b = true ↔ c = true) : b = c := by
  cases b with
  | true => exact (h.mp rfl).symm
  | false =>
    cases c with
    | false => rfl
    | true => exact absurd (h.mpr rfl) (by decide)
theorem rv_ias_l {S : rs_St} {B : Nat} {b : Nat → Nat} (w : rv_wf2 b) (h : rv_fsc S B b) : ∀ (d i fu : Nat), i + d = b 32 → d < fu → ∃ c : Bool, (c = true ↔ ∀ m, i ≤ m → m < b 32 → rv_snb b m = true) ∧ xf_X1_isAsSeen_l2 S B (fun _ => some 1) fu (nI i) = some (if c then 1 else 0) := by
  obtain ⟨hs, f2, f3, f4, f5, f6⟩ := id h
  obtain ⟨w0, x1, x2, x3, x4, x5, x6⟩ := id w
  have hR := w0.2.2.1
  have h17 : rs_gi S (B + 2) 0 = nI (b 17) := hs.2.2.1 0 (by omega)
  intro d
  induction d with
  | zero =>
    intro i fu hi hf
    obtain ⟨f, rfl⟩ : ∃ f, fu = f + 1 := ⟨fu - 1, by omega⟩
    refine ⟨true, ⟨fun _ m h1 h2 => by omega, fun _ => rfl⟩, ?_⟩
    rw [xf_X1_isAsSeen_l2, f5, rv_le (by omega) (by omega), if_pos (by omega)]
    rfl
  | succ d ih =>
    intro i fu hi hf
    obtain ⟨f, rfl⟩ : ∃ f, fu = f + 1 := ⟨fu - 1, by omega⟩
    obtain ⟨g1, g2, g3⟩ := f6 i (by omega)
    obtain ⟨y1, y2, y3⟩ := x6 i (by omega)
    rw [xf_X1_isAsSeen_l2, f5, rv_le (by omega) (by omega), if_neg (by omega), rv_ckn (by omega) (by omega), rv_ckn (by omega) (by omega), rv_ckn (by omega) (by omega), nI_clamp (by omega), g1, g2, g3, h17, rv_le (by omega) (by omega), rv_cbright w0 hs x1 (by omega) (by omega), rv_b1s, rv_ckm (by omega) (by omega)]
    have hb : rv_rw b rv_uu (rv_T b (b (33 + 3 * i))) (b (34 + 3 * i)) ≤ 255 := rv_br_le _ _ _
    rw [rv_eq (by omega) (by omega)]
    by_cases q1 : b 17 ≤ b (34 + 3 * i)
    · rw [if_pos q1]
      refine ⟨false, ⟨fun z => absurd z (by decide), fun z => ?_⟩, rfl⟩
      have := z i (by omega) (by omega)
      unfold rv_snb at this
      rw [Bool.and_eq_true, decide_eq_true_eq] at this
      omega
    · rw [if_neg q1]
      by_cases q2 : rv_rw b rv_uu (rv_T b (b (33 + 3 * i))) (b (34 + 3 * i)) = b (35 + 3 * i)
      · rw [if_pos q2, rv_lts, nI_1]
        obtain ⟨c, c1, c2⟩ := ih (i + 1) f (by omega) (by omega)
        refine ⟨c, c1.trans ⟨fun z m m1 m2 => ?_, fun z m m1 m2 => z m (by omega) m2⟩, c2⟩
        by_cases e : m = i
        · rw [e]
          unfold rv_snb
          rw [Bool.and_eq_true, decide_eq_true_eq, decide_eq_true_eq]
          exact ⟨by omega, q2⟩
        · exact z m (by omega) m2
      · rw [if_neg q2]
        refine ⟨false, ⟨fun z => absurd z (by decide), fun z => ?_⟩, rfl⟩
        have := z i (by omega) (by omega)
        unfold rv_snb at this
        rw [Bool.and_eq_true, decide_eq_true_eq, decide_eq_true_eq] at this
        exact absurd this.2 q2
theorem rv_ias {S : rs_St} {B : Nat} {b : Nat → Nat} (w : rv_wf2 b) (h : rv_fsc S B b) : xf_X1_isAsSeen S B = some (if rv_al (rv_snb b) (b 32) then 1 else 0) := by
  have x5 := w.2.2.2.2.2.1
  obtain ⟨c, c1, c2⟩ := rv_ias_l w h (b 32) 0 rs_fu (by omega) (by unfold rs_fu; omega)
  rw [show rv_al (rv_snb b) (b 32) = c from rv_bool (rv_al_iff.trans ⟨fun z => c1.mpr (fun m _ hm => z m hm), fun z m hm => c1.mp z m (by omega) hm⟩)]
  exact c2
/-! the reference: isSoWith -/
def rv_v8 (b : Nat → Nat) (n r : Nat) : Int32 := if r < b 17 then nI (rv_rw b rv_uu (rv_T b n) r) else -4
theorem rv_so26 {S : rs_St} {b : Nat → Nat} {n : Nat} (hn : n ≤ 20) (hR : b 17 ≤ 8) (h17 : rs_gi S 93 17 = nI (b 17)) (h98 : ∀ r, r < b 17 → rs_gi S 98 r = nI (rv_rw b rv_uu (rv_T b n) r)) (K : rs_St → Int32 → Option (Int32 × rs_St)) : ∀ (d r fu : Nat) (S1 : rs_St), r + d = 8 → d < fu → (∀ k j, ¬ (k = 100 ∧ 8 * n ≤ j ∧ j < 8 * n + 8) → rs_gi S1 k j = rs_gi S k j) ∧ S1.2 = S.2 ∧ (∀ x, x < r → rs_gi S1 100 (8 * n + x) = rv_v8 b n x) → ∃ S2, xf_X5_isSoWith_l26 (nI n) K fu S1 (nI r) = K S2 (nI 8) ∧ (∀ k j, ¬ (k = 100 ∧ 8 * n ≤ j ∧ j < 8 * n + 8) → rs_gi S2 k j = rs_gi S k j) ∧ S2.2 = S.2 ∧ (∀ x, x < 8 → rs_gi S2 100 (8 * n + x) = rv_v8 b n x) := by
  intro d
  induction d with
  | zero =>
    intro r fu S1 hr hf h
    obtain ⟨f, rfl⟩ : ∃ f, fu = f + 1 := ⟨fu - 1, by omega⟩
    obtain rfl : r = 8 := by omega
    refine ⟨S1, ?_, h⟩
    rw [xf_X5_isSoWith_l26, rv_8, rv_le (by omega) (by omega), if_pos (by omega)]
  | succ d ih =>
    intro r fu S1 hr hf h
    obtain ⟨f, rfl⟩ : ∃ f, fu = f + 1 := ⟨fu - 1, by omega⟩
    have e : xf_X5_isSoWith_l26 (nI n) K (f + 1) S1 (nI r) = xf_X5_isSoWith_l26 (nI n) K f (rs_si S1 100 (8 * n + r) (rv_v8 b n r)) (nI (r + 1)) := by
      rw [xf_X5_isSoWith_l26, rv_8, rv_le (by omega) (by omega), if_neg (by omega), pk_mul, nI_add, h.1 93 17 (by omega), h17, nI_1]
      simp (disch := omega) only [rs_jn, rs_lt, rv_ckn]
      rw [rv_le (by omega) (by omega), nI_clamp (by omega), nI_clamp (by omega)]
      unfold rv_v8
      by_cases q : b 17 ≤ r
      · rw [if_pos q, if_neg (by omega)]
      · rw [if_neg q, if_pos (by omega), h.1 _ _ (by omega), h98 r (by omega)]
    rw [e]
    refine ih (r + 1) f _ (by omega) (by omega) ⟨fun k j hk => ?_, h.2.1, fun x hx => ?_⟩
    · rw [rv_gsn (by omega)]
      exact h.1 k j hk
    · by_cases q : x = r
      · rw [q, rv_gss]
      · rw [rv_gsn (by omega)]
        exact h.2.2 x (by omega)
def rv_skF (S S2 : rs_St) : Prop := ∀ k j, rv_rel k j ∨ k < 38 ∨ k = 92 ∨ k = 101 ∨ (k = 91 ∧ 19 < j) → rs_gi S2 k j = rs_gi S k j
def rv_soP (S : rs_St) (b : Nat → Nat) (n : Nat) (S5 : rs_St) : Prop := rv_goP S5 b rv_uu n S5 ∧ rs_gi S5 91 13 = -4 ∧ rs_gi S5 91 14 = 0 ∧ rv_skF S S5 ∧ ∀ m r, m < n → r < 8 → rs_gi S5 100 (8 * m + r) = rv_v8 b m r
theorem rv_so13 {S : rs_St} {b : Nat → Nat} (w : rv_wf b) (ht : b 21 ≤ 99999) (K : rs_St → Int32 → Option (Int32 × rs_St)) : ∀ (d n fu : Nat) (S5 : rs_St), n + d = 21 → d < fu → rv_soP S b n S5 → ∃ S6, xf_X5_isSoWith_l13 K fu S5 (nI n) = K S6 (nI 21) ∧ rv_soP S b 21 S6 := by
  obtain ⟨hc, -, hR, -, -, hp⟩ := id w
  intro d
  induction d with
  | zero =>
    intro n fu S5 hn hf h
    obtain ⟨f, rfl⟩ : ∃ f, fu = f + 1 := ⟨fu - 1, by omega⟩
    obtain rfl : n = 21 := by omega
    refine ⟨S5, ?_, h⟩
    rw [xf_X5_isSoWith_l13, rv_20, rv_lt (by omega) (by omega), if_pos (by omega)]
  | succ d ih =>
    intro n fu S5 hn hf h
    obtain ⟨f, rfl⟩ : ∃ f, fu = f + 1 := ⟨fu - 1, by omega⟩
    obtain ⟨h1, h2, h3, h4, h5⟩ := h
    have hmul : n * b 20 ≤ 21 * 60 := Nat.mul_le_mul (by omega) hp.2
    obtain ⟨S9, e9, g9⟩ := rv_go1 w (fun l hl => by
      unfold rv_on
      rw [h2, h3]
      simp [rv_neg4 (n := l) (by omega), rv_uu]) (by unfold rv_T; omega) h1
    obtain ⟨S7, e7, k1, k2, k3⟩ := rv_so26 (S := S9) (b := b) (n := n) (by omega) hR.2 (by rw [g9.2.1 17 (by omega), rv_as_lo (by omega)]) (fun r hr => by rw [g9.2.2.1 (by omega) r hr]; rfl) (fun (S20 : rs_St) (x21 : Int32) => rs_lt (nI n + 1) (fun x22 => xf_X5_isSoWith_l13 K f S20 x22)) 8 0 rs_fu S9 (by omega) (by unfold rs_fu; omega) ⟨fun _ _ _ => rfl, rfl, fun x hx => by omega⟩
    have f9 : ∀ k j, k ≠ 91 → k ≠ 93 → k ≠ 98 → rs_gi S9 k j = rs_gi S5 k j := fun k j q1 q2 q3 => congrFun (g9.1.1 k q1 q2 q3) j
    have e13 : xf_X5_isSoWith_l13 K (f + 1) S5 (nI n) = xf_X5_isSoWith_l13 K f S7 (nI (n + 1)) := by
      rw [xf_X5_isSoWith_l13, rv_20, rv_lt (by omega) (by omega), if_neg (by omega), e9, rv_b1s]
      refine e7.trans ?_
      rw [rv_lts, nI_1]
    rw [e13]
    refine ih (n + 1) f S7 (by omega) (by omega) ⟨rv_go_re g9 (fun k j hk => k1 k j (by omega)), ?_, ?_, fun k j z => ?_, fun m r hm hr => ?_⟩
    · rw [k1 _ _ (by omega), g9.2.2.2.1 13 (by omega)]
      exact h2
    · rw [k1 _ _ (by omega), g9.2.2.2.1 14 (by omega)]
      exact h3
    · rw [k1 _ _ (by unfold rv_rel at z; omega)]
      by_cases q : k = 91
      · rw [q, g9.2.2.2.1 j (by unfold rv_rel at z; omega), ← q]
        exact h4 k j z
      · rw [f9 k j q (by unfold rv_rel at z; omega) (by unfold rv_rel at z; omega)]
        exact h4 k j z
    · by_cases q : m = n
      · rw [q]
        exact k3 r hr
      · rw [k1 _ _ (by omega), f9 _ _ (by omega) (by omega) (by omega)]
        exact h5 m r (by omega) hr
theorem rv_so86 {S : rs_St} {b : Nat → Nat} (w : rv_wf2 b) (hm : ∀ j, 22 ≤ j → j < 51 → rs_gi S 92 j = nI (b j)) (h100 : ∀ m r, m < 21 → r < 8 → rs_gi S 100 (8 * m + r) = rv_v8 b m r) (K : Int32 → Int32 → Option (Int32 × rs_St)) : ∀ (d i fu : Nat) (c : Bool), i + d = b 32 → d < fu → ∃ c2 : Bool, (c2 = true ↔ c = true ∧ ∀ m, i ≤ m → m < b 32 → rv_snb b m = true) ∧ xf_X5_isSoWith_l86 S K fu (if c then 1 else 0) (nI i) = K (if c2 then 1 else 0) (nI (b 32)) := by
  obtain ⟨w0, x1, x2, x3, x4, x5, x6⟩ := id w
  intro d
  induction d with
  | zero =>
    intro i fu c hi hf
    obtain ⟨f, rfl⟩ : ∃ f, fu = f + 1 := ⟨fu - 1, by omega⟩
    refine ⟨c, ⟨fun z => ⟨z, fun m h1 h2 => by omega⟩, fun z => z.1⟩, ?_⟩
    rw [xf_X5_isSoWith_l86, hm 32 (by omega) (by omega), rv_le (by omega) (by omega), if_pos (by omega), show i = b 32 by omega]
  | succ d ih =>
    intro i fu c hi hf
    obtain ⟨f, rfl⟩ : ∃ f, fu = f + 1 := ⟨fu - 1, by omega⟩
    obtain ⟨y1, y2, y3⟩ := x6 i (by omega)
    have e0 : xf_X5_isSoWith_l86 S K (f + 1) (if c then 1 else 0) (nI i) = xf_X5_isSoWith_l86 S K f (if (c && rv_snb b i) then 1 else 0) (nI (i + 1)) := by
      rw [xf_X5_isSoWith_l86, hm 32 (by omega) (by omega), rv_le (by omega) (by omega), if_neg (by omega), rv_3, pk_mul, rv_33, nI_add, nI_1, rv_lts, nI_1, rv_a2]
      simp (disch := omega) only [rs_jn, rs_lt, rv_ckn]
      rw [nI_clamp (by omega), nI_clamp (by omega), nI_clamp (by omega), hm _ (by omega) (by omega), hm _ (by omega) (by omega), hm _ (by omega) (by omega), show 33 + 3 * i + 1 = 34 + 3 * i by omega, show 33 + 3 * i + 2 = 35 + 3 * i by omega, rv_8, pk_mul, nI_add, rv_ckn (by omega) (by omega), nI_clamp (by omega), h100 _ _ (by omega) (by omega)]
      cases c with
      | false => rfl
      | true =>
        rw [if_pos rfl, if_neg (show ¬ (1 : Int32) = 0 by decide), Bool.true_and]
        unfold rv_v8 rv_snb
        have hb : rv_rw b rv_uu (rv_T b (b (33 + 3 * i))) (b (34 + 3 * i)) ≤ 255 := rv_br_le _ _ _
        by_cases q1 : b (34 + 3 * i) < b 17
        · rw [if_pos q1, rv_eq (by omega) (by omega), decide_eq_true q1, Bool.true_and]
          by_cases q2 : rv_rw b rv_uu (rv_T b (b (33 + 3 * i))) (b (34 + 3 * i)) = b (35 + 3 * i)
          · rw [if_pos q2, decide_eq_true q2]
            rfl
          · rw [if_neg q2, decide_eq_false q2]
            rfl
        · rw [if_neg q1, if_neg (fun z => rv_neg4 (show b (35 + 3 * i) < 2 ^ 31 by omega) z.symm), decide_eq_false q1, Bool.false_and]
          rfl
    rw [e0]
    obtain ⟨c2, h1, h2⟩ := ih (i + 1) f (c && rv_snb b i) (by omega) (by omega)
    refine ⟨c2, h1.trans ?_, h2⟩
    rw [Bool.and_eq_true]
    refine ⟨fun z => ⟨z.1.1, fun m m1 m2 => ?_⟩, fun z => ⟨⟨z.1, z.2 i (by omega) (by omega)⟩, fun m m1 m2 => z.2 m (by omega) m2⟩⟩
    by_cases e : m = i
    · rw [e]
      exact z.1.2
    · exact z.2 m (by omega) m2
theorem rv_isSo {S : rs_St} {a : Nat → Nat} {j v : Nat} (w : rv_wf2 a) (hm : ∀ j, j < 51 → rs_gi S 92 j = nI (a j)) (hj : j < 16) (wv : rv_wf (rv_up a j v)) : ∃ S2, xf_X5_isSoWith S (nI j) (nI v) = some ((if rv_al (rv_snb (rv_up a j v)) (a 32) then 1 else 0), S2) ∧ rv_skF S S2 ∧ ∀ m r, m < 21 → r < 8 → rs_gi S2 100 (8 * m + r) = rv_v8 (rv_up a j v) m r := by
  have w2 : rv_wf2 (rv_up a j v) := rv_wf2_cg (fun i hi => rv_up_n (by omega)) wv w
  have x5 := w.2.2.2.2.2.1
  obtain ⟨S2, e2, s2⟩ := rv_starts S
  have s2' := s2
  obtain ⟨h1, h2, h3, h4, h5, h6, h7, h8, h9, h10⟩ := s2
  have P0 : rv_soP S (rv_up a j v) 0 (rs_si S2 93 j (nI v)) := by
    refine ⟨rv_go93 s2' hm (by omega), ?_, ?_, fun k i z => ?_, fun m r h => by omega⟩
    · rw [rv_gsn (by omega)]
      exact h5
    · rw [rv_gsn (by omega)]
      exact h6
    · rw [rv_gsn (by unfold rv_rel at z; omega)]
      by_cases q : k = 91
      · rw [q]
        exact h4 i (by unfold rv_rel at z; omega)
      · exact congrFun (h1 k q (by unfold rv_rel at z; omega)) i
  obtain ⟨S6, e6, p1, p2, p3, p4, p5⟩ := rv_so13 wv (by rw [rv_up_n (by omega)]; exact w.2.1) (fun (S23 : rs_St) (x24 : Int32) => xf_X5_isSoWith_l86 S23 (fun (x38 : Int32) (x39 : Int32) => if x38 = 0 ∨ x38 = 1 then some (x38, S23) else none) rs_fu 1 0) 21 0 rs_fu _ (by omega) (by unfold rs_fu; omega) P0
  obtain ⟨c, c1, c2⟩ := rv_so86 (S := S6) w2 (fun i i1 i2 => by rw [p4 _ _ (by omega), rv_up_n (by omega)]; exact hm i i2) p5 (fun (x38 : Int32) (x39 : Int32) => if x38 = 0 ∨ x38 = 1 then some (x38, S6) else none) (rv_up a j v 32) 0 rs_fu true (by omega) (by rw [rv_up_n (by omega)]; unfold rs_fu; omega)
  rw [rv_up_n (show 32 ≠ j by omega)] at c1
  refine ⟨S6, ?_, p4, p5⟩
  unfold xf_X5_isSoWith
  rw [e2, rv_b1s, rv_ckn (by omega) (by omega), nI_clamp (by omega), rv_lts]
  refine e6.trans ?_
  refine c2.trans ?_
  rw [show rv_al (rv_snb (rv_up a j v)) (a 32) = c from rv_bool (rv_al_iff.trans ⟨fun z => c1.mpr ⟨rfl, fun m _ hm => z m hm⟩, fun z m hm => (c1.mp z).2 m (by omega) hm⟩)]
  cases c with
  | true => rfl
  | false => rfl
/-! the mask of what fits -/
def rv_ft (P : Nat → Bool) : Nat → Nat → Int32 → Int32
  | 0, _, x => x
  | d + 1, c, x => rv_ft P d (c + 1) (if P c then x ||| (1 <<< (nI c &&& 31)) else x)
theorem rv_wh_l {S : rs_St} {a : Nat → Nat} {l p : Nat} (w : rv_wf2 a) (hm : ∀ j, j < 51 → rs_gi S 92 j = nI (a j)) (hl : l < a 16) (hp : p < 4) (hp0 : rv_pl p = 0) (K : rs_St → Int32 → Int32 → Option (Int32 × rs_St)) : ∀ (d c fu : Nat) (S4 : rs_St) (x : Int32), c + d = rv_ph p + 1 → d < fu → rv_skF S S4 → ∃ S5 y, xf_X5_which_l15 (nI l) (nI p) K fu S4 x (nI c) = K S5 (rv_ft (fun v => rv_al (rv_snb (rv_up a (4 * l + p) v)) (a 32)) d c x) y ∧ rv_skF S S5 := by
  have hph := @rv_ph_le p
  have hc := w.1.1
  intro d
  induction d with
  | zero =>
    intro c fu S4 x hcd hf hs
    obtain ⟨f, rfl⟩ : ∃ f, fu = f + 1 := ⟨fu - 1, by omega⟩
    refine ⟨S4, nI c, ?_, hs⟩
    rw [xf_X5_which_l15, rv_mostOf _ hp, rv_b1s, rv_lt (by omega) (by omega), if_pos (by omega)]
    rfl
  | succ d ih =>
    intro c fu S4 x hcd hf hs
    obtain ⟨f, rfl⟩ : ∃ f, fu = f + 1 := ⟨fu - 1, by omega⟩
    obtain ⟨S5, e5, k5, -⟩ := rv_isSo (S := S4) (j := 4 * l + p) (v := c) w (fun j hj => (hs 92 j (by omega)).trans (hm j hj)) (by omega) (rv_wfpart w.1 (by omega) hp (by omega) (by omega))
    have hs5 : rv_skF S S5 := fun k i z => (k5 k i z).trans (hs k i z)
    rw [xf_X5_which_l15, rv_mostOf _ hp, rv_b1s, rv_lt (by omega) (by omega), if_neg (by omega), rv_4, pk_mul, nI_add, e5, rv_b2s, rv_ft]
    unfold xf_X5_flag
    cases hb : rv_al (rv_snb (rv_up a (4 * l + p) c)) (a 32) with
    | true =>
      rw [if_pos rfl, if_neg (show ¬ (1 : Int32) = 0 by decide), rv_b1s, rv_lts, rv_lts, nI_1]
      exact ih (c + 1) f S5 _ (by omega) (by omega) hs5
    | false =>
      rw [if_neg (show ¬ false = true by decide), if_pos rfl, rv_b1s, rv_lts, rv_lts, nI_1, Int32.zero_shiftLeft, Int32.or_zero]
      exact ih (c + 1) f S5 _ (by omega) (by omega) hs5
theorem rv_fit_l {S : rs_St} {a : Nat → Nat} {l p : Nat} (w : rv_wf2 a) (hl : l < a 16) (hp : p < 4) (hp0 : rv_pl p = 0) (K : rs_St → Int32 → Int32 → Option (Int32 × rs_St)) : ∀ (d c fu : Nat) (S4 : rs_St) (x : Int32), c + d = rv_ph p + 1 → d < fu → rv_drf S S4 → (∃ v, v ≤ rv_ph p ∧ rv_fsc S4 19 (rv_up a (4 * l + p) v)) → ∃ S5 y, xf_X4_fitting_l33 (nI l) (nI p) K fu S4 x (nI c) = K S5 (rv_ft (fun v => rv_al (rv_snb (rv_up a (4 * l + p) v)) (a 32)) d c x) y ∧ rv_drf S S5 ∧ ∃ v, v ≤ rv_ph p ∧ rv_fsc S5 19 (rv_up a (4 * l + p) v) := by
  have hph := @rv_ph_le p
  have hc := w.1.1
  intro d
  induction d with
  | zero =>
    intro c fu S4 x hcd hf hs hv
    obtain ⟨f, rfl⟩ : ∃ f, fu = f + 1 := ⟨fu - 1, by omega⟩
    refine ⟨S4, nI c, ?_, hs, hv⟩
    rw [xf_X4_fitting_l33, rv_ckn hp (by omega), nI_clamp (by omega), (rv_sv4 hp).2.1, rv_lt (by omega) (by omega), if_pos (by omega)]
    rfl
  | succ d ih =>
    intro c fu S4 x hcd hf hs hv
    obtain ⟨f, rfl⟩ : ∃ f, fu = f + 1 := ⟨fu - 1, by omega⟩
    obtain ⟨v, v2, hv⟩ := hv
    obtain ⟨S3, e3, hs3, hb3⟩ := rv_scb (l := l) (p := p) (v := c) hv.1 (by rw [rv_up_n (by omega)]; exact hl) (rv_wfpart w.1 (by omega) hp (by omega) v2) hp (by omega) (by omega) rfl
    rw [rv_up_up] at hs3
    have hd3 : rv_drf S S3 := rv_drf_bc (by omega) hs hb3
    have hf3 : rv_fsc S3 19 (rv_up a (4 * l + p) c) := ⟨hs3, rv_rst_cg (fun j hj => by rw [rv_up_n (by omega), rv_up_n (by omega)]) (fun k j z => hb3.1 _ _ (by omega) (by omega)) hv.2⟩
    have wc := rv_wfpart (v := c) w.1 (show l < 4 by omega) hp (by omega) (by omega)
    have e4 := rv_ias (rv_wf2_cg (fun i hi => rv_up_n (by omega)) wc w) hf3
    rw [rv_up_n (show 32 ≠ 4 * l + p by omega)] at e4
    rw [xf_X4_fitting_l33, rv_ckn hp (by omega), nI_clamp (by omega), (rv_sv4 hp).2.1, rv_lt (by omega) (by omega), if_neg (by omega), rv_ckn (by omega) (by omega), nI_clamp (by omega), e3, rv_b1s, e4, rv_b1s, nI_1, rv_ft]
    simp only [rs_jn, rs_lt]
    cases hb : rv_al (rv_snb (rv_up a (4 * l + p) c)) (a 32) with
    | true =>
      rw [if_pos rfl, if_neg (show ¬ (1 : Int32) = 0 by decide)]
      exact ih (c + 1) f S3 _ (by omega) (by omega) hd3 ⟨c, by omega, hf3⟩
    | false =>
      rw [if_neg (show ¬ false = true by decide), if_pos rfl]
      exact ih (c + 1) f S3 _ (by omega) (by omega) hd3 ⟨c, by omega, hf3⟩
theorem rv_skF_inv {S S2 : rs_St} (hI : rv_Inv S) (h : rv_skF S S2) : rv_Inv S2 := rv_rfF_inv hI (fun k j z => h k j (by
  rcases z with z | z | z
  · exact Or.inl z
  · omega
  · omega))
theorem rv_fitting {S : rs_St} {a : Nat → Nat} {l p : Nat} (hI : rv_Inv S) (hn : rv_now S a) (hl : l < a 16) (hp : p < 4) (hp0 : rv_pl p = 0) : ∃ S2, xf_X4_fitting S (nI l) (nI p) = some (rv_ft (fun v => rv_al (rv_snb (rv_up a (4 * l + p) v)) (a 32)) (rv_ph p + 1) 0 0, S2) ∧ rv_drf S S2 ∧ ∃ v, v ≤ rv_ph p ∧ rv_fsc S2 19 (rv_up a (4 * l + p) v) := by
  obtain ⟨w, hm, hf⟩ := id hn
  have hc := w.1.1
  have hph := @rv_ph_le p
  obtain ⟨S1, e1, c1, d1⟩ := rv_draft hI hn
  obtain ⟨pr1, pr2⟩ := rv_prt w.1 hl hp
  obtain ⟨S2, y, e2, d2, h2⟩ := rv_fit_l (S := S) w hl hp hp0 (fun (S24 : rs_St) (x25 : Int32) (x26 : Int32) => some (x25, S24)) (rv_ph p + 1) 0 rs_fu S1 0 (by omega) (by unfold rs_fu; omega) d1 ⟨a (4 * l + p), pr2, by rw [rv_up_id]; exact c1⟩
  refine ⟨S2, ?_, d2, h2⟩
  unfold xf_X4_fitting
  rw [rv_lampAt hf.1.1 hc hl, rv_b1s]
  simp only [rs_om]
  rw [if_pos (rv_kd0 (by omega)), e1, rv_b1s, rv_ckn hp (by omega), nI_clamp (by omega), (rv_sv4 hp).1, hp0, rv_lts]
  exact e2
theorem rv_whichs {S : rs_St} {a1 : Int32} (hI : rv_Inv S) {p : Nat} (hp : p < 4) (hp0 : rv_pl p = 0) : ∃ (r : Int32) (S1 S2 : rs_St), xf_X4_fitting S a1 (nI p) = some (r, S1) ∧ xf_X5_which S1 a1 (nI p) = some (r, S2) ∧ rv_Inv S2 := by
  obtain ⟨⟨a, hn⟩, -⟩ := id hI
  obtain ⟨w, hm, hf⟩ := id hn
  have hc := w.1.1
  have hm16 := hm 16 (by omega)
  have hph := @rv_ph_le p
  rcases rv_lampd a1 (a 16) hc with ⟨l, hl, rfl⟩ | hx
  · obtain ⟨S2, e2, d2, -⟩ := rv_fitting hI hn hl hp hp0
    have i2 := rv_drf_inv hI d2
    have hm2 : ∀ j, j < 51 → rs_gi S2 92 j = nI (a j) := fun j hj => by rw [d2.1 _ _ (by omega) (by omega)]; exact hm j hj
    obtain ⟨S3, y, e3, k3⟩ := rv_wh_l w hm2 hl hp hp0 (fun (S17 : rs_St) (x18 : Int32) (x19 : Int32) => some (x18, S17)) (rv_ph p + 1) 0 rs_fu S2 0 (by omega) (by unfold rs_fu; omega) (fun _ _ _ => rfl)
    refine ⟨_, S2, S3, e2, ?_, rv_skF_inv i2 k3⟩
    unfold xf_X5_which
    rw [rv_isLamp (hm2 16 (by omega)) hc hl, rv_b1s, if_neg (by decide)]
    exact e3
  · refine ⟨-1, S, S, ?_, ?_, hI⟩
    · unfold xf_X4_fitting
      rw [rv_lampAt0 hf.1.1 hx, rv_b1s]
      rfl
    · unfold xf_X5_which
      rw [rv_isLamp0 hm16 hc hx, rv_b1s, if_pos rfl]
theorem rv_kinds : pt_kinds rv_Inv := by
  intro S a1 hI
  obtain ⟨r, S1, S2, e1, e2, i2⟩ := rv_whichs (a1 := a1) hI (p := 0) (by omega) rfl
  refine ⟨r, S1, S2, ?_, ?_, i2⟩
  · unfold xf_X4_kinds
    rw [show xf_X4_fitting S a1 0 = some (r, S1) from e1, rv_b2s]
  · unfold xf_X5_kinds
    rw [show xf_X5_which S1 a1 0 = some (r, S2) from e2, rv_b2s]
theorem rv_phases : pt_phases rv_Inv := by
  intro S a1 hI
  obtain ⟨r, S1, S2, e1, e2, i2⟩ := rv_whichs (a1 := a1) hI (p := 3) (by omega) rfl
  refine ⟨r, S1, S2, ?_, ?_, i2⟩
  · unfold xf_X4_phases
    rw [show xf_X4_fitting S a1 3 = some (r, S1) from e1, rv_b2s]
  · unfold xf_X5_phases
    rw [show xf_X5_which S1 a1 3 = some (r, S2) from e2, rv_b2s]
