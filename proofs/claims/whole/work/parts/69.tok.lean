/-! the text: tokens -/
def tq_run (T : Nat → Nat) (lo hi : Nat) : Nat → Nat → Nat
  | 0, p => p
  | d + 1, p => if lo ≤ T p ∧ T p ≤ hi then tq_run T lo hi d (p + 1) else p
def tq_rn (T : Nat → Nat) (n lo hi p : Nat) : Nat := tq_run T lo hi (n - p) p
theorem tq_run_b {T : Nat → Nat} {lo hi : Nat} : ∀ {d p : Nat}, p ≤ tq_run T lo hi d p ∧ tq_run T lo hi d p ≤ p + d
  | 0, p => ⟨Nat.le_refl _, Nat.le_refl _⟩
  | d + 1, p => by
    rw [tq_run]
    have ih := tq_run_b (T := T) (lo := lo) (hi := hi) (d := d) (p := p + 1)
    split
    · omega
    · omega
theorem tq_run_in {T : Nat → Nat} {lo hi : Nat} : ∀ {d p i : Nat}, p ≤ i → i < tq_run T lo hi d p → lo ≤ T i ∧ T i ≤ hi
  | 0, p, i, h1, h2 => by
    rw [tq_run] at h2
    omega
  | d + 1, p, i, h1, h2 => by
    rw [tq_run] at h2
    by_cases q : lo ≤ T p ∧ T p ≤ hi
    · rw [if_pos q] at h2
      by_cases e : i = p
      · rw [e]
        exact q
      · exact tq_run_in (d := d) (p := p + 1) (by omega) h2
    · rw [if_neg q] at h2
      omega
theorem tq_rn_b {T : Nat → Nat} {n lo hi p : Nat} (hp : p ≤ n) : p ≤ tq_rn T n lo hi p ∧ tq_rn T n lo hi p ≤ n := by
  have h := tq_run_b (T := T) (lo := lo) (hi := hi) (d := n - p) (p := p)
  unfold tq_rn
  omega
theorem tq_rn_1 {T : Nat → Nat} {n lo hi p : Nat} (hp : p < n) (h : lo ≤ T p ∧ T p ≤ hi) : p < tq_rn T n lo hi p := by
  unfold tq_rn
  obtain ⟨d, hd⟩ : ∃ d, n - p = d + 1 := ⟨n - p - 1, by omega⟩
  rw [hd, tq_run, if_pos h]
  have := tq_run_b (T := T) (lo := lo) (hi := hi) (d := d) (p := p + 1)
  omega
/-- where the token behind p begins, of which sort it is (0 name, 1 number, 2 stop, 3 end, 4 none), where it ends, whether it is none -/
def tq_ts (T : Nat → Nat) (n p : Nat) : Nat := tq_rn T n 32 32 p
def tq_tk (T : Nat → Nat) (n p : Nat) : Nat := if n ≤ tq_ts T n p then 3 else if 97 ≤ T (tq_ts T n p) ∧ T (tq_ts T n p) ≤ 122 then 0 else if 48 ≤ T (tq_ts T n p) ∧ T (tq_ts T n p) ≤ 57 then 1 else if T (tq_ts T n p) = 59 then 2 else 4
def tq_te (T : Nat → Nat) (n p : Nat) : Nat := if tq_tk T n p = 0 then tq_rn T n 97 122 (tq_ts T n p) else if tq_tk T n p = 1 then tq_rn T n 48 57 (tq_ts T n p) else if tq_tk T n p = 2 then tq_ts T n p + 1 else tq_ts T n p
def tq_bad (T : Nat → Nat) (n p : Nat) : Bool := decide (tq_tk T n p = 4) || (decide (tq_tk T n p = 1) && decide (2 < tq_te T n p - tq_ts T n p))
theorem tq_ts_b {T : Nat → Nat} {n p : Nat} (hp : p ≤ n) : p ≤ tq_ts T n p ∧ tq_ts T n p ≤ n := tq_rn_b hp
theorem tq_tk3 {T : Nat → Nat} {n p : Nat} (h : n ≤ tq_ts T n p) : tq_tk T n p = 3 := if_pos h
theorem tq_tkn {T : Nat → Nat} {n p : Nat} (h : ¬ tq_tk T n p = 3) : tq_ts T n p < n := by
  rcases Nat.lt_or_ge (tq_ts T n p) n with q | q
  · exact q
  · exact absurd (tq_tk3 q) h
theorem tq_tk0 {T : Nat → Nat} {n p : Nat} (h : ¬ n ≤ tq_ts T n p) : tq_tk T n p = if 97 ≤ T (tq_ts T n p) ∧ T (tq_ts T n p) ≤ 122 then 0 else if 48 ≤ T (tq_ts T n p) ∧ T (tq_ts T n p) ≤ 57 then 1 else if T (tq_ts T n p) = 59 then 2 else 4 := if_neg h
theorem tq_te_b {T : Nat → Nat} {n p : Nat} (hp : p ≤ n) (h3 : ¬ tq_tk T n p = 3) (h4 : ¬ tq_tk T n p = 4) : p < tq_te T n p ∧ tq_ts T n p < tq_te T n p ∧ tq_te T n p ≤ n := by
  have hs := tq_ts_b (T := T) hp
  have hl := tq_tkn h3
  have hk := tq_tk0 (T := T) (n := n) (p := p) (by omega)
  unfold tq_te
  by_cases c0 : 97 ≤ T (tq_ts T n p) ∧ T (tq_ts T n p) ≤ 122
  · rw [if_pos c0] at hk
    rw [if_pos hk]
    have b1 := tq_rn_b (T := T) (lo := 97) (hi := 122) hs.2
    have b2 := tq_rn_1 hl c0
    omega
  · rw [if_neg c0] at hk
    by_cases c1 : 48 ≤ T (tq_ts T n p) ∧ T (tq_ts T n p) ≤ 57
    · rw [if_pos c1] at hk
      rw [if_neg (by omega), if_pos hk]
      have b1 := tq_rn_b (T := T) (lo := 48) (hi := 57) hs.2
      have b2 := tq_rn_1 hl c1
      omega
    · rw [if_neg c1] at hk
      by_cases c2 : T (tq_ts T n p) = 59
      · rw [if_pos c2] at hk
        rw [if_neg (by omega), if_neg (by omega), if_pos hk]
        omega
      · rw [if_neg c2] at hk
        exact absurd hk h4
theorem tq_bad4 {T : Nat → Nat} {n p : Nat} (h : tq_bad T n p = false) : ¬ tq_tk T n p = 4 ∧ (tq_tk T n p = 1 → tq_te T n p - tq_ts T n p ≤ 2) := by
  unfold tq_bad at h
  rw [Bool.or_eq_false_iff, decide_eq_false_iff_not, Bool.and_eq_false_iff, decide_eq_false_iff_not, decide_eq_false_iff_not] at h
  refine ⟨h.1, fun h1 => ?_⟩
  rcases h.2 with q | q
  · exact absurd h1 q
  · omega
/-- the value of a number's figures -/
def tq_vv (T : Nat → Nat) (s : Nat) : Nat → Nat
  | 0 => 0
  | i + 1 => 10 * tq_vv T s i + T (s + i) - 48
/-! the class: tokens -/
def tq_cT (T : Nat → Nat) (n : Nat) (S : rs_St) : Prop := n ≤ 160 ∧ (∀ i, i < n → T i < 128) ∧ rs_gi S 80 1 = nI n ∧ ∀ i, i < n → rs_gi S 81 i = nI (T i)
/-- what reading a token leaves -/
def tq_f80 (S S2 : rs_St) : Prop := ∀ k j, ¬ (k = 80 ∧ (j = 2 ∨ j = 3 ∨ j = 4 ∨ j = 6)) → rs_gi S2 k j = rs_gi S k j
theorem tq_cT_cg {T : Nat → Nat} {n : Nat} {S S2 : rs_St} (h : tq_f80 S S2) (c : tq_cT T n S) : tq_cT T n S2 := ⟨c.1, c.2.1, (h _ _ (by omega)).trans c.2.2.1, fun i hi => (h _ _ (by omega)).trans (c.2.2.2 i hi)⟩
theorem tq_take_l {T : Nat → Nat} {n : Nat} {S : rs_St} {lo hi : Nat} (hl : lo ≤ 200) (hh : hi ≤ 200) (c : tq_cT T n S) : ∀ (d p fu : Nat) (S1 : rs_St), d = n - p → p ≤ n → d < fu → (∀ k j, ¬ (k = 80 ∧ j = 4) → rs_gi S1 k j = rs_gi S k j) → rs_gi S1 80 4 = nI p → ∃ S2, xf_X3_takeAll_l0 (nI lo) (nI hi) (fun (S8 : rs_St) => some S8) fu S1 = some S2 ∧ (∀ k j, ¬ (k = 80 ∧ j = 4) → rs_gi S2 k j = rs_gi S k j) ∧ rs_gi S2 80 4 = nI (tq_run T lo hi d p) := by
  obtain ⟨c1, c2, c3, c4⟩ := c
  intro d
  induction d with
  | zero =>
    intro p fu S1 hd hp hf hg h4
    obtain ⟨f, rfl⟩ : ∃ f, fu = f + 1 := ⟨fu - 1, by omega⟩
    refine ⟨S1, ?_, hg, h4⟩
    rw [xf_X3_takeAll_l0, hg 80 1 (by omega), c3, h4, rv_le (by omega) (by omega), if_pos (by omega)]
  | succ d ih =>
    intro p fu S1 hd hp hf hg h4
    obtain ⟨f, rfl⟩ : ∃ f, fu = f + 1 := ⟨fu - 1, by omega⟩
    have hT := c2 p (by omega)
    have e1 : xf_X3_takeAll_l0 (nI lo) (nI hi) (fun (S8 : rs_St) => some S8) (f + 1) S1 = if lo ≤ T p ∧ T p ≤ hi then xf_X3_takeAll_l0 (nI lo) (nI hi) (fun (S8 : rs_St) => some S8) f (rs_si S1 80 4 (nI (p + 1))) else some S1 := by
      rw [xf_X3_takeAll_l0, hg 80 1 (by omega), c3, h4, rv_le (by omega) (by omega), if_neg (by omega), rv_ckn (by omega) (by omega), rv_ckn (by omega) (by omega), nI_clamp (by omega), hg 81 p (by omega), c4 p (by omega), rv_lt (by omega) (by omega), rv_lt (by omega) (by omega), nI_1, rv_lts]
      by_cases q1 : T p < lo
      · rw [if_pos q1, if_neg (by omega)]
      · rw [if_neg q1]
        by_cases q2 : hi < T p
        · rw [if_pos q2, if_neg (by omega)]
        · rw [if_neg q2, if_pos (by omega)]
    rw [e1, tq_run]
    by_cases q : lo ≤ T p ∧ T p ≤ hi
    · rw [if_pos q, if_pos q]
      exact ih (p + 1) f _ (by omega) (by omega) (by omega) (fun k j hk => (rv_gsn (by omega)).trans (hg k j hk)) (rv_gss _ _ _ _)
    · rw [if_neg q, if_neg q]
      exact ⟨S1, rfl, hg, h4⟩
theorem tq_take {T : Nat → Nat} {n : Nat} {S : rs_St} {lo hi p : Nat} (hl : lo ≤ 200) (hh : hi ≤ 200) (c : tq_cT T n S) (hp : p ≤ n) (h4 : rs_gi S 80 4 = nI p) : ∃ S2, xf_X3_takeAll S (nI lo) (nI hi) = some S2 ∧ (∀ k j, ¬ (k = 80 ∧ j = 4) → rs_gi S2 k j = rs_gi S k j) ∧ rs_gi S2 80 4 = nI (tq_rn T n lo hi p) := by
  have := c.1
  exact tq_take_l hl hh c (n - p) p rs_fu S rfl hp (by unfold rs_fu; omega) (fun _ _ _ => rfl) h4
theorem tq_32' : (32 : Int32) = nI 32 := rfl
theorem tq_48 : (48 : Int32) = nI 48 := rfl
theorem tq_57 : (57 : Int32) = nI 57 := rfl
theorem tq_59 : (59 : Int32) = nI 59 := rfl
theorem tq_97' : (97 : Int32) = nI 97 := rfl
theorem tq_122 : (122 : Int32) = nI 122 := rfl
theorem tq_n1 : ¬ (0 : Int32) ≤ -1 := by decide
/-- advance -/
theorem tq_adv {T : Nat → Nat} {n p : Nat} {S : rs_St} (c : tq_cT T n S) (hp : p ≤ n) (h4 : rs_gi S 80 4 = nI p) (h6 : rs_gi S 80 6 = 0) : ∃ S2, xf_X3_advance S = some S2 ∧ tq_f80 S S2 ∧ rs_gi S2 80 3 = nI (tq_ts T n p) ∧ (tq_bad T n p = true → rs_gi S2 80 6 = 1) ∧ (tq_bad T n p = false → rs_gi S2 80 6 = 0 ∧ rs_gi S2 80 2 = nI (tq_tk T n p) ∧ rs_gi S2 80 4 = nI (tq_te T n p)) := by
  obtain ⟨c1, c2, c3, c4⟩ := id c
  obtain ⟨S1, e1, g1, q1⟩ := tq_take (lo := 32) (hi := 32) (by omega) (by omega) c hp h4
  obtain ⟨s, hs⟩ : ∃ s, s = tq_ts T n p := ⟨_, rfl⟩
  have hsb := tq_ts_b (T := T) hp
  rw [← hs] at hsb
  have q1' : rs_gi S1 80 4 = nI s := by rw [q1, hs]; rfl
  have e1' : xf_X3_takeAll S 32 32 = some S1 := e1
  have g3 : ∀ k j, ¬ (k = 80 ∧ (j = 3 ∨ j = 4)) → rs_gi (rs_si S1 80 3 (nI s)) k j = rs_gi S k j := fun k j h => by rw [rv_gsn (by omega)]; exact g1 k j (by omega)
  have h34 : rs_gi (rs_si S1 80 3 (nI s)) 80 4 = nI s := by rw [rv_gsn (by omega)]; exact q1'
  have h31 : rs_gi (rs_si S1 80 3 (nI s)) 80 1 = nI n := by rw [g3 _ _ (by omega)]; exact c3
  have c3' : tq_cT T n (rs_si S1 80 3 (nI s)) := ⟨c1, c2, h31, fun i hi => (g3 _ _ (by omega)).trans (c4 i hi)⟩
  unfold xf_X3_advance
  rw [e1', rv_b1s, q1', rv_lts, h34, h31]
  generalize hS3 : rs_si S1 80 3 (nI s) = S3 at *
  have h33 : rs_gi S3 80 3 = nI s := by rw [← hS3, rv_gss]
  rw [← hs]
  by_cases z : n ≤ s
  · have ek : tq_tk T n p = 3 := tq_tk3 (by rw [← hs]; exact z)
    have ee : tq_te T n p = s := by unfold tq_te; rw [ek, hs]; rfl
    have eb : tq_bad T n p = false := by unfold tq_bad; rw [ek]; rfl
    simp only [rs_jn, rs_lt]
    rw [rv_le (by omega) (by omega), if_pos z, if_neg tq_n1]
    refine ⟨_, rfl, fun k j h => (rv_gsn (by omega)).trans (g3 k j (by omega)), (rv_gsn (by omega)).trans h33, fun h => absurd (eb.symm.trans h) (by decide), fun _ => ⟨?_, ?_, ?_⟩⟩
    · rw [rv_gsn (by omega), g3 _ _ (by omega)]
      exact h6
    · rw [rv_gss, ek]
      rfl
    · rw [rv_gsn (by omega), h34, ee]
  · have hk0 := tq_tk0 (T := T) (n := n) (p := p) (by rw [← hs]; exact z)
    rw [← hs] at hk0
    have hTs := c2 s (by omega)
    have h0s : (0 : Int32) ≤ nI (T s) := Int32.not_lt.mp (nI_pos (by omega))
    simp only [rs_jn, rs_lt]
    rw [rv_le (by omega) (by omega), if_neg z, rv_ckn (by omega) (by omega), nI_clamp (by omega), c3'.2.2.2 s (by omega), if_pos h0s, tq_97', tq_48, tq_122, tq_57, tq_59, rv_lt (by omega) (by omega), rv_lt (by omega) (by omega), rv_lt (by omega) (by omega), rv_lt (by omega) (by omega), rv_eq (by omega) (by omega)]
    -- the stop, or none
    have hother : ¬ (97 ≤ T s ∧ T s ≤ 122) → ¬ (48 ≤ T s ∧ T s ≤ 57) → ∃ S2, (if T s = 59 then some (rs_si (rs_si S3 80 2 2) 80 4 (rs_gi (rs_si S3 80 2 2) 80 4 + 1)) else some (rs_si S3 80 6 1)) = some S2 ∧ tq_f80 S S2 ∧ rs_gi S2 80 3 = nI s ∧ (tq_bad T n p = true → rs_gi S2 80 6 = 1) ∧ (tq_bad T n p = false → rs_gi S2 80 6 = 0 ∧ rs_gi S2 80 2 = nI (tq_tk T n p) ∧ rs_gi S2 80 4 = nI (tq_te T n p)) := fun n0 n1 => by
      rw [if_neg n0, if_neg n1] at hk0
      by_cases y : T s = 59
      · rw [if_pos y] at hk0
        have ee : tq_te T n p = s + 1 := by unfold tq_te; rw [hk0, ← hs]; rfl
        have eb : tq_bad T n p = false := by unfold tq_bad; rw [hk0]; rfl
        rw [if_pos y]
        refine ⟨_, rfl, fun k j h => (rv_gsn (by omega)).trans ((rv_gsn (by omega)).trans (g3 k j (by omega))), (rv_gsn (by omega)).trans ((rv_gsn (by omega)).trans h33), fun h => absurd (eb.symm.trans h) (by decide), fun _ => ⟨?_, ?_, ?_⟩⟩
        · rw [rv_gsn (by omega), rv_gsn (by omega), g3 _ _ (by omega)]
          exact h6
        · rw [rv_gsn (by omega), rv_gss, hk0]
          rfl
        · rw [rv_gss, rv_gsn (by omega), h34, nI_1, ee]
      · rw [if_neg y] at hk0
        have eb : tq_bad T n p = true := by unfold tq_bad; rw [hk0]; rfl
        rw [if_neg y]
        exact ⟨_, rfl, fun k j h => (rv_gsn (by omega)).trans (g3 k j (by omega)), (rv_gsn (by omega)).trans h33, fun _ => rv_gss _ _ _ _, fun h => absurd (eb.symm.trans h) (by decide)⟩
    -- a number
    have hnum : ¬ (97 ≤ T s ∧ T s ≤ 122) → (48 ≤ T s ∧ T s ≤ 57) → ∃ S2, rs_b1 (xf_X3_takeAll (rs_si S3 80 2 1) (nI 48) (nI 57)) (fun S20 => if ((rs_gi S20 80 4) - (rs_gi S20 80 3)) ≤ 2 then some S20 else some (rs_si S20 80 6 1)) = some S2 ∧ tq_f80 S S2 ∧ rs_gi S2 80 3 = nI s ∧ (tq_bad T n p = true → rs_gi S2 80 6 = 1) ∧ (tq_bad T n p = false → rs_gi S2 80 6 = 0 ∧ rs_gi S2 80 2 = nI (tq_tk T n p) ∧ rs_gi S2 80 4 = nI (tq_te T n p)) := fun n0 n1 => by
      rw [if_neg n0, if_pos n1] at hk0
      have ee : tq_te T n p = tq_rn T n 48 57 s := by unfold tq_te; rw [hk0, ← hs]; rfl
      have hb := tq_rn_b (T := T) (lo := 48) (hi := 57) hsb.2
      rw [← ee] at hb
      obtain ⟨S2, e2, g2, q2⟩ := tq_take (S := rs_si S3 80 2 1) (lo := 48) (hi := 57) (p := s) (by omega) (by omega) ⟨c1, c2, (rv_gsn (by omega)).trans h31, fun i hi => (rv_gsn (by omega)).trans (c3'.2.2.2 i hi)⟩ hsb.2 ((rv_gsn (by omega)).trans h34)
      rw [← ee] at q2
      have k3 : rs_gi S2 80 3 = nI s := by rw [g2 _ _ (by omega), rv_gsn (by omega)]; exact h33
      have gg : ∀ k j, ¬ (k = 80 ∧ (j = 2 ∨ j = 3 ∨ j = 4)) → rs_gi S2 k j = rs_gi S k j := fun k j h => by rw [g2 _ _ (by omega), rv_gsn (by omega)]; exact g3 k j (by omega)
      have eb : tq_bad T n p = decide (2 < tq_te T n p - s) := by unfold tq_bad; rw [hk0, ← hs]; rfl
      rw [e2, rv_b1s, q2, k3, pk_sub hb.1, rv_2, rv_le (by omega) (by omega)]
      by_cases y : tq_te T n p - s ≤ 2
      · rw [if_pos y]
        rw [decide_eq_false (by omega)] at eb
        refine ⟨_, rfl, fun k j h => gg k j (by omega), k3, fun h => absurd (eb.symm.trans h) (by decide), fun _ => ⟨?_, ?_, q2⟩⟩
        · rw [gg _ _ (by omega)]
          exact h6
        · rw [g2 _ _ (by omega), rv_gss, hk0]
          rfl
      · rw [if_neg y]
        rw [decide_eq_true (by omega)] at eb
        exact ⟨_, rfl, fun k j h => (rv_gsn (by omega)).trans (gg k j (by omega)), (rv_gsn (by omega)).trans k3, fun _ => rv_gss _ _ _ _, fun h => absurd (eb.symm.trans h) (by decide)⟩
    by_cases y1 : T s < 97
    · rw [if_pos y1]
      by_cases y2 : T s < 48
      · rw [if_pos y2]
        exact hother (by omega) (by omega)
      · rw [if_neg y2]
        by_cases y3 : 57 < T s
        · rw [if_pos y3]
          exact hother (by omega) (by omega)
        · rw [if_neg y3]
          exact hnum (by omega) (by omega)
    · rw [if_neg y1]
      by_cases y2 : 122 < T s
      · rw [if_pos y2, if_neg (by omega), if_pos (by omega)]
        exact hother (by omega) (by omega)
      · rw [if_neg y2]
        rw [if_pos (show 97 ≤ T s ∧ T s ≤ 122 by omega)] at hk0
        have ee : tq_te T n p = tq_rn T n 97 122 s := by unfold tq_te; rw [hk0, ← hs]; rfl
        have eb : tq_bad T n p = false := by unfold tq_bad; rw [hk0]; rfl
        obtain ⟨S2, e2, g2, q2⟩ := tq_take (S := rs_si S3 80 2 0) (lo := 97) (hi := 122) (p := s) (by omega) (by omega) ⟨c1, c2, (rv_gsn (by omega)).trans h31, fun i hi => (rv_gsn (by omega)).trans (c3'.2.2.2 i hi)⟩ hsb.2 ((rv_gsn (by omega)).trans h34)
        rw [e2, rv_b1s]
        refine ⟨_, rfl, fun k j h => by rw [g2 _ _ (by omega), rv_gsn (by omega)]; exact g3 k j (by omega), by rw [g2 _ _ (by omega), rv_gsn (by omega)]; exact h33, fun h => absurd (eb.symm.trans h) (by decide), fun _ => ⟨?_, ?_, ?_⟩⟩
        · rw [g2 _ _ (by omega), rv_gsn (by omega), g3 _ _ (by omega)]
          exact h6
        · rw [g2 _ _ (by omega), rv_gss, hk0]
          rfl
        · rw [q2, ee]
