/-! the reference: tokens -/
def tq_rT (T : Nat → Nat) (n : Nat) (S : rs_St) : Prop := n ≤ 160 ∧ (∀ i, i < n → T i < 128) ∧ rs_gi S 91 6 = nI n ∧ ∀ i, i < n → rs_gi S 97 i = nI (T i)
def tq_f91 (S S2 : rs_St) : Prop := ∀ k j, ¬ (k = 91 ∧ 7 ≤ j ∧ j ≤ 12) → rs_gi S2 k j = rs_gi S k j
theorem tq_rT_cg {T : Nat → Nat} {n : Nat} {S S2 : rs_St} (h1 : rs_gi S2 91 6 = rs_gi S 91 6) (h2 : ∀ i, rs_gi S2 97 i = rs_gi S 97 i) (c : tq_rT T n S) : tq_rT T n S2 := ⟨c.1, c.2.1, h1.trans c.2.2.1, fun i hi => (h2 i).trans (c.2.2.2 i hi)⟩
theorem tq_rT_f {T : Nat → Nat} {n : Nat} {S S2 : rs_St} (h : tq_f91 S S2) (c : tq_rT T n S) : tq_rT T n S2 := tq_rT_cg (h _ _ (by omega)) (fun i => h _ _ (by omega)) c
def tq_by (T : Nat → Nat) (n i : Nat) : Int32 := if i < n then nI (T i) else -1
theorem tq_byte {T : Nat → Nat} {n i : Nat} {S : rs_St} (c : tq_rT T n S) (hi : i < 1000) : xf_X5_byteAt S (nI i) = some (tq_by T n i) := by
  have hn := c.1
  unfold xf_X5_byteAt tq_by
  rw [c.2.2.1, rv_le (by omega) (by omega)]
  by_cases h : n ≤ i
  · rw [if_pos h, if_neg (by omega)]
  · rw [if_neg h, rv_ckn (by omega) (by omega), nI_clamp (by omega), c.2.2.2 i (by omega), if_pos (by omega)]
theorem tq_m1_lt {x : Nat} (h : x < 2 ^ 31) : ¬ (nI x ≤ (-1 : Int32)) := fun z => nI_pos h (Int32.lt_of_le_of_lt z (by decide))
theorem tq_by_in {T : Nat → Nat} {n i lo hi : Nat} (hT : ∀ i, i < n → T i < 128) (hl : lo < 200) (hh : hi < 200) : (nI lo ≤ tq_by T n i ∧ tq_by T n i ≤ nI hi) ↔ (i < n ∧ lo ≤ T i ∧ T i ≤ hi) := by
  unfold tq_by
  by_cases h : i < n
  · have := hT i h
    rw [if_pos h, nI_leI (by omega) (by omega), nI_leI (by omega) (by omega)]
    exact ⟨fun z => ⟨h, z⟩, fun z => z.2⟩
  · rw [if_neg h]
    exact ⟨fun z => absurd z.1 (tq_m1_lt (by omega)), fun z => absurd z.1 h⟩
theorem tq_by_eq {T : Nat → Nat} {n i x : Nat} (hT : ∀ i, i < n → T i < 128) (hx : x < 200) : tq_by T n i = nI x ↔ (i < n ∧ T i = x) := by
  unfold tq_by
  by_cases h : i < n
  · have := hT i h
    rw [if_pos h, nI_eq (by omega) (by omega)]
    exact ⟨fun z => ⟨h, z⟩, fun z => z.2⟩
  · rw [if_neg h]
    exact ⟨fun z => absurd z.symm (rv_ne (by omega) (by decide)), fun z => absurd z.1 h⟩
theorem tq_8l {T : Nat → Nat} {n : Nat} {S : rs_St} (c : tq_rT T n S) (K : rs_St → Option rs_St) : ∀ (d p fu : Nat) (S1 : rs_St), d = n - p → p ≤ n → d < fu → (∀ k j, ¬ (k = 91 ∧ j = 7) → rs_gi S1 k j = rs_gi S k j) → rs_gi S1 91 7 = nI p → ∃ S2, xf_X5_reads_l8 K fu S1 = K S2 ∧ (∀ k j, ¬ (k = 91 ∧ j = 7) → rs_gi S2 k j = rs_gi S k j) ∧ rs_gi S2 91 7 = nI (tq_run T 32 32 d p) := by
  have hn := c.1
  intro d
  induction d with
  | zero =>
    intro p fu S1 hd hp hf hg h7
    obtain ⟨f, rfl⟩ : ∃ f, fu = f + 1 := ⟨fu - 1, by omega⟩
    have c1 : tq_rT T n S1 := tq_rT_cg (hg _ _ (by omega)) (fun i => hg _ _ (by omega)) c
    refine ⟨S1, ?_, hg, h7⟩
    rw [xf_X5_reads_l8, h7, tq_byte c1 (by omega), rv_b1s, rv_32, if_neg (fun z => by have := ((tq_by_eq c.2.1 (by omega)).mp z).1; omega)]
  | succ d ih =>
    intro p fu S1 hd hp hf hg h7
    obtain ⟨f, rfl⟩ : ∃ f, fu = f + 1 := ⟨fu - 1, by omega⟩
    have c1 : tq_rT T n S1 := tq_rT_cg (hg _ _ (by omega)) (fun i => hg _ _ (by omega)) c
    rw [xf_X5_reads_l8, h7, tq_byte c1 (by omega), rv_b1s, rv_32, tq_run, nI_1]
    by_cases q : 32 ≤ T p ∧ T p ≤ 32
    · rw [if_pos q, if_pos ((tq_by_eq c.2.1 (by omega)).mpr ⟨by omega, by omega⟩), rv_lts]
      exact ih (p + 1) f _ (by omega) (by omega) (by omega) (fun k j hk => (rv_gsn (by omega)).trans (hg k j hk)) (rv_gss _ _ _ _)
    · rw [if_neg q, if_neg (fun z => by have := ((tq_by_eq c.2.1 (by omega)).mp z).2; omega)]
      exact ⟨S1, rfl, hg, h7⟩
theorem tq_in {T : Nat → Nat} {n i : Nat} {S : rs_St} (hT : ∀ i, i < n → T i < 128) {lo hi : Nat} (L H : Int64) (hL : L = (nI lo).toInt64) (hH : H = (nI hi).toInt64) (hl : lo < 200) (hh : hi < 200) : xf_X5_in S (tq_by T n i).toInt64 L H = some (if i < n ∧ lo ≤ T i ∧ T i ≤ hi then 1 else 0) := by
  rw [hL, hH, rv_in]
  by_cases h : i < n ∧ lo ≤ T i ∧ T i ≤ hi
  · rw [if_pos h, if_pos ((tq_by_in hT hl hh).mpr h)]
  · rw [if_neg h, if_neg (fun z => h ((tq_by_in hT hl hh).mp z))]
theorem tq_82l {T : Nat → Nat} {n : Nat} {S : rs_St} (c : tq_rT T n S) (K : rs_St → Option rs_St) : ∀ (d p fu : Nat) (S1 : rs_St), d = n - p → p ≤ n → d < fu → (∀ k j, ¬ (k = 91 ∧ j = 7) → rs_gi S1 k j = rs_gi S k j) → rs_gi S1 91 7 = nI p → ∃ S2, xf_X5_reads_l82 K fu S1 = K S2 ∧ (∀ k j, ¬ (k = 91 ∧ j = 7) → rs_gi S2 k j = rs_gi S k j) ∧ rs_gi S2 91 7 = nI (tq_run T 97 122 d p) := by
  have hn := c.1
  intro d
  induction d with
  | zero =>
    intro p fu S1 hd hp hf hg h7
    obtain ⟨f, rfl⟩ : ∃ f, fu = f + 1 := ⟨fu - 1, by omega⟩
    have c1 : tq_rT T n S1 := tq_rT_cg (hg _ _ (by omega)) (fun i => hg _ _ (by omega)) c
    refine ⟨S1, ?_, hg, h7⟩
    rw [xf_X5_reads_l82, h7, tq_byte c1 (by omega), rv_b1s, tq_in (lo := 97) (hi := 122) c.2.1 97 122 rfl rfl (by omega) (by omega), rv_b1s, rv_i0, if_neg (by omega)]
  | succ d ih =>
    intro p fu S1 hd hp hf hg h7
    obtain ⟨f, rfl⟩ : ∃ f, fu = f + 1 := ⟨fu - 1, by omega⟩
    have c1 : tq_rT T n S1 := tq_rT_cg (hg _ _ (by omega)) (fun i => hg _ _ (by omega)) c
    rw [xf_X5_reads_l82, h7, tq_byte c1 (by omega), rv_b1s, tq_in (lo := 97) (hi := 122) c.2.1 97 122 rfl rfl (by omega) (by omega), rv_b1s, rv_i0, tq_run, nI_1]
    by_cases q : 97 ≤ T p ∧ T p ≤ 122
    · rw [if_pos q, if_pos ⟨by omega, q⟩, rv_lts]
      exact ih (p + 1) f _ (by omega) (by omega) (by omega) (fun k j hk => (rv_gsn (by omega)).trans (hg k j hk)) (rv_gss _ _ _ _)
    · rw [if_neg q, if_neg (fun z => q z.2)]
      exact ⟨S1, rfl, hg, h7⟩
def tq_m2 (x : Nat) : Nat := if x ≤ 2 then x else 2
theorem tq_m2_le {x : Nat} : tq_m2 x ≤ 2 := by
  unfold tq_m2
  split <;> omega
theorem tq_140l {T : Nat → Nat} {n s : Nat} {S : rs_St} (c : tq_rT T n S) (h8 : rs_gi S 91 8 = nI s) (K : rs_St → Option rs_St) : ∀ (d p fu : Nat) (S1 : rs_St), d = n - p → s ≤ p → p ≤ n → d < fu → (∀ j, j < p - s → 48 ≤ T (s + j) ∧ T (s + j) ≤ 57) → (∀ k j, ¬ (k = 91 ∧ (j = 7 ∨ j = 10)) → rs_gi S1 k j = rs_gi S k j) → rs_gi S1 91 7 = nI p → rs_gi S1 91 10 = nI (tq_vv T s (tq_m2 (p - s))) → ∃ S2, xf_X5_reads_l140 K fu S1 = K S2 ∧ (∀ k j, ¬ (k = 91 ∧ (j = 7 ∨ j = 10)) → rs_gi S2 k j = rs_gi S k j) ∧ rs_gi S2 91 7 = nI (tq_run T 48 57 d p) ∧ rs_gi S2 91 10 = nI (tq_vv T s (tq_m2 (tq_run T 48 57 d p - s))) := by
  have hn := c.1
  intro d
  induction d with
  | zero =>
    intro p fu S1 hd hs hp hf hdg hg h7 h10
    obtain ⟨f, rfl⟩ : ∃ f, fu = f + 1 := ⟨fu - 1, by omega⟩
    have c1 : tq_rT T n S1 := tq_rT_cg (hg _ _ (by omega)) (fun i => hg _ _ (by omega)) c
    refine ⟨S1, ?_, hg, h7, h10⟩
    rw [xf_X5_reads_l140, h7, tq_byte c1 (by omega), rv_b1s, tq_in (lo := 48) (hi := 57) c.2.1 48 57 rfl rfl (by omega) (by omega), rv_b1s, rv_i0, if_neg (by omega)]
  | succ d ih =>
    intro p fu S1 hd hs hp hf hdg hg h7 h10
    obtain ⟨f, rfl⟩ : ∃ f, fu = f + 1 := ⟨fu - 1, by omega⟩
    have c1 : tq_rT T n S1 := tq_rT_cg (hg _ _ (by omega)) (fun i => hg _ _ (by omega)) c
    rw [xf_X5_reads_l140, h7, tq_byte c1 (by omega), rv_b1s, tq_in (lo := 48) (hi := 57) c.2.1 48 57 rfl rfl (by omega) (by omega), rv_b1s, rv_i0, tq_run]
    by_cases q : 48 ≤ T p ∧ T p ≤ 57
    · have hdg' : ∀ j, j < p + 1 - s → 48 ≤ T (s + j) ∧ T (s + j) ≤ 57 := fun j hj => by
        by_cases e : j = p - s
        · rw [e, show s + (p - s) = p by omega]
          exact q
        · exact hdg j (by omega)
      have hv := tq_vv_le (T := T) (s := s) (m := tq_m2 (p - s)) tq_m2_le (fun j hj => hdg j (by unfold tq_m2 at hj; split at hj <;> omega))
      rw [if_pos q, if_pos ⟨by omega, q⟩]
      simp only [rs_jn, rs_lt]
      rw [hg 91 8 (by omega), h8, pk_sub hs, rv_2, rv_le (by omega) (by omega), h10]
      have hby : tq_by T n p = nI (T p) := if_pos (by omega)
      have step : ∀ x : Nat, x = tq_vv T s (tq_m2 (p + 1 - s)) → ∃ S2, xf_X5_reads_l140 K f (rs_si (rs_si S1 91 10 (nI x)) 91 7 (rs_gi (rs_si S1 91 10 (nI x)) 91 7 + 1)) = K S2 ∧ (∀ k j, ¬ (k = 91 ∧ (j = 7 ∨ j = 10)) → rs_gi S2 k j = rs_gi S k j) ∧ rs_gi S2 91 7 = nI (tq_run T 48 57 d (p + 1)) ∧ rs_gi S2 91 10 = nI (tq_vv T s (tq_m2 (tq_run T 48 57 d (p + 1) - s))) := fun x hx => by
        rw [rv_gsn (by omega), h7, nI_1]
        exact ih (p + 1) f _ (by omega) (by omega) (by omega) (by omega) hdg' (fun k j hk => (rv_gsn (by omega)).trans ((rv_gsn (by omega)).trans (hg k j hk))) (rv_gss _ _ _ _) ((rv_gsn (by omega)).trans ((rv_gss _ _ _ _).trans (by rw [hx])))
      by_cases z : 2 ≤ p - s
      · rw [if_pos z]
        exact step _ (by
          have e1 : tq_m2 (p - s) = 2 := by unfold tq_m2; split <;> omega
          have e2 : tq_m2 (p + 1 - s) = 2 := by unfold tq_m2; split <;> omega
          rw [e1, e2])
      · have e1 : tq_m2 (p - s) = p - s := by unfold tq_m2; split <;> omega
        have e2 : tq_m2 (p + 1 - s) = p - s + 1 := by unfold tq_m2; split <;> omega
        rw [if_neg z, hby, rv_b1s, rv_10, pk_mul, nI_add, tq_48, pk_sub (by omega)]
        exact step _ (by rw [e1, e2, tq_vv, show s + (p - s) = p by omega])
    · rw [if_neg q, if_neg (fun z => q z.2)]
      exact ⟨S1, rfl, hg, h7, h10⟩
/-! requires, reads -/
theorem tq_req1 (S : rs_St) (x : Int32) : xf_X5_requires S 1 x = some S := rfl
theorem tq_req0 {S : rs_St} (h : rs_gi S 91 11 = 0) (x : Int32) : xf_X5_requires S 0 x = some (rs_si (rs_si S 91 11 x) 91 12 (rs_gi S 91 8)) := by
  unfold xf_X5_requires
  rw [if_pos rfl, if_pos h, rv_lts, rv_lts, rv_gsn (by omega)]
theorem tq_reqE {S : rs_St} (h : ¬ rs_gi S 91 11 = 0) (x y : Int32) : xf_X5_requires S x y = some S := by
  unfold xf_X5_requires
  rw [if_neg h, ite_self]
def tq_rk (k : Nat) : Nat := if k = 3 then 0 else k + 1
def tq_rA (T : Nat → Nat) (n p : Nat) (S : rs_St) : Prop := rs_gi S 91 8 = nI (tq_ts T n p) ∧ (tq_bad T n p = true → rs_gi S 91 11 = 1 ∧ rs_gi S 91 12 = nI (tq_ts T n p)) ∧ (tq_bad T n p = false → rs_gi S 91 11 = 0 ∧ rs_gi S 91 9 = nI (tq_rk (tq_tk T n p)) ∧ rs_gi S 91 7 = nI (tq_te T n p) ∧ (tq_tk T n p = 1 → rs_gi S 91 10 = nI (tq_V T n p)))
set_option maxRecDepth 100000 in
theorem tq_reads {T : Nat → Nat} {n p : Nat} {S : rs_St} (c : tq_rT T n S) (hp : p ≤ n) (h7 : rs_gi S 91 7 = nI p) (h11 : rs_gi S 91 11 = 0) : ∃ S2, xf_X5_reads S = some S2 ∧ tq_f91 S S2 ∧ tq_rA T n p S2 := by
  have hn := c.1
  have h0 : rs_gi S 91 11 ≤ 0 := by rw [h11]; decide
  unfold xf_X5_reads
  rw [if_pos h0]
  obtain ⟨S1, e1, g1, q1⟩ := tq_8l c (fun (S7 : rs_St) => rs_lt (rs_si S7 91 8 (rs_gi S7 91 7)) (fun S8 => rs_b1 (xf_X5_byteAt S8 (rs_gi S8 91 7)) (fun r10 => if 0 ≤ r10 then rs_b1 (xf_X5_in S8 (r10.toInt64) 97 122) (fun r13 => if r13 = 0 then rs_b1 (xf_X5_in S8 (r10.toInt64) 48 57) (fun r16 => if r16 = 0 then rs_lt (rs_si S8 91 9 3) (fun S18 => rs_jn (fun (x19 : Int32) => rs_b1 (xf_X5_requires S18 x19 1) (fun S22 => rs_lt (rs_si S22 91 7 ((rs_gi S22 91 7) + 1)) (fun S23 => some S23))) (fun J20 => if r10 = 59 then J20 1 else J20 0)) else rs_lt (rs_si S8 91 9 2) (fun S25 => rs_lt (rs_si S25 91 10 0) (fun S26 => xf_X5_reads_l140 (fun (S40 : rs_St) => rs_jn (fun (x41 : Int32) => rs_b1 (xf_X5_requires S40 x41 1) (fun S44 => some S44)) (fun J42 => if 2 < ((rs_gi S40 91 7) - (rs_gi S40 91 8)) then J42 0 else J42 1)) rs_fu S26))) else rs_lt (rs_si S8 91 9 1) (fun S46 => xf_X5_reads_l82 (fun (S54 : rs_St) => some S54) rs_fu S46)) else rs_lt (rs_si S8 91 9 0) (fun S55 => some S55)))) (n - p) p rs_fu S rfl hp (by unfold rs_fu; omega) (fun _ _ _ => rfl) h7
  rw [e1]
  obtain ⟨s, hs⟩ : ∃ s, s = tq_ts T n p := ⟨_, rfl⟩
  have hsb := tq_ts_b (T := T) hp
  rw [← hs] at hsb
  have q1' : rs_gi S1 91 7 = nI s := by rw [q1, hs]; rfl
  rw [q1', rv_lts]
  have g8 : ∀ k j, ¬ (k = 91 ∧ (j = 7 ∨ j = 8)) → rs_gi (rs_si S1 91 8 (nI s)) k j = rs_gi S k j := fun k j h => by rw [rv_gsn (by omega)]; exact g1 k j (by omega)
  have h87 : rs_gi (rs_si S1 91 8 (nI s)) 91 7 = nI s := by rw [rv_gsn (by omega)]; exact q1'
  have h88 : rs_gi (rs_si S1 91 8 (nI s)) 91 8 = nI s := rv_gss _ _ _ _
  generalize rs_si S1 91 8 (nI s) = S8 at *
  have c8 : tq_rT T n S8 := tq_rT_cg (g8 _ _ (by omega)) (fun i => g8 _ _ (by omega)) c
  have h811 : rs_gi S8 91 11 = 0 := (g8 _ _ (by omega)).trans h11
  rw [h87, tq_byte c8 (by omega), rv_b1s, tq_in (lo := 97) (hi := 122) c.2.1 97 122 rfl rfl (by omega) (by omega), rv_b1s, rv_i0, tq_in (lo := 48) (hi := 57) c.2.1 48 57 rfl rfl (by omega) (by omega), rv_b1s, rv_i0]
  simp only [rs_jn, rs_lt]
  unfold tq_rA
  rw [← hs]
  by_cases z : n ≤ s
  · have ek : tq_tk T n p = 3 := tq_tk3 (by rw [← hs]; exact z)
    have ee : tq_te T n p = s := by unfold tq_te; rw [ek, hs]; rfl
    have eb : tq_bad T n p = false := by unfold tq_bad; rw [ek]; rfl
    have hby : tq_by T n s = -1 := if_neg (by omega)
    rw [hby, if_neg tq_n1]
    refine ⟨_, rfl, fun k j h => (rv_gsn (by omega)).trans (g8 k j (by omega)), (rv_gsn (by omega)).trans h88, fun h => absurd (eb.symm.trans h) (by decide), fun _ => ⟨(rv_gsn (by omega)).trans h811, ?_, ?_, fun h => absurd (ek.symm.trans h) (by decide)⟩⟩
    · rw [rv_gss, ek]
      rfl
    · rw [rv_gsn (by omega), h87, ee]
  · have hk0 := tq_tk0 (T := T) (n := n) (p := p) (by rw [← hs]; exact z)
    rw [← hs] at hk0
    have hTs := c.2.1 s (by omega)
    have hby : tq_by T n s = nI (T s) := if_pos (by omega)
    have h0s : (0 : Int32) ≤ nI (T s) := Int32.not_lt.mp (nI_pos (by omega))
    rw [hby, if_pos h0s]
    by_cases y0 : 97 ≤ T s ∧ T s ≤ 122
    · rw [if_pos (show s < n ∧ 97 ≤ T s ∧ T s ≤ 122 from ⟨by omega, y0⟩)]
      rw [if_pos y0] at hk0
      have ee : tq_te T n p = tq_rn T n 97 122 s := by unfold tq_te; rw [hk0, ← hs]; rfl
      have eb : tq_bad T n p = false := by unfold tq_bad; rw [hk0]; rfl
      obtain ⟨S2, e2, g2, q2⟩ := tq_82l (S := rs_si S8 91 9 1) (tq_rT_cg (rv_gsn (by omega)) (fun i => rv_gsn (by omega)) c8) (fun (S54 : rs_St) => some S54) (n - s) s rs_fu (rs_si S8 91 9 1) rfl hsb.2 (by unfold rs_fu; omega) (fun _ _ _ => rfl) ((rv_gsn (by omega)).trans h87)
      rw [e2]
      refine ⟨_, rfl, fun k j h => (g2 k j (by omega)).trans ((rv_gsn (by omega)).trans (g8 k j (by omega))), (g2 _ _ (by omega)).trans ((rv_gsn (by omega)).trans h88), fun h => absurd (eb.symm.trans h) (by decide), fun _ => ⟨(g2 _ _ (by omega)).trans ((rv_gsn (by omega)).trans h811), ?_, ?_, fun h => absurd (hk0.symm.trans h) (by decide)⟩⟩
      · rw [g2 _ _ (by omega), rv_gss, hk0]
        rfl
      · rw [q2, ee]
        rfl
    · rw [if_neg (show ¬ (s < n ∧ 97 ≤ T s ∧ T s ≤ 122) from fun h => y0 h.2)]
      rw [if_neg y0] at hk0
      by_cases y1 : 48 ≤ T s ∧ T s ≤ 57
      · rw [if_pos (show s < n ∧ 48 ≤ T s ∧ T s ≤ 57 from ⟨by omega, y1⟩)]
        rw [if_pos y1] at hk0
        have ee : tq_te T n p = tq_rn T n 48 57 s := by unfold tq_te; rw [hk0, ← hs]; rfl
        have hb := tq_rn_b (T := T) (lo := 48) (hi := 57) hsb.2
        rw [← ee] at hb
        have eb : tq_bad T n p = decide (2 < tq_te T n p - s) := by unfold tq_bad; rw [hk0, ← hs]; rfl
        obtain ⟨S2, e2, g2, q2, v2⟩ := tq_140l (s := s) (S := rs_si (rs_si S8 91 9 2) 91 10 0) (tq_rT_cg ((rv_gsn (by omega)).trans (rv_gsn (by omega))) (fun i => (rv_gsn (by omega)).trans (rv_gsn (by omega))) c8) ((rv_gsn (by omega)).trans ((rv_gsn (by omega)).trans h88)) (fun (S40 : rs_St) => if 2 < ((rs_gi S40 91 7) - (rs_gi S40 91 8)) then rs_b1 (xf_X5_requires S40 0 1) (fun S44 => some S44) else rs_b1 (xf_X5_requires S40 1 1) (fun S44 => some S44)) (n - s) s rs_fu (rs_si (rs_si S8 91 9 2) 91 10 0) rfl (Nat.le_refl _) hsb.2 (by unfold rs_fu; omega) (fun j hj => by omega) (fun _ _ _ => rfl) ((rv_gsn (by omega)).trans ((rv_gsn (by omega)).trans h87)) ((rv_gss _ _ _ _).trans (by rw [Nat.sub_self]; rfl))
        rw [e2]
        replace q2 : rs_gi S2 91 7 = nI (tq_te T n p) := by rw [q2, ee]; rfl
        replace v2 : rs_gi S2 91 10 = nI (tq_vv T s (tq_m2 (tq_te T n p - s))) := by rw [v2, ee]; rfl
        have k8 : rs_gi S2 91 8 = nI s := (g2 _ _ (by omega)).trans ((rv_gsn (by omega)).trans ((rv_gsn (by omega)).trans h88))
        have k11 : rs_gi S2 91 11 = 0 := (g2 _ _ (by omega)).trans ((rv_gsn (by omega)).trans ((rv_gsn (by omega)).trans h811))
        have gg : tq_f91 S S2 := fun k j h => (g2 k j (by omega)).trans ((rv_gsn (by omega)).trans ((rv_gsn (by omega)).trans (g8 k j (by omega))))
        rw [q2, k8, pk_sub hb.1, rv_2, rv_lt (by omega) (by omega)]
        by_cases y : 2 < tq_te T n p - s
        · rw [decide_eq_true y] at eb
          rw [if_pos y, tq_req0 k11, rv_b1s]
          refine ⟨_, rfl, fun k j h => (rv_gsn (by omega)).trans ((rv_gsn (by omega)).trans (gg k j h)), (rv_gsn (by omega)).trans ((rv_gsn (by omega)).trans k8), fun _ => ⟨(rv_gsn (by omega)).trans (rv_gss _ _ _ _), (rv_gss _ _ _ _).trans k8⟩, fun h => absurd (eb.symm.trans h) (by decide)⟩
        · rw [decide_eq_false y] at eb
          rw [if_neg y, tq_req1, rv_b1s]
          have em : tq_m2 (tq_te T n p - s) = tq_te T n p - s := by unfold tq_m2; split <;> omega
          refine ⟨_, rfl, gg, k8, fun h => absurd (eb.symm.trans h) (by decide), fun _ => ⟨k11, ?_, q2, fun _ => ?_⟩⟩
          · rw [g2 _ _ (by omega), rv_gsn (by omega), rv_gss, hk0]
            rfl
          · rw [v2, em]
            unfold tq_V
            rw [← hs]
      · rw [if_neg (show ¬ (s < n ∧ 48 ≤ T s ∧ T s ≤ 57) from fun h => y1 h.2)]
        rw [if_neg y1] at hk0
        rw [tq_59, rv_eq (by omega) (by omega)]
        have r11 : rs_gi (rs_si S8 91 9 3) 91 11 = 0 := (rv_gsn (by omega)).trans h811
        by_cases y2 : T s = 59
        · rw [if_pos y2] at hk0
          have ee : tq_te T n p = s + 1 := by unfold tq_te; rw [hk0, ← hs]; rfl
          have eb : tq_bad T n p = false := by unfold tq_bad; rw [hk0]; rfl
          rw [if_pos y2, tq_req1, rv_b1s]
          refine ⟨_, rfl, fun k j h => (rv_gsn (by omega)).trans ((rv_gsn (by omega)).trans (g8 k j (by omega))), (rv_gsn (by omega)).trans ((rv_gsn (by omega)).trans h88), fun h => absurd (eb.symm.trans h) (by decide), fun _ => ⟨(rv_gsn (by omega)).trans r11, ?_, ?_, fun h => absurd (hk0.symm.trans h) (by decide)⟩⟩
          · rw [rv_gsn (by omega), rv_gss, hk0]
            rfl
          · rw [rv_gss, rv_gsn (by omega), h87, nI_1, ee]
        · rw [if_neg y2] at hk0
          have eb : tq_bad T n p = true := by unfold tq_bad; rw [hk0]; rfl
          rw [if_neg y2, tq_req0 r11, rv_b1s]
          refine ⟨_, rfl, fun k j h => (rv_gsn (by omega)).trans ((rv_gsn (by omega)).trans ((rv_gsn (by omega)).trans ((rv_gsn (by omega)).trans (g8 k j (by omega))))), (rv_gsn (by omega)).trans ((rv_gsn (by omega)).trans ((rv_gsn (by omega)).trans ((rv_gsn (by omega)).trans h88))), fun _ => ⟨(rv_gsn (by omega)).trans ((rv_gsn (by omega)).trans (rv_gss _ _ _ _)), (rv_gsn (by omega)).trans ((rv_gss _ _ _ _).trans ((rv_gsn (by omega)).trans h88))⟩, fun h => absurd (eb.symm.trans h) (by decide)⟩
