/-! shoot, copies of scenes -/
theorem rv_go_rel {S5 S6 S7 : rs_St} {a : Nat → Nat} {u : Nat → Bool} {n : Nat} (h : rv_stP S5 S6) (g : rv_goP S6 a u n S7) : ∀ k j, rv_rel k j ∨ k < 38 ∨ k = 92 → rs_gi S7 k j = rs_gi S5 k j := by
  intro k j z
  by_cases q : k = 91
  · rw [q]
    exact (g.2.2.2.1 j (by unfold rv_rel at z; omega)).trans (h.2.2.2.1 j (by unfold rv_rel at z; omega))
  · exact (congrFun (g.1.1 k q (by unfold rv_rel at z; omega) (by unfold rv_rel at z; omega)) j).trans (congrFun (h.1 k q (by unfold rv_rel at z; omega)) j)
theorem rv_as_wf {a : Nat → Nat} {n : Nat} (w : rv_wf2 a) (hT : rv_T a n ≤ 99999) : rv_wf2 (rv_as a rv_uu n) := by
  by_cases h0 : n = 0
  · rw [h0, rv_as_0]
    exact w
  · obtain ⟨w0, x1, x2, x3, x4, x5, x6⟩ := id w
    obtain ⟨hc, -, hR, -, -, hp⟩ := id w0
    have e22 : rv_as a rv_uu n 22 = a 22 + n := rfl
    have e23 : rv_as a rv_uu n 23 = a 17 := by
      unfold rv_as
      rw [if_neg (by omega), if_neg (by omega), if_neg h0, if_pos rfl]
    have e32 : ∀ j, 32 ≤ j → rv_as a rv_uu n j = a j := fun j hj => by
      unfold rv_as
      rw [if_neg (by omega), if_neg (by omega), if_neg h0, if_neg (by omega), if_neg (by omega)]
    have hmul : n * 1 ≤ n * a 20 := Nat.mul_le_mul_left n hp.1
    unfold rv_wf2
    rw [e22, e23, rv_as_21, e32 32 (by omega)]
    unfold rv_T at hT
    refine ⟨rv_wf_cg (fun j hj => rv_as_lo hj) w0, hT, by omega, hR.2, by omega, x5, fun i hi => ?_⟩
    rw [e32 _ (by omega), e32 _ (by omega), e32 _ (by omega)]
    exact x6 i hi
theorem rv_startOf {S : rs_St} {B : Nat} {a : Nat → Nat} {u : Nat → Bool} (h : rv_sc S B a u) (n : Nat) : xf_X1_startOf S B (nI n) = some (nI (rv_T a n)) := by
  unfold xf_X1_startOf
  rw [h.2.1, h.2.2.1 3 (by omega), pk_mul, nI_add]
  rfl
theorem rv_shoot : pt_shoot rv_Inv := by
  intro S a1 hI
  obtain ⟨⟨a, hn⟩, -⟩ := id hI
  obtain ⟨w, hm, hf⟩ := id hn
  obtain ⟨⟨c1, c2, c3, c4⟩, f2, f3, f4, f5, f6⟩ := id hf
  have ht := w.2.1
  have hc := w.1.1
  have hR := w.1.2.2.1
  have hp := w.1.2.2.2.2.2
  unfold xf_X4_shoot xf_X5_shoot
  rw [rv_out, rv_b1s, rv_o0]
  by_cases hx : (0 : Int32) ≤ a1 ∧ a1 ≤ 40
  · obtain ⟨n, -, hv, rfl⟩ := rv_ins (lo := 0) (hi := 40) (by omega) hx (by omega)
    have hmul : n * a 20 ≤ 40 * 60 := Nat.mul_le_mul hv hp.2
    have hTe : rv_T a n = a 21 + n * a 20 := rfl
    rw [if_pos hx, rv_startOf hf.1, rv_b1s, show (100000 : Int32) = nI 100000 from rfl, rv_lt (by omega) (by omega)]
    by_cases hy : rv_T a n < 100000
    · have hS1 : ∃ S1, xf_X1_take S 0 (nI n) = some S1 ∧ (∀ k j, ¬ (k = 0 ∧ (j = 3 ∨ j = 4 ∨ j = 6)) → k ≠ 3 → rs_gi S1 k j = rs_gi S k j) ∧ rv_fsc S1 0 (rv_as a rv_uu n) := by
        unfold xf_X1_take
        rw [rv_1, rv_le (by omega) (by omega)]
        by_cases h0 : n = 0
        · rw [if_neg (by omega)]
          refine ⟨S, rfl, fun _ _ _ _ => rfl, ?_⟩
          rw [h0, rv_as_0]
          exact hf
        · rw [if_pos (by omega), rv_lts, hf.1.2.2.1 0 (by omega)]
          obtain ⟨S4, e4, t1, t2, t3, t4⟩ := rv_take_l w.1 hf.1 ht (by omega) hv (fun (S11 : rs_St) (x12 : Int32) => rs_b1 (xf_X1_startOf S11 0 (nI n)) (fun r14 => rs_lt (rs_si S11 0 3 r14) (fun S15 => rs_lt (rs_si S15 0 4 ((rs_gi S15 0 4) + nI n)) (fun S16 => some S16)))) (a 17) 0 rs_fu (rs_si S 0 6 (nI (a (17 + 0)))) (by omega) (by unfold rs_fu; omega) ⟨fun k j q1 q2 => rv_gsn q1, rfl, rv_gss _ _ _ _, fun r hr => by omega⟩
          have hs4 : rv_sc S4 0 a rv_uu := ⟨by rw [t1 _ _ (by omega) (by omega)]; exact c1, by rw [t1 _ _ (by omega) (by omega)]; exact c2, fun j hj => by rw [t1 _ _ (by omega) (by omega)]; exact c3 j hj, fun l hl => rv_lm_cg (fun k2 j z => t1 _ _ (by omega) (by omega)) (fun _ _ => rfl) rfl (c4 l hl)⟩
          refine ⟨rs_si (rs_si S4 0 3 (nI (rv_T a n))) 0 4 (nI (a 22 + n)), ?_, fun k j q1 q2 => ?_, ?_⟩
          · refine e4.trans ?_
            rw [rv_startOf hs4, rv_b1s]
            simp only [rs_lt]
            rw [rv_gsn (by omega), t1 _ _ (by omega) (by omega), f2, nI_add]
          · rw [rv_gsn (by omega), rv_gsn (by omega), t1 _ _ (by omega) (by omega)]
          · have e23 : rv_as a rv_uu n 23 = a 17 := by
              unfold rv_as
              rw [if_neg (by omega), if_neg (by omega), if_neg h0, if_pos rfl]
            have e32 : ∀ j, 32 ≤ j → rv_as a rv_uu n j = a j := fun j hj => by
              unfold rv_as
              rw [if_neg (by omega), if_neg (by omega), if_neg h0, if_neg (by omega), if_neg (by omega)]
            refine ⟨⟨?_, ?_, fun j hj => ?_, fun l hl => ?_⟩, ?_, ?_, fun j hj => ?_, ?_, fun i hi => ?_⟩
            · rw [rv_gsn (by omega), rv_gsn (by omega), t1 _ _ (by omega) (by omega), rv_as_lo (by omega)]
              exact c1
            · rw [rv_gsn (by omega), rv_gss]
              rfl
            · rw [rv_gsn (by omega), rv_gsn (by omega), t1 _ _ (by omega) (by omega), rv_as_lo (by omega)]
              exact c3 j hj
            · rw [rv_as_lo (by omega)] at hl
              exact rv_lm_cg (fun k2 j z => by rw [rv_gsn (by omega), rv_gsn (by omega), t1 _ _ (by omega) (by omega)]) (fun p hp => rv_as_lo (by omega)) rfl (c4 l hl)
            · rw [rv_gss]
              rfl
            · rw [rv_gsn (by omega), rv_gsn (by omega), t3, e23]
            · rw [e23] at hj
              rw [rv_gsn (by omega), rv_gsn (by omega), t4 j hj]
              unfold rv_as
              rw [if_neg (by omega), if_neg (by omega), if_neg h0, if_neg (by omega), if_pos (by omega), show 24 + j - 24 = j by omega]
              rfl
            · rw [rv_gsn (by omega), rv_gsn (by omega), t1 _ _ (by omega) (by omega), e32 _ (by omega)]
              exact f5
            · rw [e32 _ (by omega)] at hi
              rw [rv_gsn (by omega), rv_gsn (by omega), rv_gsn (by omega), rv_gsn (by omega), rv_gsn (by omega), rv_gsn (by omega), t1 _ _ (by omega) (by omega), t1 _ _ (by omega) (by omega), t1 _ _ (by omega) (by omega), e32 _ (by omega), e32 _ (by omega), e32 _ (by omega)]
              exact f6 i hi
      obtain ⟨S1, e1, g1, g2⟩ := hS1
      have h92 : ∀ j, j < 51 → rs_gi S1 92 j = nI (a j) := fun j hj => by rw [g1 _ _ (by omega) (by omega)]; exact hm j hj
      obtain ⟨S6, e6, h6⟩ := rv_starts S1
      obtain ⟨S7, e7, h7⟩ := rv_shotsGo w.1 (fun l hl => rv_on_st h6 a (by omega)) (n := n) (u := rv_uu) (by omega) ht (rv_go0 h6 h92)
      obtain ⟨S8, e8, k1, k2, k3⟩ := rv_settles S7
      have hrel := rv_go_rel h6 h7
      refine ⟨nI (rv_mx (fun n => rv_bd a rv_uu (rv_T a n)) n), S1, S8, ?_, ?_, ?_⟩
      · rw [if_pos hy, rv_cgreat w.1 hf.1 ht (by omega), rv_b1s, e1, rv_b1s]
      · rw [rv_isFar, rv_b1s, rv_i0, if_pos hx, h92 21 (by omega), h92 20 (by omega), pk_mul, nI_add, show (99999 : Int32) = nI 99999 from rfl, rv_le (by omega) (by omega), if_pos (by omega), e6, rv_b1s, e7, rv_b1s, e8, rv_b1s, k1 _ _ (by omega), h7.2.2.2.2.2.1]
      · refine rv_Inv_now (a2 := rv_as a rv_uu n) hI (fun k j z => ?_) ⟨rv_as_wf w (by omega), fun j hj => ?_, rv_fsc_cg (S := S1) (by rw [rv_as_lo (by omega)]; exact hc) (fun k j q1 q2 => ?_) g2⟩
        · rw [k1 _ _ (by unfold rv_rel at z; omega), hrel k j (Or.inl z), g1 _ _ (by unfold rv_rel at z; omega) (by unfold rv_rel at z; omega)]
        · rw [k3 j hj]
          exact h7.2.1 j hj
        · rw [k1 _ _ (by omega), hrel k j (by omega)]
    · rw [if_neg hy]
      refine ⟨_, _, _, rfl, ?_, hI⟩
      rw [rv_isFar, rv_b1s, rv_i0, if_pos hx, hm 21 (by omega), hm 20 (by omega), pk_mul, nI_add, show (99999 : Int32) = nI 99999 from rfl, rv_le (by omega) (by omega), if_neg (by omega)]
  · rw [if_neg hx]
    refine ⟨_, _, _, rfl, ?_, hI⟩
    rw [rv_isFar, rv_b1s, rv_i0, if_neg hx]
theorem rv_gas (S : rs_St) (k : Nat) (f : Nat → Int32) (j : Nat) : rs_gi (rs_sa S k f) k j = f j := if_pos rfl
theorem rv_gan {S : rs_St} {k : Nat} {f : Nat → Int32} {k2 j : Nat} (h : k2 ≠ k) : rs_gi (rs_sa S k f) k2 j = rs_gi S k2 j := if_neg h
theorem rv_fa {S : rs_St} {k : Nat} {f : Nat → Int32} {k2 : Nat} (h : k2 ≠ k) : (rs_sa S k f).1 k2 = S.1 k2 := funext fun _ => if_neg h
theorem rv_cpy {f g : Nat → Int32} {n j : Nat} (h : j < n) : va_cpy f g 0 0 n j = f j := by
  unfold va_cpy
  rw [if_pos ⟨by omega, by omega⟩, Nat.sub_zero, Nat.zero_add]
theorem rv_cpl {S : rs_St} {k m : Nat} (h1 : m + 1 ≠ k + 2) (h2 : m + 2 ≠ k + 1) : ∃ S2, xf_X0_copyFrom S k m = some S2 ∧ (∀ k2 j, k2 ≠ k + 1 → k2 ≠ k + 2 → rs_gi S2 k2 j = rs_gi S k2 j) ∧ S2.2 = S.2 ∧ (∀ p, p < 4 → rs_gi S2 (k + 1) p = rs_gi S (m + 1) p) ∧ (∀ s, s < 13 → rs_gi S2 (k + 2) s = rs_gi S (m + 2) s) := by
  unfold xf_X0_copyFrom
  refine ⟨_, rfl, fun k2 j q1 q2 => ?_, rfl, fun p hp => ?_, fun s hs => ?_⟩
  · rw [rv_gan q2, rv_gan q1]
  · rw [rv_gan (by omega), rv_gas, rv_cpy hp]
    rfl
  · rw [rv_gas, rv_cpy hs, rv_fa h2]
    rfl
def rv_cpP (S : rs_St) (A B i : Nat) (S1 : rs_St) : Prop := (∀ k j, k < B + 7 ∨ B + 19 ≤ k → rs_gi S1 k j = rs_gi S k j) ∧ S1.2 = S.2 ∧ (∀ l, l < i → (∀ p, p < 4 → rs_gi S1 (B + 1 + 6 + 3 * l + 1) p = rs_gi S (A + 1 + 6 + 3 * l + 1) p) ∧ ∀ s, s < 13 → rs_gi S1 (B + 1 + 6 + 3 * l + 2) s = rs_gi S (A + 1 + 6 + 3 * l + 2) s) ∧ ∀ l, i ≤ l → l < 4 → ∀ j, rs_gi S1 (B + 1 + 6 + 3 * l + 2) j = rs_gi S (B + 1 + 6 + 3 * l + 2) j
theorem rv_cp_l {S : rs_St} {A B c : Nat} (hc : c ≤ 4) (hd : B + 19 ≤ A ∨ A + 19 ≤ B) (h1 : rs_gi S A 1 = nI c) (K : rs_St → Int32 → Option rs_St) : ∀ (d i fu : Nat) (S1 : rs_St), i + d = c → d < fu → rv_cpP S A B i S1 → ∃ S2, xf_X1_copyFrom_l2 B A K fu S1 (nI i) = K S2 (nI c) ∧ rv_cpP S A B c S2 := by
  intro d
  induction d with
  | zero =>
    intro i fu S1 hi hf h
    obtain ⟨f, rfl⟩ : ∃ f, fu = f + 1 := ⟨fu - 1, by omega⟩
    obtain rfl : i = c := by omega
    refine ⟨S1, ?_, h⟩
    rw [xf_X1_copyFrom_l2, h.1 _ _ (by omega), h1, rv_le (by omega) (by omega), if_pos (by omega)]
  | succ d ih =>
    intro i fu S1 hi hf h
    obtain ⟨f, rfl⟩ : ∃ f, fu = f + 1 := ⟨fu - 1, by omega⟩
    obtain ⟨S2, e2, t1, t2, t3, t4⟩ := rv_cpl (S := S1) (k := B + 1 + 6 + 3 * i) (m := A + 1 + 6 + 3 * i) (by omega) (by omega)
    rw [xf_X1_copyFrom_l2, h.1 _ _ (by omega), h1, rv_le (by omega) (by omega), if_neg (by omega), rv_ckn (by omega) (by omega), rv_ckn (by omega) (by omega), nI_clamp (by omega), e2, rv_b1s, rv_lts, nI_1]
    refine ih (i + 1) f S2 (by omega) (by omega) ⟨fun k j hk => ?_, t2.trans h.2.1, fun l hl => ?_, fun l l1 l2 j => ?_⟩
    · rw [t1 _ _ (by omega) (by omega)]
      exact h.1 k j hk
    · by_cases q : l = i
      · rw [q]
        refine ⟨fun p hp => ?_, fun s hs => ?_⟩
        · rw [t3 p hp]
          exact h.1 _ _ (by omega)
        · rw [t4 s hs]
          exact h.1 _ _ (by omega)
      · refine ⟨fun p hp => ?_, fun s hs => ?_⟩
        · rw [t1 _ _ (by omega) (by omega)]
          exact (h.2.2.1 l (by omega)).1 p hp
        · rw [t1 _ _ (by omega) (by omega)]
          exact (h.2.2.1 l (by omega)).2 s hs
    · rw [t1 _ _ (by omega) (by omega)]
      exact h.2.2.2 l (by omega) l2 j
/-- a scene copied -/
theorem rv_copy {S : rs_St} {A B : Nat} {a : Nat → Nat} (w : rv_wf2 a) (hd : B + 19 ≤ A ∨ A + 19 ≤ B) (h : rv_fsc S A a) : ∃ S2, xf_X1_copyFrom S B A = some S2 ∧ rv_fsc S2 B a ∧ (∀ k j, k < B ∨ B + 19 ≤ k → rs_gi S2 k j = rs_gi S k j) ∧ S2.2 = S.2 ∧ ((∀ l, l < 4 → rs_gi S (B + 1 + 6 + 3 * l + 2) 0 = 0) → ∀ l, l < 4 → rs_gi S2 (B + 1 + 6 + 3 * l + 2) 0 = 0) := by
  obtain ⟨⟨c1, c2, c3, c4⟩, f2, f3, f4, f5, f6⟩ := id h
  obtain ⟨w0, x1, x2, x3, x4, x5, x6⟩ := id w
  have hc := w0.1
  obtain ⟨S9, e9, t1, t2, t3, t4⟩ := rv_cp_l hc hd c1 (fun (S9 : rs_St) (x10 : Int32) => rs_lt (rs_si S9 B 1 (rs_gi S9 A 1)) (fun S11 => rs_lt (rs_sa S11 (B + 2) (va_cpy (S11.1 (A + 2)) (S11.1 (B + 2)) 0 0 4)) (fun S12 => rs_lt (rs_si S12 B 3 (rs_gi S12 A 3)) (fun S13 => rs_lt (rs_si S13 B 4 (rs_gi S13 A 4)) (fun S14 => rs_lt (rs_sa S14 (B + 3) (va_cpy (S14.1 (A + 3)) (S14.1 (B + 3)) 0 0 8)) (fun S15 => rs_lt (rs_si S15 B 6 (rs_gi S15 A 6)) (fun S16 => rs_lt (rs_sa S16 (B + 4) (va_cpy (S16.1 (A + 4)) (S16.1 (B + 4)) 0 0 6)) (fun S17 => rs_lt (rs_sa S17 (B + 5) (va_cpy (S17.1 (A + 5)) (S17.1 (B + 5)) 0 0 6)) (fun S18 => rs_lt (rs_sa S18 (B + 6) (va_cpy (S18.1 (A + 6)) (S18.1 (B + 6)) 0 0 6)) (fun S19 => rs_lt (rs_si S19 B 10 (rs_gi S19 A 10)) (fun S20 => some S20))))))))))) (a 16) 0 rs_fu S (by omega) (by unfold rs_fu; omega) ⟨fun _ _ _ => rfl, rfl, fun l hl => by omega, fun _ _ _ _ => rfl⟩
  have tA : ∀ k j, A ≤ k → k < A + 19 → rs_gi S9 k j = rs_gi S k j := fun k j q1 q2 => t1 k j (by omega)
  have hfr : ∀ k j v, rs_gi S9 k j = v → S9.1 k j = v := fun _ _ _ e => e
  have e10 : xf_X1_copyFrom S B A = _ := e9
  simp (disch := omega) only [rs_lt, rv_fs, rv_fa, rv_gsn, rv_gan] at e10
  refine ⟨_, e10, ⟨⟨?_, ?_, fun j hj => ?_, fun l hl => ⟨fun p hp => ?_, fun s hs => ?_⟩⟩, ?_, ?_, fun j hj => ?_, ?_, fun i hi => ⟨?_, ?_, ?_⟩⟩, fun k j hk => ?_, t2, fun hz l hl => ?_⟩
  · simp (disch := omega) only [rv_gsn, rv_gan, rv_gss]
    rw [tA _ _ (by omega) (by omega)]
    exact c1
  · simp (disch := omega) only [rv_gsn, rv_gan, rv_gss]
    rw [tA _ _ (by omega) (by omega)]
    exact c2
  · simp (disch := omega) only [rv_gsn, rv_gan, rv_gas, rv_cpy]
    exact hfr _ _ _ ((tA _ _ (by omega) (by omega)).trans (c3 j hj))
  · simp (disch := omega) only [rv_gsn, rv_gan]
    rw [(t3 l hl).1 p hp]
    exact (c4 l hl).1 p hp
  · have := (w0.2.1 l hl).2.2.2.2.1
    simp (disch := omega) only [rv_gsn, rv_gan]
    rw [(t3 l hl).2 s (by omega)]
    exact (c4 l hl).2 s hs
  · simp (disch := omega) only [rv_gsn, rv_gan, rv_gss]
    rw [tA _ _ (by omega) (by omega)]
    exact f2
  · simp (disch := omega) only [rv_gsn, rv_gan, rv_gss]
    rw [tA _ _ (by omega) (by omega)]
    exact f3
  · simp (disch := omega) only [rv_gsn, rv_gan, rv_gas, rv_cpy]
    exact hfr _ _ _ ((tA _ _ (by omega) (by omega)).trans (f4 j hj))
  · simp (disch := omega) only [rv_gsn, rv_gan, rv_gss]
    rw [tA _ _ (by omega) (by omega)]
    exact f5
  · simp (disch := omega) only [rv_gsn, rv_gan, rv_gas, rv_cpy]
    exact hfr _ _ _ ((tA _ _ (by omega) (by omega)).trans (f6 i hi).1)
  · simp (disch := omega) only [rv_gsn, rv_gan, rv_gas, rv_cpy]
    exact hfr _ _ _ ((tA _ _ (by omega) (by omega)).trans (f6 i hi).2.1)
  · simp (disch := omega) only [rv_gsn, rv_gan, rv_gas, rv_cpy]
    exact hfr _ _ _ ((tA _ _ (by omega) (by omega)).trans (f6 i hi).2.2)
  · simp (disch := omega) only [rv_gsn, rv_gan]
    exact t1 k j (by omega)
  · simp (disch := omega) only [rv_gsn, rv_gan]
    rcases Nat.lt_or_ge l (a 16) with q | q
    · rw [(t3 l q).2 0 (by omega), (c4 l q).2 0 (by omega)]
      rfl
    · rw [t4 l q hl]
      exact hz l hl
