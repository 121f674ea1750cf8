/-! findOdds -/
theorem rv_gsl (S : rs_St) (j : Nat) (v : Int64) (k i : Nat) : rs_gi (rs_sl S j v) k i = rs_gi S k i := rfl
theorem rv_gls (S : rs_St) (j : Nat) (v : Int64) : rs_gl (rs_sl S j v) j = v := if_pos rfl
theorem rv_gln {S : rs_St} {j : Nat} {v : Int64} {i : Nat} (h : i ≠ j) : rs_gl (rs_sl S j v) i = rs_gl S i := if_neg h
theorem rv_ls_le {a : Nat → Nat} (w : rv_wf a) (u : Nat → Bool) (t : Nat) : rv_ls a u t ≤ 2040 := by
  have h : rv_ls a u t ≤ a 17 * 255 := rv_sm_le (fun i _ => rv_br_le _ _ _)
  have := w.2.2.1
  omega
def rv_oE (a : Nat → Nat) (v b n m : Nat) : Nat := if b < rv_mx (fun k => rv_oB a k (rv_bi m k)) n then 0 else rv_pd (fun k => if rv_bi m k then v else 10 - v) n
def rv_oM (a : Nat → Nat) (v n m : Nat) : Nat := rv_pd (fun k => if rv_bi m k then v else 10 - v) n * rv_sm (fun k => rv_oL a k (rv_bi m k)) n
theorem rv_45 {S : rs_St} {a : Nat → Nat} {v n b : Nat} (w : rv_wf a) (ht : a 21 ≤ 99999) (hv : v ≤ 10) (hn : n ≤ 8) (hb : b ≤ 255) (hm : ∀ j, j < 51 → rs_gi S 92 j = nI (a j)) (T : Int64) : ∀ (d m fu : Nat) (S1 : rs_St), m + d = 2 ^ n → d < fu → rv_rfF S S1 → rs_gl S1 24 = lN (rv_sm (rv_oE a v b n) m) → rs_gl S1 25 = lN (rv_sm (rv_oM a v n) m) → rs_gl S1 26 = T → ∃ S2, xf_X5_findOdds_l45 (nI v) (nI n) (nI b) (fun (S41 : rs_St) (x42 : Int32) => some S41) fu S1 (nI m) = some S2 ∧ rv_rfF S S2 ∧ rs_gl S2 24 = lN (rv_sm (rv_oE a v b n) (2 ^ n)) ∧ rs_gl S2 25 = lN (rv_sm (rv_oM a v n) (2 ^ n)) ∧ rs_gl S2 26 = T := by
  have h256 : 2 ^ n ≤ 2 ^ 8 := Nat.pow_le_pow_right (by omega) hn
  intro d
  induction d with
  | zero =>
    intro m fu S1 hmd hf hr g24 g25 g26
    obtain ⟨f, rfl⟩ : ∃ f, fu = f + 1 := ⟨fu - 1, by omega⟩
    obtain rfl : m = 2 ^ n := by omega
    refine ⟨S1, ?_, hr, g24, g25, g26⟩
    rw [xf_X5_findOdds_l45, rv_shl (by omega), rv_le (by omega) (by omega), if_pos (by omega)]
  | succ d ih =>
    intro m fu S1 hmd hf hr g24 g25 g26
    obtain ⟨f, rfl⟩ : ∃ f, fu = f + 1 := ⟨fu - 1, by omega⟩
    obtain ⟨S15, e15, s15⟩ := rv_starts S1
    obtain ⟨h1, h2, h3, h4, h5, h6, h7, h8, h9, h10⟩ := s15
    have hm1 : ∀ j, j < 51 → rs_gi S1 92 j = nI (a j) := fun j hj => (hr 92 j (by omega)).trans (hm j hj)
    have f15 : rv_rfF S S15 := fun k j z => by
      by_cases q : k = 91
      · rw [q, h4 j (by unfold rv_rel at z; omega), ← q]
        exact hr k j z
      · exact (congrFun (h1 k q (by unfold rv_rel at z; omega)) j).trans (hr k j z)
    obtain ⟨S32, e32, r32, g32, q15, q17⟩ := rv_63 (S := S15) (a := a) (v := v) (n := n) (m := m) w ht hv hn (by omega) (fun (S32 : rs_St) (x33 : Int64) (x34 : Int32) => rs_jn (fun (x35 : Int64) => rs_lt (rs_sl S32 24 ((rs_gl S32 24) + x35)) (fun S37 => rs_lt (rs_sl S37 25 ((rs_gl S37 25) + (x33 * (rs_gi S37 91 17).toInt64))) (fun S38 => rs_lt (nI m + 1) (fun x39 => xf_X5_findOdds_l45 (nI v) (nI n) (nI b) (fun (S41 : rs_St) (x42 : Int32) => some S41) f S38 x39)))) (fun J36 => if nI b < (rs_gi S32 91 15) then J36 0 else J36 x33)) n 0 rs_fu S15 (by omega) (by unfold rs_fu; omega) (fun _ _ _ => rfl) rfl h5 h7 h9 ⟨a, fun j hj => (h3 j hj).trans (hm1 j hj), fun _ _ => rfl, by unfold rv_T; omega⟩
    have l24 : rs_gl S32 24 = lN (rv_sm (rv_oE a v b n) m) := (congrFun (g32.trans h2) 24).trans g24
    have l25 : rs_gl S32 25 = lN (rv_sm (rv_oM a v n) m) := (congrFun (g32.trans h2) 25).trans g25
    have l26 : rs_gl S32 26 = T := (congrFun (g32.trans h2) 26).trans g26
    have hbl : rv_mx (fun k => rv_oB a k (rv_bi m k)) n ≤ 255 := rv_mx_le (fun j _ => rv_bd_le _ _ _)
    have hsl : rv_sm (fun k => rv_oL a k (rv_bi m k)) n ≤ n * 2040 := rv_sm_le (fun j _ => rv_ls_le w _ _)
    have e1 : xf_X5_findOdds_l45 (nI v) (nI n) (nI b) (fun (S41 : rs_St) (x42 : Int32) => some S41) (f + 1) S1 (nI m) = xf_X5_findOdds_l45 (nI v) (nI n) (nI b) (fun (S41 : rs_St) (x42 : Int32) => some S41) f (rs_sl (rs_sl S32 24 (lN (rv_sm (rv_oE a v b n) (m + 1)))) 25 (lN (rv_sm (rv_oM a v n) (m + 1)))) (nI (m + 1)) := by
      rw [xf_X5_findOdds_l45, rv_shl (by omega), rv_le (by omega) (by omega), if_neg (by omega), e15, rv_b1s]
      refine e32.trans ?_
      have eM : rv_sm (rv_oM a v n) (m + 1) = rv_sm (rv_oM a v n) m + rv_pd (fun k => if rv_bi m k then v else 10 - v) n * rv_sm (fun k => rv_oL a k (rv_bi m k)) n := rfl
      have eE : rv_sm (rv_oE a v b n) (m + 1) = rv_sm (rv_oE a v b n) m + rv_oE a v b n m := rfl
      simp only [rs_jn, rs_lt, rv_gsl]
      rw [rv_gln (by omega), l24, l25, q15, q17, rv_lt (by omega) (by omega), nI_l (by omega), lN_mul, lN_add, ← eM, nI_1, eE]
      unfold rv_oE
      by_cases q : b < rv_mx (fun k => rv_oB a k (rv_bi m k)) n
      · rw [if_pos q, if_pos q, rv_l0, lN_add]
      · rw [if_neg q, if_neg q, rv_gln (by omega), l25, lN_add, lN_add, ← eM]
    rw [e1]
    refine ih (m + 1) f _ (by omega) (by omega) (fun k j z => (r32 k j z).trans (f15 k j z)) ?_ (rv_gls _ _ _) ?_
    · rw [rv_gln (by omega), rv_gls]
    · rw [rv_gln (by omega), rv_gln (by omega)]
      exact l26
theorem rv_18 {n : Nat} (hn : n ≤ 8) (K : rs_St → Int32 → Option rs_St) : ∀ (d i fu : Nat) (S4 : rs_St), i + d = n → d < fu → rs_gl S4 26 = lN (10 ^ i) → ∃ S5, xf_X5_findOdds_l18 (nI n) K fu S4 (nI i) = K S5 (nI n) ∧ (∀ k j, rs_gi S5 k j = rs_gi S4 k j) ∧ (∀ j, j ≠ 26 → rs_gl S5 j = rs_gl S4 j) ∧ rs_gl S5 26 = lN (10 ^ n) := by
  intro d
  induction d with
  | zero =>
    intro i fu S4 hi hf h
    obtain ⟨f, rfl⟩ : ∃ f, fu = f + 1 := ⟨fu - 1, by omega⟩
    obtain rfl : i = n := by omega
    refine ⟨S4, ?_, fun _ _ => rfl, fun _ _ => rfl, h⟩
    rw [xf_X5_findOdds_l18, rv_le (by omega) (by omega), if_pos (by omega)]
  | succ d ih =>
    intro i fu S4 hi hf h
    obtain ⟨f, rfl⟩ : ∃ f, fu = f + 1 := ⟨fu - 1, by omega⟩
    rw [xf_X5_findOdds_l18, rv_le (by omega) (by omega), if_neg (by omega), h, rv_l10, lN_mul, rv_lts, rv_lts, nI_1]
    obtain ⟨S5, y1, y2, y3, y4⟩ := ih (i + 1) f (rs_sl S4 26 (lN (10 ^ i * 10))) (by omega) (by omega) (rv_gls _ _ _)
    exact ⟨S5, y1, fun k j => (y2 k j).trans (rv_gsl _ _ _ _ _), fun j hj => (y3 j hj).trans (rv_gln hj), y4⟩
theorem rv_findOdds {S : rs_St} {a : Nat → Nat} {v n b : Nat} (w : rv_wf a) (ht : a 21 ≤ 99999) (hv : v ≤ 10) (hn : n ≤ 8) (hb : b ≤ 255) (hm : ∀ j, j < 51 → rs_gi S 92 j = nI (a j)) : ∃ S2, xf_X5_findOdds S (nI v) (nI n) (nI b) = some S2 ∧ rv_rfF S S2 ∧ rs_gl S2 24 = lN (rv_sm (rv_oE a v b n) (2 ^ n)) ∧ rs_gl S2 25 = lN (rv_sm (rv_oM a v n) (2 ^ n)) ∧ rs_gl S2 26 = lN (10 ^ n) := by
  have h256 : 2 ^ n ≤ 2 ^ 8 := Nat.pow_le_pow_right (by omega) hn
  obtain ⟨S5, y1, y2, y3, y4⟩ := rv_18 hn (fun (S9 : rs_St) (x10 : Int32) => xf_X5_findOdds_l45 (nI v) (nI n) (nI b) (fun (S41 : rs_St) (x42 : Int32) => some S41) rs_fu S9 0) n 0 rs_fu (rs_sl (rs_sl (rs_sl S 24 0) 25 0) 26 1) (by omega) (by unfold rs_fu; omega) (rv_gls _ _ _)
  obtain ⟨S6, z1, z2, z3⟩ := rv_45 (S := S) w ht hv hn hb hm (lN (10 ^ n)) (2 ^ n) 0 rs_fu S5 (by omega) (by unfold rs_fu; omega) (fun k j _ => y2 k j) (by rw [y3 24 (by omega), rv_gln (by omega), rv_gln (by omega), rv_gls]; rfl) (by rw [y3 25 (by omega), rv_gln (by omega), rv_gls]; rfl) y4
  refine ⟨S6, ?_, z2, z3⟩
  unfold xf_X5_findOdds
  simp only [rs_lt]
  exact y1.trans z1
theorem rv_fm0 (a : Nat → Nat) : rv_fm a false = rv_uu := rfl
theorem rv_even {a : Nat → Nat} {v b n : Nat} : rv_sm (rv_oE a v b n) (2 ^ n) = rv_pd (rv_lf a v b) n := by
  have e1 : rv_sm (rv_oE a v b n) (2 ^ n) = rv_sm (fun m => rv_pd (fun k => (fun k x => if rv_oB a k x ≤ b then (if x then v else 10 - v) else 0) k (rv_bi m k)) n) (2 ^ n) := rv_sm_cg (fun m _ => rv_cap (fun k => rv_oB a k (rv_bi m k)) (fun k => if rv_bi m k then v else 10 - v) b n)
  exact e1.trans (rv_ss (fun k x => if rv_oB a k x ≤ b then (if x then v else 10 - v) else 0) n)
theorem rv_lf_le {a : Nat → Nat} {v b k : Nat} (hv : v ≤ 10) : rv_lf a v b k ≤ 10 := by
  unfold rv_lf
  split <;> split <;> omega
theorem rv_8s {n : Nat} (hn : n ≤ 8) : 0 < 10 ^ n ∧ 10 ^ n ≤ 100000000 := ⟨Nat.pow_pos (by omega), Nat.pow_le_pow_right (n := 10) (by omega) hn⟩
theorem rv_luck : pt_luck rv_Inv := by
  intro S a1 a2 a3 a4 hI
  obtain ⟨⟨a, hn⟩, -⟩ := id hI
  obtain ⟨w, hm, hf⟩ := id hn
  have ht := w.2.1
  unfold xf_X4_luck xf_X5_luck
  rw [rv_out, rv_b1s, rv_o0, rv_out, rv_b1s, rv_o0, rv_out, rv_b1s, rv_o0, rv_out, rv_b1s, rv_o0]
  have r1 : ∀ S : rs_St, xf_X5_in S a1.toInt64 0 10 = some (if (0 : Int32) ≤ a1 ∧ a1 ≤ 10 then 1 else 0) := fun S => rv_in _ a1 0 10
  have r2 : ∀ S : rs_St, xf_X5_in S a2.toInt64 0 8 = some (if (0 : Int32) ≤ a2 ∧ a2 ≤ 8 then 1 else 0) := fun S => rv_in _ a2 0 8
  have r3 : ∀ S : rs_St, xf_X5_in S a3.toInt64 0 255 = some (if (0 : Int32) ≤ a3 ∧ a3 ≤ 255 then 1 else 0) := fun S => rv_in _ a3 0 255
  simp only [r1, r2, r3, rv_isPt, rv_b1s, rv_i0]
  by_cases x1 : (0 : Int32) ≤ a1 ∧ a1 ≤ 10
  · by_cases x2 : (0 : Int32) ≤ a2 ∧ a2 ≤ 8
    · by_cases x3 : (0 : Int32) ≤ a3 ∧ a3 ≤ 255
      · by_cases x4 : (0 : Int32) ≤ a4 ∧ a4 ≤ 1
        · simp only [if_pos x1, if_pos x2, if_pos x3, if_pos x4]
          obtain ⟨v, -, hv, rfl⟩ := rv_ins (lo := 0) (hi := 10) (by omega) x1 (by omega)
          obtain ⟨n, -, hN, rfl⟩ := rv_ins (lo := 0) (hi := 8) (by omega) x2 (by omega)
          obtain ⟨b, -, hb, rfl⟩ := rv_ins (lo := 0) (hi := 255) (by omega) x3 (by omega)
          obtain ⟨S14, e14, d14, s19, s0⟩ := rv_dSteady hI hn
          have hm14 : ∀ j, j < 51 → rs_gi S14 92 j = nI (a j) := fun j hj => by rw [d14.1 _ _ (by omega) (by omega)]; exact hm j hj
          obtain ⟨S2, e2, f2, g24, g25, g26⟩ := rv_findOdds (S := S14) w.1 ht hv hN hb hm14
          have ek := rv_lk w.1 ht s0 s19 hv hN hb (fun (x32 : Int64) (x33 : Int64) (x34 : Int32) => rs_b1 (xf_X4_inLowestTerms S14 x32 x33 a4) (fun r36 => some (r36, S14))) n 0 rs_fu (by omega) (by unfold rs_fu; omega)
          have hp : rv_pd (rv_lf a v b) n ≤ 10 ^ n := rv_pd_le (fun i _ => rv_lf_le hv)
          obtain ⟨t1, t2⟩ := rv_8s hN
          rw [rv_cLow S14 (by omega) t1 (by omega), rv_b1s] at ek
          refine ⟨if a4 = 0 then lN (rv_pd (rv_lf a v b) n / (rv_pd (rv_lf a v b) n).gcd (10 ^ n)) else lN (10 ^ n / (rv_pd (rv_lf a v b) n).gcd (10 ^ n)), S14, S2, ?_, ?_, rv_rfF_inv (rv_drf_inv hI d14) f2⟩
          · rw [e14, rv_b1s]
            exact ek
          · rw [e2, rv_b1s, g24, g26, rv_even, rv_rLow S2 (by omega) t1 (by omega), rv_b1s]
        · simp only [if_pos x1, if_pos x2, if_pos x3, if_neg x4]
          exact ⟨_, _, _, rfl, rfl, hI⟩
      · simp only [if_pos x1, if_pos x2, if_neg x3]
        exact ⟨_, _, _, rfl, rfl, hI⟩
    · simp only [if_pos x1, if_neg x2]
      exact ⟨_, _, _, rfl, rfl, hI⟩
  · simp only [if_neg x1]
    exact ⟨_, _, _, rfl, rfl, hI⟩
theorem rv_mean : pt_mean rv_Inv := by
  intro S a1 a2 a3 hI
  obtain ⟨⟨a, hn⟩, -⟩ := id hI
  obtain ⟨w, hm, hf⟩ := id hn
  have ht := w.2.1
  unfold xf_X4_mean xf_X5_mean
  rw [rv_out, rv_b1s, rv_o0, rv_out, rv_b1s, rv_o0, rv_out, rv_b1s, rv_o0]
  have r1 : ∀ S : rs_St, xf_X5_in S a1.toInt64 0 10 = some (if (0 : Int32) ≤ a1 ∧ a1 ≤ 10 then 1 else 0) := fun S => rv_in _ a1 0 10
  have r2 : ∀ S : rs_St, xf_X5_in S a2.toInt64 0 8 = some (if (0 : Int32) ≤ a2 ∧ a2 ≤ 8 then 1 else 0) := fun S => rv_in _ a2 0 8
  simp only [r1, r2, rv_isPt, rv_b1s, rv_i0]
  by_cases x1 : (0 : Int32) ≤ a1 ∧ a1 ≤ 10
  · by_cases x2 : (0 : Int32) ≤ a2 ∧ a2 ≤ 8
    · by_cases x4 : (0 : Int32) ≤ a3 ∧ a3 ≤ 1
      · simp only [if_pos x1, if_pos x2, if_pos x4]
        obtain ⟨v, -, hv, rfl⟩ := rv_ins (lo := 0) (hi := 10) (by omega) x1 (by omega)
        obtain ⟨n, -, hN, rfl⟩ := rv_ins (lo := 0) (hi := 8) (by omega) x2 (by omega)
        obtain ⟨S14, e14, d14, s19, s0⟩ := rv_dSteady hI hn
        have hm14 : ∀ j, j < 51 → rs_gi S14 92 j = nI (a j) := fun j hj => by rw [d14.1 _ _ (by omega) (by omega)]; exact hm j hj
        obtain ⟨S2, e2, f2, g24, g25, g26⟩ := rv_findOdds (S := S14) (b := 0) w.1 ht hv hN (by omega) hm14
        replace e2 : xf_X5_findOdds S14 (nI v) (nI n) 0 = some S2 := e2
        obtain ⟨t1, t2⟩ := rv_8s hN
        have hmm : rv_sm (rv_oM a v n) (2 ^ n) * 10 = 10 ^ n * (rv_sm (fun k => rv_oL a k false) n * (10 - v) + rv_sm (fun k => rv_oL a k true) n * v) := rv_mm v hv (rv_oL a) n
        have b0 : rv_sm (fun k => rv_oL a k false) n ≤ n * 2040 := rv_sm_le (fun j _ => rv_ls_le w.1 _ _)
        have b1 : rv_sm (fun k => rv_oL a k true) n ≤ n * 2040 := rv_sm_le (fun j _ => rv_ls_le w.1 _ _)
        have c0 : rv_sm (fun k => rv_oL a k false) n * (10 - v) ≤ 16320 * 10 := Nat.mul_le_mul (by omega) (by omega)
        have c1 : rv_sm (fun k => rv_oL a k true) n * v ≤ 16320 * 10 := Nat.mul_le_mul (by omega) (by omega)
        have c2 : 10 ^ n * (rv_sm (fun k => rv_oL a k false) n * (10 - v) + rv_sm (fun k => rv_oL a k true) n * v) ≤ 100000000 * 326400 := Nat.mul_le_mul t2 (by omega)
        have l0 : xf_X1_lightOfShots S14 0 (nI n) = some (nI (rv_sm (fun k => rv_oL a k false) n)) := rv_clights w.1 s0 ht (by omega)
        have l1 : xf_X1_lightOfShots S14 19 (nI n) = some (nI (rv_sm (fun k => rv_oL a k true) n)) := rv_clights w.1 s19 ht (by omega)
        obtain ⟨lw1, lw2⟩ := rv_lw hmm t1 (by omega)
        generalize htop : rv_sm (fun k => rv_oL a k false) n * (10 - v) + rv_sm (fun k => rv_oL a k true) n * v = top at *
        refine ⟨if a3 = 0 then lN (top / top.gcd 10) else lN (10 / top.gcd 10), S14, S2, ?_, ?_, rv_rfF_inv (rv_drf_inv hI d14) f2⟩
        · rw [e14, rv_b1s, l0, rv_b1s, rv_lts, l1, rv_b1s, rv_lts, rv_10, pk_sub hv, nI_l (by omega), nI_l (by omega), nI_l (by omega), nI_l (by omega), lN_mul, lN_mul, lN_add, htop, rv_l10, rv_cLow S14 (by omega) (by omega) (by omega), rv_b1s]
        · rw [e2, rv_b1s, g25, g26, rv_rLow S2 (by omega) t1 (by omega), rv_b1s, lw1, lw2]
      · simp only [if_pos x1, if_pos x2, if_neg x4]
        exact ⟨_, _, _, rfl, rfl, hI⟩
    · simp only [if_pos x1, if_neg x2]
      exact ⟨_, _, _, rfl, rfl, hI⟩
  · simp only [if_neg x1]
    exact ⟨_, _, _, rfl, rfl, hI⟩
