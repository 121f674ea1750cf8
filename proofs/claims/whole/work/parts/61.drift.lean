/-! drift -/
def rv_rr (x : Int32) : Nat := (x.toBitVec.toNat / 65536) % 32768
theorem rv_bit0 (x : BitVec 32) : (x >>> 16) &&& 32767#32 = BitVec.ofNat 32 (x.toNat / 65536 % 32768) := by
  apply BitVec.eq_of_toNat_eq
  rw [BitVec.toNat_and, BitVec.toNat_ushiftRight, BitVec.toNat_ofNat, BitVec.toNat_ofNat, Nat.shiftRight_eq_div_pow, show 32767 % 2 ^ 32 = 2 ^ 15 - 1 by decide, Nat.and_two_pow_sub_one_eq_mod]
  omega
theorem rv_bit1 (x : BitVec 32) : (x.sshiftRight 16) &&& 32767#32 = (x >>> 16) &&& 32767#32 := by
  apply BitVec.eq_of_getLsbD_eq
  intro i hi
  rw [BitVec.getLsbD_and, BitVec.getLsbD_and, BitVec.getLsbD_sshiftRight, BitVec.getLsbD_ushiftRight]
  by_cases h : i < 16
  · rw [if_pos (by omega), decide_eq_false (by omega), Bool.not_false, Bool.true_and]
  · have e : (32767#32).getLsbD i = false := by
      rw [BitVec.getLsbD_ofNat, Nat.testBit_lt_two_pow, Bool.and_false]
      exact Nat.lt_of_lt_of_le (by decide) (Nat.pow_le_pow_right (by omega) (show 15 ≤ i by omega))
    rw [e, Bool.and_false, Bool.and_false]
theorem rv_bitc (x : Int32) : ((x : Int32).toUInt32 >>> ((16 : Int32).toUInt32 &&& Int32.toUInt32 31)).toInt32 &&& 32767 = nI (rv_rr x) := Int32.toBitVec_inj.1 (rv_bit0 x.toBitVec)
theorem rv_bitr (x : Int32) : (x >>> (16 &&& 31)) &&& 32767 = nI (rv_rr x) := Int32.toBitVec_inj.1 ((rv_bit1 x.toBitVec).trans (rv_bit0 x.toBitVec))
theorem rv_rr_lt (x : Int32) : rv_rr x < 32768 := Nat.mod_lt _ (by omega)
def rv_sd (s : Int32) : Nat → Int32
  | 0 => s
  | i + 1 => rv_sd s i * 1103515245 + 12345
def rv_da (a : Nat → Nat) (s : Int32) : Nat → Nat → Nat
  | 0 => a
  | i + 1 => rv_up (rv_da a s i) (4 * (rv_rr (rv_sd s (i + 1)) % a 16) + 3) (rv_rr (rv_sd s (i + 1)) / 8 % 12)
theorem rv_da_n {a : Nat → Nat} {s : Int32} (hc : a 16 ≤ 4) (h0 : 0 < a 16) : ∀ {i j : Nat}, 16 ≤ j → rv_da a s i j = a j
  | 0, _, _ => rfl
  | i + 1, j, hj => by
    have := Nat.mod_lt (rv_rr (rv_sd s (i + 1))) h0
    rw [rv_da, rv_up_n (by omega)]
    exact rv_da_n hc h0 hj
theorem rv_da_wf {a : Nat → Nat} {s : Int32} (w : rv_wf a) (h0 : 0 < a 16) : ∀ {i : Nat}, rv_wf (rv_da a s i)
  | 0 => w
  | i + 1 => by
    have := Nat.mod_lt (rv_rr (rv_sd s (i + 1))) h0
    have hc := w.1
    exact rv_wfpart (p := 3) (rv_da_wf w h0) (by omega) (by omega) (Nat.zero_le _) (show rv_rr (rv_sd s (i + 1)) / 8 % 12 ≤ 11 by omega)
def rv_db (a : Nat → Nat) (s : Int32) (i : Nat) : Nat := rv_bd (rv_da a s (i + 1)) rv_uu (rv_T a i)
def rv_dl (a : Nat → Nat) (s : Int32) (i : Nat) : Nat := rv_ls (rv_da a s (i + 1)) rv_uu (rv_T a i)
theorem rv_dr_c {S : rs_St} {a : Nat → Nat} {n : Nat} {s : Int32} (w : rv_wf a) (ht : a 21 ≤ 99999) (h0 : 0 < a 16) (hn : n ≤ 40) (hc0 : rs_gi S 0 1 = nI (a 16)) (K : rs_St → Int32 → Int32 → Int32 → Int32 → Option (Int32 × rs_St)) : ∀ (d i fu : Nat) (S1 : rs_St), i + d = n → d < fu → rv_drf S S1 → rv_sc S1 19 (rv_da a s i) rv_uu → ∃ S2 x y, xf_X4_drift_l58 (nI n) K fu S1 (nI (rv_mx (rv_db a s) i)) (nI (rv_sm (rv_dl a s) i)) (rv_sd s i) (nI i) = K S2 (nI (rv_mx (rv_db a s) n)) (nI (rv_sm (rv_dl a s) n)) x y ∧ rv_drf S S2 := by
  have hc := w.1
  have hbl : ∀ i, rv_db a s i ≤ 255 := fun i => rv_bd_le _ _ _
  intro d
  induction d with
  | zero =>
    intro i fu S1 hi hf hd hs
    obtain ⟨f, rfl⟩ : ∃ f, fu = f + 1 := ⟨fu - 1, by omega⟩
    obtain rfl : i = n := by omega
    refine ⟨S1, rv_sd s i, nI i, ?_, hd⟩
    rw [xf_X4_drift_l58, rv_le (by omega) (by omega), if_pos (by omega)]
  | succ d ih =>
    intro i fu S1 hi hf hd hs
    obtain ⟨f, rfl⟩ : ∃ f, fu = f + 1 := ⟨fu - 1, by omega⟩
    have hrr := rv_rr_lt (rv_sd s (i + 1))
    have hml := Nat.mod_lt (rv_rr (rv_sd s (i + 1))) h0
    obtain ⟨S3, e3, hs3, hb3⟩ := rv_scb (l := rv_rr (rv_sd s (i + 1)) % a 16) (p := 3) (v := rv_rr (rv_sd s (i + 1)) / 8 % 12) hs (by rw [rv_da_n hc h0 (by omega)]; exact hml) (rv_da_wf w h0) (by omega) (Nat.zero_le _) (show rv_rr (rv_sd s (i + 1)) / 8 % 12 ≤ 11 by omega) rfl
    have e3' : xf_X0_become S1 ((19 + 1) + 6 + 3 * (rv_rr (rv_sd s (i + 1)) % a 16)) 3 (nI (rv_rr (rv_sd s (i + 1)) / 8 % 12)) = some S3 := e3
    have hs3' : rv_sc S3 19 (rv_da a s (i + 1)) rv_uu := hs3
    have eT : rv_T (rv_da a s (i + 1)) i = rv_T a i := by
      unfold rv_T
      rw [rv_da_n hc h0 (by omega), rv_da_n hc h0 (by omega)]
    have eb : xf_X1_bands S3 19 (nI i) = some (nI (rv_db a s i)) := by
      rw [rv_cbands (rv_da_wf w h0) hs3' (by rw [rv_da_n hc h0 (by omega)]; exact ht) (by omega), eT]
      rfl
    have el : xf_X1_lightOf S3 19 (nI i) = some (nI (rv_dl a s i)) := by
      rw [rv_clightOf (rv_da_wf w h0) hs3' (by rw [rv_da_n hc h0 (by omega)]; exact ht) (by omega), eT]
      rfl
    have hd3 : rv_drf S S3 := rv_drf_bc (by omega) hd hb3
    have hmx : rv_mx (rv_db a s) i ≤ 255 := rv_mx_le (fun j _ => hbl j)
    have hbi := hbl i
    rw [xf_X4_drift_l58, rv_le (by omega) (by omega), if_neg (by omega), rv_lts, show rv_sd s i * 1103515245 + 12345 = rv_sd s (i + 1) from rfl, rv_lts, rv_bitc, hd.1 _ _ (by omega) (by omega), hc0, rv_eq0 (by omega), if_neg (by omega), rv_rem (by omega) (by omega) (by omega), rv_8, pk_div (by omega) (by omega) (by omega), rv_12, rv_rem (by omega) (by omega) (by omega), rv_ckn (by omega) (by omega), nI_clamp (by omega), e3', rv_b1s, eb, rv_b1s, rv_lts, el, rv_b1s, rv_lts, rv_lts, rv_lt (by omega) (by omega), rv_nite, rv_maxe, nI_add, nI_1]
    exact ih (i + 1) f S3 (by omega) (by omega) hd3 hs3'
theorem rv_dr_r {S : rs_St} {a : Nat → Nat} {n : Nat} {s : Int32} (w : rv_wf a) (ht : a 21 ≤ 99999) (h0 : 0 < a 16) (hn : n ≤ 40) (hc0 : rs_gi S 92 16 = nI (a 16)) (K : rs_St → Int32 → Int32 → Option (Int32 × rs_St)) : ∀ (d i fu : Nat) (S1 : rs_St), i + d = n → d < fu → rv_rfF S S1 → rs_gi S1 91 13 = -4 → rs_gi S1 91 14 = 0 → rs_gi S1 91 15 = nI (rv_mx (rv_db a s) i) → rs_gi S1 91 17 = nI (rv_sm (rv_dl a s) i) → (∃ b, rv_nw S1 b ∧ (∀ j, j < 21 → b j = rv_da a s i j) ∧ b 21 = rv_T a i) → ∃ S2 x y, xf_X5_drift_l44 (nI n) K fu S1 (rv_sd s i) (nI i) = K S2 x y ∧ rv_rfF S S2 ∧ rs_gi S2 91 15 = nI (rv_mx (rv_db a s) n) ∧ rs_gi S2 91 17 = nI (rv_sm (rv_dl a s) n) := by
  have hc := w.1
  have hp := w.2.2.2.2.2
  have hbl : ∀ i, rv_db a s i ≤ 255 := fun i => rv_bd_le _ _ _
  intro d
  induction d with
  | zero =>
    intro i fu S1 hi hf hr h13 h14 h15 h17 hb
    obtain ⟨f, rfl⟩ : ∃ f, fu = f + 1 := ⟨fu - 1, by omega⟩
    obtain rfl : i = n := by omega
    refine ⟨S1, rv_sd s i, nI i, ?_, hr, h15, h17⟩
    rw [xf_X5_drift_l44, rv_le (by omega) (by omega), if_pos (by omega)]
  | succ d ih =>
    intro i fu S1 hi hf hr h13 h14 h15 h17 hb
    obtain ⟨f, rfl⟩ : ∃ f, fu = f + 1 := ⟨fu - 1, by omega⟩
    obtain ⟨b, b1, b2, b3⟩ := hb
    have hrr := rv_rr_lt (rv_sd s (i + 1))
    have hml := Nat.mod_lt (rv_rr (rv_sd s (i + 1))) h0
    have hmul : i * a 20 ≤ 40 * 60 := Nat.mul_le_mul (by omega) hp.2
    generalize hl : rv_rr (rv_sd s (i + 1)) % a 16 = l at *
    generalize hv : rv_rr (rv_sd s (i + 1)) / 8 % 12 = v at *
    have eda : rv_da a s (i + 1) = rv_up (rv_da a s i) (4 * l + 3) v := by rw [rv_da, hl, hv]
    have eu : ∀ j, j < 21 → rv_up b (4 * l + 3) v j = rv_da a s (i + 1) j := fun j hj => by
      rw [eda, rv_upe, rv_upe, b2 j hj]
    have e21 : rv_up b (4 * l + 3) v 21 = rv_T a i := by rw [rv_up_n (by omega), b3]
    have e16 : rv_up b (4 * l + 3) v 16 = a 16 := by rw [eu 16 (by omega), rv_da_n hc h0 (by omega)]
    have e20 : rv_up b (4 * l + 3) v 20 = a 20 := by rw [eu 20 (by omega), rv_da_n hc h0 (by omega)]
    have nw : rv_nw (rs_si S1 93 (4 * l + 3) (nI v)) (rv_up b (4 * l + 3) v) := fun j hj => by
      rw [rv_gs, rv_upe]
      by_cases q : j = 4 * l + 3
      · rw [if_pos ⟨rfl, q⟩, if_pos q]
      · rw [if_neg (fun z => q z.2), if_neg q]
        exact b1 j hj
    have wda := rv_da_wf (s := s) (i := i + 1) w h0
    have wb : rv_wf (rv_up b (4 * l + 3) v) := rv_wf_cg eu wda
    have eT : rv_T a i = a 21 + i * a 20 := rfl
    obtain ⟨S20, e20', p1, p2, p3, p4, p5, p6, p7, p8, p9⟩ := rv_shotGoes (u := rv_uu) nw wb (by rw [e21]; omega) (fun m hm => by
      unfold rv_on
      rw [rv_gsn (by omega), rv_gsn (by omega), h13, h14]
      simp [rv_neg4 (n := m) (by omega), rv_uu])
    have ebd : rv_bd (rv_up b (4 * l + 3) v) rv_uu (rv_T a i) = rv_db a s i := rv_bd_cg (a := rv_da a s (i + 1)) (by rw [rv_da_n hc h0 (by omega)]; exact hc) eu (fun _ _ => rfl) _
    have els : rv_ls (rv_up b (4 * l + 3) v) rv_uu (rv_T a i) = rv_dl a s i := rv_ls_cg (a := rv_da a s (i + 1)) (by rw [rv_da_n hc h0 (by omega)]; exact hc) eu (fun _ _ => rfl) _
    rw [e21, ebd, rv_gsn (by omega), h15] at p6
    rw [e21, els, rv_gsn (by omega), h17, nI_add] at p8
    have hmx : rv_mx (rv_db a s) i ≤ 255 := rv_mx_le (fun j _ => hbl j)
    have hbi := hbl i
    rw [rv_le (by omega) (by omega), rv_nite] at p6
    have hl4 : l < a 16 := hml
    have h92 : rs_gi S1 92 16 = nI (a 16) := (hr 92 16 (by omega)).trans hc0
    rw [xf_X5_drift_l44, rv_le (by omega) (by omega), if_neg (by omega), rv_lts, show rv_sd s i * 1103515245 + 12345 = rv_sd s (i + 1) from rfl, rv_lts, rv_bitr, h92, rv_eq0 (by omega), if_neg (by omega), rv_rem (by omega) (by omega) (by omega), rv_8, pk_div (by omega) (by omega) (by omega), rv_12, rv_rem (by omega) (by omega) (by omega), hl, hv, rv_4, pk_mul, rv_a3, rv_ckn (by omega) (by omega), nI_clamp (by omega), rv_lts, e20', rv_b1s, rv_lts, nI_1]
    refine ih (i + 1) f S20 (by omega) (by omega) (fun k j z => ?_) ?_ ?_ p6 p8 ⟨rv_nx (rv_up b (4 * l + 3) v) rv_uu, p2, fun j hj => ?_, ?_⟩
    · by_cases q : k = 91
      · rw [q, p4 j (by unfold rv_rel at z; omega), rv_gsn (by omega), ← q]
        exact hr k j z
      · exact (congrFun (p1.1 k q (by unfold rv_rel at z; omega) (by unfold rv_rel at z; omega)) j).trans ((rv_gsn (by unfold rv_rel at z; omega)).trans (hr k j z))
    · rw [p4 13 (by omega), rv_gsn (by omega)]
      exact h13
    · rw [p4 14 (by omega), rv_gsn (by omega)]
      exact h14
    · unfold rv_nx
      rw [if_neg (by omega), if_neg (by omega), if_neg (by omega), if_neg (by omega)]
      exact eu j hj
    · unfold rv_nx
      rw [if_pos rfl, e21, e20]
      unfold rv_T
      rw [Nat.succ_mul]
      omega
theorem rv_drift : pt_drift rv_Inv := by
  intro S a1 a2 a3 hI
  obtain ⟨⟨a, hn⟩, -⟩ := id hI
  obtain ⟨w, hm, hf⟩ := id hn
  have ht := w.2.1
  have hc := w.1.1
  unfold xf_X4_drift xf_X5_drift
  rw [rv_out, rv_b1s, rv_o0, rv_out, rv_b1s, rv_o0]
  by_cases hy : (1 : Int32) ≤ a2 ∧ a2 ≤ 40
  · rw [if_pos hy]
    by_cases hz : (0 : Int32) ≤ a3 ∧ a3 ≤ 1
    · rw [if_pos hz]
      have r1 : ∀ S : rs_St, xf_X5_in S a2.toInt64 1 40 = some 1 := fun S => by
        rw [show xf_X5_in S a2.toInt64 1 40 = _ from rv_in _ a2 1 40]
        exact congrArg some (if_pos hy)
      have r2 : ∀ S : rs_St, xf_X5_isPart S a3 = some 1 := fun S => by
        rw [rv_isPt]
        exact congrArg some (if_pos hz)
      obtain ⟨n, hn1, hN, rfl⟩ := rv_ins (lo := 1) (hi := 40) (by omega) hy (by omega)
      by_cases h0 : a 16 = 0
      · refine ⟨-2, S, S, ?_, ?_, hI⟩
        · rw [hf.1.1, rv_1, rv_le (by omega) (by omega), if_neg (by omega)]
        · rw [r1, rv_b1s, if_neg (by decide), r2, rv_b1s, if_neg (by decide), hm 16 (by omega), rv_eq0 (by omega), if_pos h0]
      · obtain ⟨S1, e1, c1, d1⟩ := rv_draft hI hn
        obtain ⟨S2, x, y, e2, d2⟩ := rv_dr_c (S := S) (a := a) (n := n) (s := a1) w.1 ht (by omega) hN hf.1.1 (fun (S29 : rs_St) (x30 : Int32) (x31 : Int32) (x32 : Int32) (x33 : Int32) => if a3 = 0 then some (x30, S29) else some (x31, S29)) n 0 rs_fu S1 (by omega) (by unfold rs_fu; omega) d1 c1.1
        have i2 := rv_drf_inv hI d2
        have hm2 : ∀ j, j < 51 → rs_gi S2 92 j = nI (a j) := fun j hj => by rw [d2.1 _ _ (by omega) (by omega)]; exact hm j hj
        obtain ⟨S7, e7, s7⟩ := rv_starts S2
        have s7' := s7
        obtain ⟨h1, h2, h3, h4, h5, h6, h7, h8, h9, h10⟩ := s7
        obtain ⟨S8, x8, y8, e8, f8, q1, q2⟩ := rv_dr_r (S := S2) (a := a) (n := n) (s := a1) w.1 ht (by omega) hN (hm2 16 (by omega)) (fun (S22 : rs_St) (x23 : Int32) (x24 : Int32) => if a3 = 0 then some ((rs_gi S22 91 15), S22) else some ((rs_gi S22 91 17), S22)) n 0 rs_fu S7 (by omega) (by unfold rs_fu; omega) (fun k j z => by
          by_cases q : k = 91
          · rw [q]
            exact h4 j (by unfold rv_rel at z; omega)
          · exact congrFun (h1 k q (by unfold rv_rel at z; omega)) j) h5 h6 h7 h9 ⟨a, fun j hj => (h3 j hj).trans (hm2 j hj), fun _ _ => rfl, by unfold rv_T; omega⟩
        have eC : ∀ r, (if a3 = 0 then some (nI (rv_mx (rv_db a a1) n), S2) else some (nI (rv_sm (rv_dl a a1) n), S2)) = some (r, S2) → (if (1 : Int32) ≤ rs_gi S 0 1 then rs_b1 (xf_X1_copyFrom S 19 0) (fun S9 => xf_X4_drift_l58 (nI n) (fun (S29 : rs_St) (x30 : Int32) (x31 : Int32) (x32 : Int32) (x33 : Int32) => if a3 = 0 then some (x30, S29) else some (x31, S29)) rs_fu S9 0 0 a1 0) else some ((-2), S)) = some (r, S2) := fun r hr => by
          rw [hf.1.1, rv_1, rv_le (by omega) (by omega), if_pos (by omega), e1, rv_b1s]
          exact e2.trans hr
        have eR : ∀ r, (if a3 = 0 then some (nI (rv_mx (rv_db a a1) n), S8) else some (nI (rv_sm (rv_dl a a1) n), S8)) = some (r, S8) → (rs_b1 (xf_X5_in S2 ((nI n).toInt64) 1 40) (fun r2 => if r2 = 0 then some ((-1), S2) else rs_b1 (xf_X5_isPart S2 a3) (fun r5 => if r5 = 0 then some ((-1), S2) else if (rs_gi S2 92 16) = 0 then some ((-2), S2) else rs_b1 (xf_X5_starts S2) (fun S9 => xf_X5_drift_l44 (nI n) (fun (S22 : rs_St) (x23 : Int32) (x24 : Int32) => if a3 = 0 then some ((rs_gi S22 91 15), S22) else some ((rs_gi S22 91 17), S22)) rs_fu S9 a1 0)))) = some (r, S8) := fun r hr => by
          rw [r1, rv_b1s, if_neg (by decide), r2, rv_b1s, if_neg (by decide), hm2 16 (by omega), rv_eq0 (by omega), if_neg h0, e7, rv_b1s]
          refine e8.trans ?_
          rw [q1, q2]
          exact hr
        have i8 := rv_rfF_inv i2 f8
        by_cases p : a3 = 0
        · exact ⟨_, S2, S8, eC _ (if_pos p), eR _ (if_pos p), i8⟩
        · exact ⟨_, S2, S8, eC _ (if_neg p), eR _ (if_neg p), i8⟩
    · rw [if_neg hz]
      refine ⟨_, _, _, rfl, ?_, hI⟩
      rw [show xf_X5_in S a2.toInt64 1 40 = _ from rv_in _ a2 1 40, rv_b1s, rv_i0, if_pos hy, rv_isPt, rv_b1s, rv_i0, if_neg hz]
  · rw [if_neg hy]
    refine ⟨_, _, _, rfl, ?_, hI⟩
    rw [show xf_X5_in S a2.toInt64 1 40 = _ from rv_in _ a2 1 40, rv_b1s, rv_i0, if_neg hy]
