/-! keep, back, sheet, lay -/
theorem rv_ckm {α : Type} {i n : Nat} {x : Option α} (h : i < n) (hn : n < 2 ^ 31) : (if nI i < 0 ∨ n ≤ i then none else x) = x := by
  rw [if_neg]
  rintro (h1 | h1)
  · exact nI_pos (by omega) h1
  · omega
theorem rv_img_cg {S S2 : rs_St} {k : Nat} (hg : ∀ k2 j, (38 + 19 * k ≤ k2 ∧ k2 < 57 + 19 * k) ∨ (k2 = 78 ∧ j = k) ∨ (k2 = 94 ∧ j = k) ∨ (k2 = 92 ∧ 51 * (k + 1) ≤ j ∧ j < 51 * (k + 1) + 51) → rs_gi S2 k2 j = rs_gi S k2 j) (h : rv_img S k) : rv_img S2 k := by
  obtain ⟨i1, i2⟩ := h
  unfold rv_img
  rw [hg 78 k (by omega), hg 94 k (by omega)]
  refine ⟨i1, ?_⟩
  rcases i2 with i2 | ⟨i2, a, w, i3, i4⟩
  · exact Or.inl i2
  · refine Or.inr ⟨i2, a, w, fun j hj => ?_, rv_fsc_cg w.1.1 (fun k2 j hk1 hk2 => hg k2 j (by omega)) i4⟩
    rw [hg _ _ (by omega)]
    exact i3 j hj
theorem rv_tp_cg {S S2 : rs_St} (hg : ∀ k2 j, (k2 = 80 ∧ j = 1) ∨ (k2 = 91 ∧ j = 6) ∨ k2 = 81 ∨ k2 = 97 → rs_gi S2 k2 j = rs_gi S k2 j) (h : rv_tp S) : rv_tp S2 := by
  obtain ⟨n, hn, t1, t2, t3⟩ := h
  refine ⟨n, hn, ?_, ?_, fun i hi => ?_⟩
  · rw [hg _ _ (by omega)]
    exact t1
  · rw [hg _ _ (by omega)]
    exact t2
  · rw [hg 81 i (by omega), hg 97 i (by omega)]
    exact t3 i hi
theorem rv_sht_cg {S S2 : rs_St} {k : Nat} (hg : ∀ k2 j, (83 + 2 * k ≤ k2 ∧ k2 ≤ 84 + 2 * k) ∨ (k2 = 102 ∧ j = k) ∨ (k2 = 103 ∧ j = k) ∨ (k2 = 104 ∧ 40 * k ≤ j ∧ j < 40 * k + 40) → rs_gi S2 k2 j = rs_gi S k2 j) (h : rv_sht S k) : rv_sht S2 k := by
  unfold rv_sht
  rw [hg (83 + 2 * k) 1 (by omega), hg (83 + 2 * k) 2 (by omega), hg 102 k (by omega), hg 103 k (by omega)]
  rcases h with q | ⟨ln, z, q1, q2, q3, q4, q5, q6, q7⟩
  · exact Or.inl q
  · refine Or.inr ⟨ln, z, q1, q2, q3, q4, q5, q6, fun i hi => ?_⟩
    rw [hg _ _ (by omega), hg _ _ (by omega)]
    exact q7 i hi
theorem rv_cps_l {S : rs_St} {d0 s0 : Nat} (hd : d0 + 51 ≤ 153) (hs : s0 + 51 ≤ 153) (hn : d0 + 51 ≤ s0 ∨ s0 + 51 ≤ d0) (K : rs_St → Int32 → Option rs_St) : ∀ (d i fu : Nat) (S1 : rs_St), i + d = 51 → d < fu → (∀ k j, ¬ (k = 92 ∧ d0 ≤ j ∧ j < d0 + 51) → rs_gi S1 k j = rs_gi S k j) ∧ S1.2 = S.2 ∧ (∀ j, j < i → rs_gi S1 92 (d0 + j) = rs_gi S 92 (s0 + j)) → ∃ S2, xf_X5_copies_l2 (nI d0) (nI s0) K fu S1 (nI i) = K S2 (nI 51) ∧ (∀ k j, ¬ (k = 92 ∧ d0 ≤ j ∧ j < d0 + 51) → rs_gi S2 k j = rs_gi S k j) ∧ S2.2 = S.2 ∧ (∀ j, j < 51 → rs_gi S2 92 (d0 + j) = rs_gi S 92 (s0 + j)) := by
  intro d
  induction d with
  | zero =>
    intro i fu S1 hi hf h
    obtain ⟨f, rfl⟩ : ∃ f, fu = f + 1 := ⟨fu - 1, by omega⟩
    obtain rfl : i = 51 := by omega
    refine ⟨S1, ?_, h⟩
    rw [xf_X5_copies_l2, rv_51, rv_le (by omega) (by omega), if_pos (by omega)]
  | succ d ih =>
    intro i fu S1 hi hf h
    obtain ⟨f, rfl⟩ : ∃ f, fu = f + 1 := ⟨fu - 1, by omega⟩
    rw [xf_X5_copies_l2, rv_51, rv_le (by omega) (by omega), if_neg (by omega), nI_add, nI_add, rv_ckn (by omega) (by omega), rv_ckn (by omega) (by omega), nI_clamp (by omega), nI_clamp (by omega), nI_1]
    simp only [rs_lt]
    refine ih (i + 1) f _ (by omega) (by omega) ⟨fun k j hk => ?_, h.2.1, fun j hj => ?_⟩
    · rw [rv_gsn (by omega)]
      exact h.1 k j hk
    · by_cases q : j = i
      · rw [q, rv_gss]
        exact h.1 _ _ (by omega)
      · rw [rv_gsn (by omega)]
        exact h.2.2 j (by omega)
theorem rv_copies {S : rs_St} {d0 s0 : Nat} (hd : d0 + 51 ≤ 153) (hs : s0 + 51 ≤ 153) (hn : d0 + 51 ≤ s0 ∨ s0 + 51 ≤ d0) : ∃ S2, xf_X5_copies S (nI d0) (nI s0) = some S2 ∧ (∀ k j, ¬ (k = 92 ∧ d0 ≤ j ∧ j < d0 + 51) → rs_gi S2 k j = rs_gi S k j) ∧ S2.2 = S.2 ∧ (∀ j, j < 51 → rs_gi S2 92 (d0 + j) = rs_gi S 92 (s0 + j)) :=
  rv_cps_l hd hs hn (fun S8 _ => some S8) 51 0 rs_fu S (by omega) (by unfold rs_fu; omega) ⟨fun _ _ _ => rfl, rfl, fun j hj => by omega⟩
theorem rv_bool1 : vp_nar .boolean 1 = 1 := rfl
theorem rv_keep : pt_keep rv_Inv := by
  intro S a1 hI
  obtain ⟨⟨a, w, hm, hf⟩, h1, h2, h3, h4, h5, h6⟩ := id hI
  have hc := w.1.1
  unfold xf_X4_keep xf_X5_keep
  rw [rv_out, rv_b1s, rv_o0]
  by_cases hx : (0 : Int32) ≤ a1 ∧ a1 ≤ 1
  · have r0 : ∀ S : rs_St, xf_X5_in S a1.toInt64 0 1 = some 1 := fun S => by
      rw [show xf_X5_in S a1.toInt64 0 1 = _ from rv_in _ a1 0 1]
      exact congrArg some (if_pos hx)
    obtain ⟨i, -, hv, rfl⟩ := rv_ins (lo := 0) (hi := 1) (by omega) hx (by omega)
    obtain ⟨S2, e2, c1, c2, c3, c4⟩ := rv_copy (S := S) (A := 0) (B := 38 + 19 * i) w (by omega) hf
    obtain ⟨i1, i2⟩ := h1 i (by omega)
    rw [if_pos hx, rv_ckn (by omega) (by omega), nI_clamp (by omega), rv_bool1]
    simp (disch := omega) only [rs_jn, rs_lt, rv_ckm, e2, rv_b1s]
    generalize hS1 : rs_si S2 78 i 1 = S1
    have g1 : ∀ k j, k < 38 + 19 * i ∨ 57 + 19 * i ≤ k → ¬ (k = 78 ∧ j = i) → rs_gi S1 k j = rs_gi S k j := fun k j q1 q2 => by
      rw [← hS1, rv_gsn q2]
      exact c2 k j (by omega)
    obtain ⟨S3, e3, d1, d2, d3⟩ := rv_copies (S := rs_si S1 94 i 1) (d0 := 51 * (i + 1)) (s0 := 0) (by omega) (by omega) (by omega)
    have e3' : xf_X5_copies (rs_si S1 94 i 1) (nI (51 * (i + 1))) 0 = some S3 := e3
    have g3 : ∀ k j, k < 38 + 19 * i ∨ 57 + 19 * i ≤ k → ¬ (k = 78 ∧ j = i) → ¬ (k = 94 ∧ j = i) → ¬ (k = 92 ∧ 51 * (i + 1) ≤ j ∧ j < 51 * (i + 1) + 51) → rs_gi S3 k j = rs_gi S k j := fun k j q1 q2 q3 q4 => by
      rw [d1 _ _ q4, rv_gsn q3, g1 _ _ q1 q2]
    have gs : ∀ k j, 38 + 19 * i ≤ k → k < 57 + 19 * i → rs_gi S3 k j = rs_gi S2 k j := fun k j q1 q2 => by
      rw [d1 _ _ (by omega), rv_gsn (by omega), ← hS1, rv_gsn (by omega)]
    have hfin : rv_Inv S3 := by
      refine ⟨⟨a, rv_now_cg (fun k j z => g3 k j (by omega) (by omega) (by omega) (by omega)) ⟨w, hm, hf⟩⟩, fun k hk => ?_, rv_tp_cg (fun k j z => g3 k j (by omega) (by omega) (by omega) (by omega)) h2, ?_, ?_, fun k hk => rv_sht_cg (fun k2 j z => g3 k2 j (by omega) (by omega) (by omega) (by omega)) (h5 k hk), fun sc l q1 q2 => ?_⟩
      · by_cases q : k = i
        · rw [q]
          have e78 : rs_gi S3 78 i = 1 := by rw [d1 _ _ (by omega), rv_gsn (by omega), ← hS1, rv_gss]
          have e94 : rs_gi S3 94 i = 1 := by rw [d1 _ _ (by omega), rv_gss]
          refine ⟨e78.trans e94.symm, Or.inr ⟨e78, a, w, fun j hj => ?_, rv_fsc_cg hc (fun k j q1 q2 => gs k j q1 (by omega)) c1⟩⟩
          rw [d3 j hj, rv_gsn (by omega), g1 _ _ (by omega) (by omega), Nat.zero_add]
          exact hm j hj
        · exact rv_img_cg (fun k2 j z => g3 k2 j (by omega) (by omega) (by omega) (by omega)) (h1 k hk)
      · rw [g3 _ _ (by omega) (by omega) (by omega) (by omega), g3 _ _ (by omega) (by omega) (by omega) (by omega)]
        exact h3
      · rw [g3 _ _ (by omega) (by omega) (by omega) (by omega), g3 _ _ (by omega) (by omega) (by omega) (by omega)]
        exact h4
      · by_cases q : sc = 2 + i
        · rw [gs _ _ (by omega) (by omega), show 19 * sc + 9 + 3 * l = 38 + 19 * i + 1 + 6 + 3 * l + 2 by omega]
          refine c4 (fun l hl => ?_) l q2
          rw [show 38 + 19 * i + 1 + 6 + 3 * l + 2 = 19 * (2 + i) + 9 + 3 * l by omega]
          exact h6 _ _ (by omega) hl
        · rw [g3 _ _ (by omega) (by omega) (by omega) (by omega)]
          exact h6 _ _ q1 q2
    have eR : ∀ r : Int32, xf_X5_flag S1 (rs_gi S 94 i) = some r → (rs_b1 (xf_X5_in S1 (nI i).toInt64 0 1) fun r2 => if r2 = 0 then some (-1, S1) else rs_b1 (xf_X5_flag S1 (rs_gi S1 94 i)) fun r6 => rs_b1 (xf_X5_copies (rs_si S1 94 i 1) (51 * (nI i + 1)) 0) fun S10 => some (r6, S10)) = some (r, S3) := fun r hr => by
      rw [r0, rv_b1s, if_neg (by decide), g1 _ _ (by omega) (by omega), hr, rv_b1s, nI_1, rv_51, pk_mul, e3', rv_b1s]
    by_cases q : rs_gi S 78 i = 0
    · refine ⟨0, S1, S3, if_pos q, eR 0 ?_, hfin⟩
      unfold xf_X5_flag
      rw [if_pos (i1.symm.trans q)]
    · refine ⟨1, S1, S3, if_neg q, eR 1 ?_, hfin⟩
      unfold xf_X5_flag
      rw [if_neg (fun z => q (i1.trans z))]
  · rw [if_neg hx]
    refine ⟨_, _, _, rfl, ?_, hI⟩
    rw [show xf_X5_in S a1.toInt64 0 1 = _ from rv_in _ a1 0 1, rv_b1s, rv_i0, if_neg hx]
theorem rv_back : pt_back rv_Inv := by
  intro S a1 hI
  obtain ⟨-, h1, h2, h3, h4, h5, h6⟩ := id hI
  unfold xf_X4_back xf_X5_back
  rw [rv_out, rv_b1s, rv_o0]
  by_cases hx : (0 : Int32) ≤ a1 ∧ a1 ≤ 1
  · have r0 : ∀ S : rs_St, xf_X5_in S a1.toInt64 0 1 = some 1 := fun S => by
      rw [show xf_X5_in S a1.toInt64 0 1 = _ from rv_in _ a1 0 1]
      exact congrArg some (if_pos hx)
    obtain ⟨i, -, hv, rfl⟩ := rv_ins (lo := 0) (hi := 1) (by omega) hx (by omega)
    rw [if_pos hx, rv_ckn (by omega) (by omega), nI_clamp (by omega)]
    obtain ⟨i1, i2⟩ := h1 i (by omega)
    rcases i2 with i2 | ⟨i2, a, w, i3, i4⟩
    · refine ⟨-2, S, S, if_pos i2, ?_, hI⟩
      rw [r0, rv_b1s, if_neg (by decide), rv_ckm (by omega) (by omega), ← i1, if_pos i2]
    · have hc := w.1.1
      obtain ⟨S2, e2, c1, c2, c3, c4⟩ := rv_copy (S := S) (A := 38 + 19 * i) (B := 0) w (by omega) i4
      obtain ⟨S3, e3, d1, d2, d3⟩ := rv_copies (S := S2) (d0 := 0) (s0 := 51 * (i + 1)) (by omega) (by omega) (by omega)
      have e3' : xf_X5_copies S2 0 (nI (51 * (i + 1))) = some S3 := e3
      have g3 : ∀ k j, 19 ≤ k → ¬ (k = 92 ∧ j < 51) → rs_gi S3 k j = rs_gi S k j := fun k j q1 q2 => by
        rw [d1 _ _ (by omega), c2 _ _ (by omega)]
      have e92 : ∀ j, j < 51 → rs_gi S3 92 j = nI (a j) := fun j hj => by
        have := d3 j hj
        rw [Nat.zero_add] at this
        rw [this, c2 _ _ (by omega)]
        exact i3 j hj
      refine ⟨nI (a 21), S2, S3, ?_, ?_, ?_⟩
      · rw [i2, if_neg (by decide), rv_ckm (by omega) (by omega), e2, rv_b1s, c1.1.2.1]
      · rw [r0, rv_b1s, if_neg (by decide), rv_ckm (by omega) (by omega), c2 _ _ (by omega), ← i1, i2, if_neg (by decide), nI_1, rv_51, pk_mul, e3', rv_b1s, e92 21 (by omega)]
      · refine ⟨⟨a, w, e92, rv_fsc_cg hc (fun k j q1 q2 => d1 _ _ (by omega)) c1⟩, fun k hk => rv_img_cg (fun k2 j z => g3 k2 j (by omega) (by omega)) (h1 k hk), rv_tp_cg (fun k j z => g3 k j (by omega) (by omega)) h2, ?_, ?_, fun k hk => rv_sht_cg (fun k2 j z => g3 k2 j (by omega) (by omega)) (h5 k hk), fun sc l q1 q2 => ?_⟩
        · rw [g3 _ _ (by omega) (by omega), g3 _ _ (by omega) (by omega)]
          exact h3
        · rw [g3 _ _ (by omega) (by omega), g3 _ _ (by omega) (by omega)]
          exact h4
        · by_cases q : sc = 0
          · rw [d1 _ _ (by omega), show 19 * sc + 9 + 3 * l = 0 + 1 + 6 + 3 * l + 2 by omega]
            exact c4 (fun l hl => rv_zn h6 hl) l q2
          · rw [g3 _ _ (by omega) (by omega)]
            exact h6 _ _ q1 q2
  · rw [if_neg hx]
    refine ⟨_, _, _, rfl, ?_, hI⟩
    rw [show xf_X5_in S a1.toInt64 0 1 = _ from rv_in _ a1 0 1, rv_b1s, rv_i0, if_neg hx]
theorem rv_fill_l {S : rs_St} {k n : Nat} {v : Int32} (hk : rs_ln k = n) (hn : n ≤ 200) (K : rs_St → Int32 → Option rs_St) : ∀ (d i fu : Nat) (S1 : rs_St), i + d = n → d < fu → (∀ k2 j, k2 ≠ k → rs_gi S1 k2 j = rs_gi S k2 j) ∧ S1.2 = S.2 ∧ (∀ j, j < i → rs_gi S1 k j = v) → ∃ S2, xf_J7_fill_53178_l5 k v (nI n) K fu S1 (nI i) = K S2 (nI n) ∧ (∀ k2 j, k2 ≠ k → rs_gi S2 k2 j = rs_gi S k2 j) ∧ S2.2 = S.2 ∧ (∀ j, j < n → rs_gi S2 k j = v) := by
  intro d
  induction d with
  | zero =>
    intro i fu S1 hi hf h
    obtain ⟨f, rfl⟩ : ∃ f, fu = f + 1 := ⟨fu - 1, by omega⟩
    obtain rfl : i = n := by omega
    refine ⟨S1, ?_, h⟩
    rw [xf_J7_fill_53178_l5, rv_le (by omega) (by omega), if_pos (by omega)]
  | succ d ih =>
    intro i fu S1 hi hf h
    obtain ⟨f, rfl⟩ : ∃ f, fu = f + 1 := ⟨fu - 1, by omega⟩
    rw [xf_J7_fill_53178_l5, rv_le (by omega) (by omega), if_neg (by omega), hk, rv_ckn (by omega) (by omega), nI_clamp (by omega), nI_1]
    simp only [rs_lt]
    refine ih (i + 1) f _ (by omega) (by omega) ⟨fun k2 j q => ?_, h.2.1, fun j hj => ?_⟩
    · rw [rv_gsn (by omega)]
      exact h.1 k2 j q
    · by_cases q : j = i
      · rw [q, rv_gss]
      · rw [rv_gsn (by omega)]
        exact h.2.2 j (by omega)
theorem rv_fill {S : rs_St} {k n : Nat} {v : Int32} (hk : rs_ln k = n) (hn : n ≤ 200) : ∃ S2, xf_J7_fill_53178 S k v = some S2 ∧ (∀ k2 j, k2 ≠ k → rs_gi S2 k2 j = rs_gi S k2 j) ∧ S2.2 = S.2 ∧ (∀ j, j < n → rs_gi S2 k j = v) := by
  obtain ⟨S2, e, r⟩ := rv_fill_l (S := S) (v := v) hk hn (fun S8 _ => some S8) n 0 rs_fu S (by omega) (by unfold rs_fu; omega) ⟨fun _ _ _ => rfl, rfl, fun j hj => by omega⟩
  refine ⟨S2, ?_, r⟩
  unfold xf_J7_fill_53178
  rw [hk, rv_lts]
  exact e
theorem rv_isSheet (S : rs_St) (x y : Int32) : xf_X5_isSheet S x y = some (if ((0 : Int32) ≤ x ∧ x ≤ 3) ∧ ((0 : Int32) ≤ y ∧ y ≤ 2) then 1 else 0) := by
  unfold xf_X5_isSheet
  rw [show xf_X5_in S x.toInt64 0 3 = _ from rv_in _ x 0 3, rv_b1s, rv_i0, show xf_X5_in S y.toInt64 0 2 = _ from rv_in _ y 0 2, rv_b1s, rv_i0]
  by_cases h1 : (0 : Int32) ≤ x ∧ x ≤ 3
  · rw [if_pos h1]
    by_cases h2 : (0 : Int32) ≤ y ∧ y ≤ 2
    · rw [if_pos h2, if_pos ⟨h1, h2⟩]
    · rw [if_neg h2, if_neg (fun z => h2 z.2)]
  · rw [if_neg h1, if_neg (fun z => h1 z.1)]
theorem rv_sh40 {S : rs_St} {i : Nat} (hi4 : i < 4) (K : rs_St → Int32 → Option (Int32 × rs_St)) : ∀ (d j fu : Nat) (S1 : rs_St), j + d = 40 → d < fu → (∀ k2 j, ¬ (k2 = 104 ∧ 40 * i ≤ j ∧ j < 40 * i + 40) → rs_gi S1 k2 j = rs_gi S k2 j) ∧ S1.2 = S.2 ∧ (∀ m, m < j → rs_gi S1 104 (40 * i + m) = 0) → ∃ S2, xf_X5_sheet_l40 (nI i) K fu S1 (nI j) = K S2 (nI 40) ∧ (∀ k2 j, ¬ (k2 = 104 ∧ 40 * i ≤ j ∧ j < 40 * i + 40) → rs_gi S2 k2 j = rs_gi S k2 j) ∧ S2.2 = S.2 ∧ (∀ m, m < 40 → rs_gi S2 104 (40 * i + m) = 0) := by
  intro d
  induction d with
  | zero =>
    intro j fu S1 hi hf h
    obtain ⟨f, rfl⟩ : ∃ f, fu = f + 1 := ⟨fu - 1, by omega⟩
    obtain rfl : j = 40 := by omega
    refine ⟨S1, ?_, h⟩
    rw [xf_X5_sheet_l40, rv_40, rv_le (by omega) (by omega), if_pos (by omega)]
  | succ d ih =>
    intro j fu S1 hi hf h
    obtain ⟨f, rfl⟩ : ∃ f, fu = f + 1 := ⟨fu - 1, by omega⟩
    rw [xf_X5_sheet_l40, rv_40, rv_le (by omega) (by omega), if_neg (by omega), pk_mul, nI_add, rv_ckn (by omega) (by omega), nI_clamp (by omega), nI_1]
    simp only [rs_lt]
    refine ih (j + 1) f _ (by omega) (by omega) ⟨fun k2 m q => ?_, h.2.1, fun m hm => ?_⟩
    · rw [rv_gsn (by omega)]
      exact h.1 k2 m q
    · by_cases q : m = j
      · rw [q, rv_gss]
      · rw [rv_gsn (by omega)]
        exact h.2.2 m (by omega)
theorem rv_ln40 {i : Nat} (hi : i < 4) : rs_ln (83 + 2 * i + 1) = 40 := by
  rcases (show i = 0 ∨ i = 1 ∨ i = 2 ∨ i = 3 by omega) with rfl | rfl | rfl | rfl <;> rfl
theorem rv_sheet : pt_sheet rv_Inv := by
  intro S a1 a2 a3 hI
  obtain ⟨⟨a, hn⟩, h1, h2, h3, h4, h5, h6⟩ := id hI
  unfold xf_X4_sheet xf_X5_sheet
  rw [rv_out, rv_b1s, rv_o0, rv_out, rv_b1s, rv_o0]
  by_cases hx : (0 : Int32) ≤ a1 ∧ a1 ≤ 3
  · rw [if_pos hx]
    by_cases hy : (0 : Int32) ≤ a2 ∧ a2 ≤ 2
    · rw [if_pos hy]
      have r0 : ∀ S : rs_St, xf_X5_isSheet S a1 a2 = some 1 := fun S => by
        rw [rv_isSheet]
        exact congrArg some (if_pos ⟨hx, hy⟩)
      by_cases hz1 : a3 ≤ 40
      · rw [if_pos hz1]
        by_cases hz0 : (0 : Int32) ≤ a3
        · rw [if_pos hz0]
          have b1 : ∀ {α : Type} {x y : α}, (if a3 ≤ 40 then x else y) = x := if_pos hz1
          have b2 : ∀ {α : Type} {x y : α}, (if (0 : Int32) ≤ a3 then x else y) = x := if_pos hz0
          obtain ⟨i, -, hi, rfl⟩ := rv_ins (lo := 0) (hi := 3) (by omega) hx (by omega)
          obtain ⟨ln, -, hln, rfl⟩ := rv_ins (lo := 0) (hi := 2) (by omega) hy (by omega)
          obtain ⟨z, -, hz, rfl⟩ := rv_ins (lo := 0) (hi := 40) (by omega) ⟨hz0, hz1⟩ (by omega)
          obtain ⟨S2, e2, f1, f2, f3⟩ := rv_fill (S := S) (v := 0) (rv_ln40 (show i < 4 by omega)) (by omega)
          rw [rv_ckn (by omega) (by omega), nI_clamp (by omega)]
          unfold xf_X2_renew
          rw [e2, rv_b1s]
          simp only [rs_lt, rv_b1s]
          obtain ⟨S4, e4, g1, g2, g3⟩ := rv_sh40 (S := rs_si (rs_si (rs_si (rs_si S2 (83 + 2 * i) 1 (nI ln)) (83 + 2 * i) 2 (nI z)) 102 i (nI ln)) 103 i (nI z)) (show i < 4 by omega) (fun (S16 : rs_St) (x17 : Int32) => some ((1 : Int32), S16)) 40 0 rs_fu _ (by omega) (by unfold rs_fu; omega) ⟨fun _ _ _ => rfl, rfl, fun m hm => by omega⟩
          have hg : ∀ k j, ¬ (83 + 2 * i ≤ k ∧ k ≤ 84 + 2 * i) → ¬ (k = 102 ∧ j = i) → ¬ (k = 103 ∧ j = i) → ¬ (k = 104 ∧ 40 * i ≤ j ∧ j < 40 * i + 40) → rs_gi S4 k j = rs_gi S k j := fun k j q1 q2 q3 q4 => by
            rw [g1 _ _ q4, rv_gsn q3, rv_gsn q2, rv_gsn (by omega), rv_gsn (by omega), f1 _ _ (by omega)]
          refine ⟨_, _, S4, rfl, ?_, ?_⟩
          · rw [r0, rv_b1s, if_neg (by decide), b1, b2, rv_ckm (by omega) (by omega), rv_ckm (by omega) (by omega)]
            exact e4
          · refine ⟨⟨a, rv_now_cg (fun k j z => hg k j (by omega) (by omega) (by omega) (by omega)) hn⟩, fun k hk => rv_img_cg (fun k2 j z => hg k2 j (by omega) (by omega) (by omega) (by omega)) (h1 k hk), rv_tp_cg (fun k j z => hg k j (by omega) (by omega) (by omega) (by omega)) h2, ?_, ?_, fun k hk => ?_, fun sc l q1 q2 => ?_⟩
            · rw [hg _ _ (by omega) (by omega) (by omega) (by omega), hg _ _ (by omega) (by omega) (by omega) (by omega)]
              exact h3
            · rw [hg _ _ (by omega) (by omega) (by omega) (by omega), hg _ _ (by omega) (by omega) (by omega) (by omega)]
              exact h4
            · by_cases q : k = i
              · rw [q]
                refine Or.inr ⟨ln, z, hln, hz, ?_, ?_, ?_, ?_, fun m hm => ?_⟩
                · rw [g1 _ _ (by omega), rv_gsn (by omega), rv_gsn (by omega), rv_gsn (by omega), rv_gss]
                · rw [g1 _ _ (by omega), rv_gsn (by omega), rv_gss]
                · rw [g1 _ _ (by omega), rv_gsn (by omega), rv_gsn (by omega), rv_gss]
                · rw [g1 _ _ (by omega), rv_gss]
                · rw [g1 _ _ (by omega), rv_gsn (by omega), rv_gsn (by omega), rv_gsn (by omega), rv_gsn (by omega), f3 m hm, g3 m hm]
              · exact rv_sht_cg (fun k2 j z => hg k2 j (by omega) (by omega) (by omega) (by omega)) (h5 k hk)
            · rw [hg _ _ (by omega) (by omega) (by omega) (by omega)]
              exact h6 _ _ q1 q2
        · rw [if_neg hz0]
          refine ⟨_, _, _, rfl, ?_, hI⟩
          rw [r0, rv_b1s, if_neg (by decide), if_pos hz1, if_neg hz0]
      · rw [if_neg hz1]
        refine ⟨_, _, _, rfl, ?_, hI⟩
        rw [r0, rv_b1s, if_neg (by decide), if_neg hz1]
    · rw [if_neg hy]
      refine ⟨_, _, _, rfl, ?_, hI⟩
      rw [rv_isSheet, if_neg (fun z => hy z.2), rv_b1s, if_pos rfl]
  · rw [if_neg hx]
    refine ⟨_, _, _, rfl, ?_, hI⟩
    rw [rv_isSheet, if_neg (fun z => hx z.1), rv_b1s, if_pos rfl]
