/-! read, the rest -/
theorem rv_eq0 {α : Sort _} {a : Nat} {x y : α} (ha : a < 2 ^ 31) : (if nI a = 0 then x else y) = if a = 0 then x else y := rv_eq (b := 0) ha (by omega)
theorem rv_alt3 {S : rs_St} {c : Nat} (h : rs_gi S 92 16 = nI c) (hc : c ≤ 4) (x y : Int32) : (∀ l v, l < c → v ≤ 11 → x = nI l → y = nI v → xf_X5_alter S x 3 y = some (rs_gi S 92 (4 * l + 3), rs_si S 92 (4 * l + 3) (nI v))) ∧ (¬ (∃ l v, l < c ∧ v ≤ 11 ∧ x = nI l ∧ y = nI v) → xf_X5_alter S x 3 y = some (-1, S)) := by
  have l3 : xf_X5_lowOf S 3 = some (nI 0) := rv_lowOf S (p := 3) (by omega)
  have m3 : xf_X5_mostOf S 3 = some (nI 11) := rv_mostOf S (p := 3) (by omega)
  have i3 : xf_X5_in S (3 : Int32).toInt64 0 3 = some 1 := rv_in S 3 0 3
  unfold xf_X5_alter
  rw [i3, rv_b1s, if_neg (show ¬ (1 : Int32) = 0 by decide), l3, rv_b1s, m3, rv_b1s, rv_in, rv_b1s, rv_i0]
  refine ⟨fun l v hl hv ex ey => ?_, fun hn => ?_⟩
  · subst ex ey
    rw [rv_isLamp h hc hl, rv_b1s, if_neg (by decide), if_pos (show nI 0 ≤ nI v ∧ nI v ≤ nI 11 from ⟨(nI_leI (by omega) (by omega)).mpr (by omega), (nI_leI (by omega) (by omega)).mpr hv⟩), rv_4, pk_mul, rv_a3, rv_becomes (by omega), rv_b2s]
  · rcases rv_lampd x c hc with ⟨l, hl, ex⟩ | hx
    · rw [ex, rv_isLamp h hc hl, rv_b1s, if_neg (by decide), if_neg]
      intro q
      obtain ⟨v, -, hv, ey⟩ := rv_ins (lo := 0) (hi := 11) (by omega) q (by omega)
      exact hn ⟨l, v, hl, hv, ex, ey⟩
    · rw [rv_isLamp0 h hc hx, rv_b1s, if_pos rfl]
theorem rv_209 (S : rs_St) (K : rs_St → Int32 → Option (Int32 × rs_St)) : ∀ (d i fu : Nat) (S2 : rs_St), i + d = 51 → d < fu → ((∀ k j, ¬ (k = 92 ∧ j < 51) → rs_gi S2 k j = rs_gi S k j) ∧ S2.2 = S.2 ∧ ∀ j, j < i → rs_gi S2 92 j = rs_gi S 105 j) → ∃ S3, xf_X5_read_l209 K fu S2 (nI i) = K S3 (nI 51) ∧ (∀ k j, ¬ (k = 92 ∧ j < 51) → rs_gi S3 k j = rs_gi S k j) ∧ S3.2 = S.2 ∧ ∀ j, j < 51 → rs_gi S3 92 j = rs_gi S 105 j := by
  intro d
  induction d with
  | zero =>
    intro i fu S2 hi hf h
    obtain ⟨f, rfl⟩ : ∃ f, fu = f + 1 := ⟨fu - 1, by omega⟩
    obtain rfl : i = 51 := by omega
    refine ⟨S2, ?_, h⟩
    rw [xf_X5_read_l209, rv_51, rv_le (by omega) (by omega), if_pos (by omega)]
  | succ d ih =>
    intro i fu S2 hi hf h
    obtain ⟨f, rfl⟩ : ∃ f, fu = f + 1 := ⟨fu - 1, by omega⟩
    rw [xf_X5_read_l209, rv_51, rv_le (by omega) (by omega), if_neg (by omega), rv_ckn (by omega) (by omega), rv_ckn (by omega) (by omega), nI_clamp (by omega), nI_1]
    simp only [rs_lt]
    refine ih (i + 1) f _ (by omega) (by omega) ⟨fun k j hk => ?_, h.2.1, fun j hj => ?_⟩
    · rw [rv_gsn (by omega)]
      exact h.1 k j hk
    · by_cases q : j = i
      · rw [q, rv_gss]
        exact h.1 105 i (by omega)
      · rw [rv_gsn (by omega)]
        exact h.2.2 j (by omega)
theorem rv_26 (S : rs_St) (K : rs_St → Int32 → Option (Int32 × rs_St)) : ∀ (d i fu : Nat) (S2 : rs_St), i + d = 51 → d < fu → ((∀ k j, ¬ (k = 105 ∧ j < 51) → rs_gi S2 k j = rs_gi S k j) ∧ S2.2 = S.2 ∧ ∀ j, j < i → rs_gi S2 105 j = rs_gi S 92 j) → ∃ S3, xf_X5_read_l26 K fu S2 (nI i) = K S3 (nI 51) ∧ (∀ k j, ¬ (k = 105 ∧ j < 51) → rs_gi S3 k j = rs_gi S k j) ∧ S3.2 = S.2 ∧ ∀ j, j < 51 → rs_gi S3 105 j = rs_gi S 92 j := by
  intro d
  induction d with
  | zero =>
    intro i fu S2 hi hf h
    obtain ⟨f, rfl⟩ : ∃ f, fu = f + 1 := ⟨fu - 1, by omega⟩
    obtain rfl : i = 51 := by omega
    refine ⟨S2, ?_, h⟩
    rw [xf_X5_read_l26, rv_51, rv_le (by omega) (by omega), if_pos (by omega)]
  | succ d ih =>
    intro i fu S2 hi hf h
    obtain ⟨f, rfl⟩ : ∃ f, fu = f + 1 := ⟨fu - 1, by omega⟩
    rw [xf_X5_read_l26, rv_51, rv_le (by omega) (by omega), if_neg (by omega), rv_ckn (by omega) (by omega), rv_ckn (by omega) (by omega), nI_clamp (by omega), nI_1]
    simp only [rs_lt]
    refine ih (i + 1) f _ (by omega) (by omega) ⟨fun k j hk => ?_, h.2.1, fun j hj => ?_⟩
    · rw [rv_gsn (by omega)]
      exact h.1 k j hk
    · by_cases q : j = i
      · rw [q, rv_gss]
        exact h.1 92 i (by omega)
      · rw [rv_gsn (by omega)]
        exact h.2.2 j (by omega)
/-- the reference's look at the pairs -/
theorem rv_rdr {S0 : rs_St} {g : Nat → Int32} {a : Nat → Nat} {i ln u z n q : Nat} {a3 : Int32} (hi : i < 4) (hlr : rv_lnr S0 i ln u z) (hl : ln ≤ 2) (hn : n ≤ 20) (hq : q ≤ n) (hc : a 16 ≤ 4) (w : rv_wf a) (hg : u ≠ 0 → u ≠ 1 → ∀ x, x < 40 → rs_gi S0 104 (40 * i + x) = g x) (hb : ∀ j, j < 51 → rs_gi S0 105 j = nI (a j)) (hj : ∀ j, j < q → rv_fc u z a3.toInt j = 0 ∧ rv_val g (a 16) a3.toInt j) (K : rs_St → Int32 → Int32 → Int32 → Option (Int32 × rs_St)) : ∀ (d m fu : Nat) (S1 : rs_St), m + d = q → d + 1 < fu → (∀ k j, ¬ (k = 92 ∧ j < 51) → rs_gi S1 k j = rs_gi S0 k j) ∧ S1.2 = S0.2 ∧ (∀ j, j < 51 → rs_gi S1 92 j = nI (rv_rd g a3.toInt a m j)) → ∃ S2, (∀ k j, ¬ (k = 92 ∧ j < 51) → rs_gi S2 k j = rs_gi S0 k j) ∧ S2.2 = S0.2 ∧ ((q < n → rv_fc u z a3.toInt q = 0 → ¬ rv_val g (a 16) a3.toInt q → xf_X5_read_l62 (nI i) (nI ln) a3 (nI n) K fu S1 0 (nI m) (nI m) = some (-20 - nI q, S2) ∧ ∀ j, j < 51 → rs_gi S2 92 j = nI (a j)) ∧ ∀ e, ((q = n ∧ e = 0) ∨ (q < n ∧ rv_fc u z a3.toInt q = e ∧ e ≠ 0)) → ∃ x, xf_X5_read_l62 (nI i) (nI ln) a3 (nI n) K fu S1 0 (nI m) (nI m) = K S2 (nI e) (nI q) x ∧ ∀ j, j < 51 → rs_gi S2 92 j = nI (rv_rd g a3.toInt a q j)) := by
  have step : ∀ (m f : Nat) (S1 : rs_St), m < n → (∀ k j, ¬ (k = 92 ∧ j < 51) → rs_gi S1 k j = rs_gi S0 k j) → ∃ x39, xf_X5_read_l62 (nI i) (nI ln) a3 (nI n) K (f + 1) S1 0 (nI m) (nI m) = rs_jn (fun (S40 : rs_St) (x41 : Int32) (x42 : Int32) => xf_X5_read_l62 (nI i) (nI ln) a3 (nI n) K f S40 (nI (rv_fc u z a3.toInt m)) x41 (nI (m + 1))) (fun J43 => if nI (rv_fc u z a3.toInt m) = 0 then rs_lt (((40 * nI i) + a3) + nI (2 * m)) (fun x46 => if x46 < 0 ∨ 160 ≤ x46.toNatClampNeg then none else if (x46 + 1) < 0 ∨ 160 ≤ (x46 + 1).toNatClampNeg then none else rs_b2 (xf_X5_alter S1 (rs_gi S1 104 x46.toNatClampNeg) 3 (rs_gi S1 104 (x46 + 1).toNatClampNeg)) (fun r51 S50 => if 0 ≤ r51 then J43 S50 (nI (m + 1)) x46 else xf_X5_read_l209 (fun (S61 : rs_St) (x62 : Int32) => some (((-20) - nI m), S61)) rs_fu S50 0)) else J43 S1 (nI m) x39) := by
    intro m f S1 hm hfr
    have hlr1 : rv_lnr S1 i ln u z := by
      unfold rv_lnr
      rw [hfr 102 i (by omega), hfr 103 i (by omega)]
      exact hlr
    obtain ⟨x, ex⟩ := rv_77 hi hlr1 hl a3 (m := m) (by omega) (fun (x38 : Int32) (x39 : Int32) => rs_jn (fun (S40 : rs_St) (x41 : Int32) (x42 : Int32) => rs_lt (nI m + 1) (fun x44 => xf_X5_read_l62 (nI i) (nI ln) a3 (nI n) K f S40 x38 x41 x44)) (fun J43 => if x38 = 0 then rs_lt (((40 * nI i) + a3) + (2 * nI m)) (fun x46 => if x46 < 0 ∨ 160 ≤ x46.toNatClampNeg then none else if (x46 + 1) < 0 ∨ 160 ≤ (x46 + 1).toNatClampNeg then none else rs_b2 (xf_X5_alter S1 (rs_gi S1 104 x46.toNatClampNeg) 3 (rs_gi S1 104 (x46 + 1).toNatClampNeg)) (fun r51 S50 => if 0 ≤ r51 then rs_lt (nI m + 1) (fun x53 => J43 S50 x53 x46) else xf_X5_read_l209 (fun (S61 : rs_St) (x62 : Int32) => some (((-20) - nI m), S61)) rs_fu S50 0)) else J43 S1 (nI m) x39))
    refine ⟨x, ?_⟩
    rw [xf_X5_read_l62, rv_le (by omega) (by omega), if_neg (by omega), if_pos rfl]
    refine ex.trans ?_
    rw [rv_2, pk_mul, nI_1]
    rfl
  intro d
  induction d with
  | zero =>
    intro m fu S1 hm hf h
    obtain ⟨f, rfl⟩ : ∃ f, fu = f + 2 := ⟨fu - 2, by omega⟩
    obtain rfl : m = q := by omega
    by_cases hmn : m = n
    · subst hmn
      refine ⟨S1, h.1, h.2.1, fun z => by omega, fun e he => ⟨nI m, ?_, h.2.2⟩⟩
      obtain rfl : e = 0 := by omega
      rw [xf_X5_read_l62, rv_le (by omega) (by omega), if_pos (by omega)]
      rfl
    · obtain ⟨x39, e39⟩ := step m (f + 1) S1 (by omega) h.1
      have hfc := rv_fc_le u z a3.toInt m
      simp only [rs_jn, rs_lt] at e39
      rw [rv_eq0 (by omega)] at e39
      by_cases qz : rv_fc u z a3.toInt m = 0
      · obtain ⟨u0, u1, hY, eY⟩ := rv_fc0 hlr.1 (by omega) qz
        have hz := hlr.1
        by_cases qv : rv_val g (a 16) a3.toInt m
        · exact ⟨S1, h.1, h.2.1, fun _ _ z => absurd qv z, fun e he => by omega⟩
        · have ha := (rv_alt3 (S := S1) (c := a 16) (by rw [h.2.2 16 (by omega), rv_rd_n hc (fun j hj2 => (hj j hj2).2) 16 (by omega)]) hc (g (rv_Y a3.toInt m)) (g (rv_Y a3.toInt m + 1))).2 qv
          obtain ⟨S3, e3, k1, k2, k3⟩ := rv_209 S1 (fun (S61 : rs_St) (x62 : Int32) => some (((-20) - nI m), S61)) 51 0 rs_fu S1 (by omega) (by unfold rs_fu; omega) ⟨fun _ _ _ => rfl, rfl, fun j hj => by omega⟩
          refine ⟨S3, fun k j hk => (k1 k j hk).trans (h.1 k j hk), k2.trans h.2.1, fun _ _ _ => ⟨?_, fun j hj => ?_⟩, fun e he => by omega⟩
          · refine e39.trans ?_
            rw [if_pos qz, rv_40, pk_mul, Int32.add_assoc, eY, nI_add, rv_ckn (by omega) (by omega), nI_1, rv_ckn (by omega) (by omega), nI_clamp (by omega), nI_clamp (by omega), h.1 _ _ (by omega), h.1 _ _ (by omega), hg u0 u1 _ (by omega), Nat.add_assoc, hg u0 u1 _ (by omega), ha, rv_b2s, if_neg (by decide)]
            exact e3
          · rw [k3 j hj, h.1 _ _ (by omega)]
            exact hb j hj
      · refine ⟨S1, h.1, h.2.1, fun _ z _ => absurd z qz, fun e he => ⟨nI (m + 1), ?_, h.2.2⟩⟩
        obtain rfl : rv_fc u z a3.toInt m = e := by omega
        refine e39.trans ?_
        rw [if_neg qz, xf_X5_read_l62, rv_le (by omega) (by omega)]
        by_cases p : n ≤ m + 1
        · rw [if_pos p]
        · rw [if_neg p, show (0 : Int32) = nI 0 from rfl, rv_eq (by omega) (by omega), if_neg qz]
  | succ d ih =>
    intro m fu S1 hm hf h
    obtain ⟨f, rfl⟩ : ∃ f, fu = f + 1 := ⟨fu - 1, by omega⟩
    obtain ⟨x39, e39⟩ := step m f S1 (by omega) h.1
    obtain ⟨qz, l, v, hl2, hv, g1, g2⟩ := hj m (by omega)
    obtain ⟨u0, u1, hY, eY⟩ := rv_fc0 hlr.1 (by omega) qz
    have hz := hlr.1
    have hjm : ∀ j, j < m → rv_val g (a 16) a3.toInt j := fun j hj2 => (hj j (by omega)).2
    have ha := (rv_alt3 (S := S1) (c := a 16) (by rw [h.2.2 16 (by omega), rv_rd_n hc hjm 16 (by omega)]) hc (g (rv_Y a3.toInt m)) (g (rv_Y a3.toInt m + 1))).1 l v hl2 hv g1 g2
    have hph : rv_rd g a3.toInt a m (4 * l + 3) ≤ 11 := ((rv_rd_wf hc w hjm).2.1 l (by rw [rv_rd_n hc hjm 16 (by omega)]; exact hl2)).2.2.2.2.2
    simp only [rs_jn, rs_lt] at e39
    rw [if_pos (by rw [qz]; rfl), rv_40, pk_mul, Int32.add_assoc, eY, nI_add, rv_ckn (by omega) (by omega), nI_1, rv_ckn (by omega) (by omega), nI_clamp (by omega), nI_clamp (by omega), h.1 _ _ (by omega), h.1 _ _ (by omega), hg u0 u1 _ (by omega), Nat.add_assoc, hg u0 u1 _ (by omega), ha, rv_b2s, h.2.2 _ (by omega), if_pos (show (0 : Int32) ≤ nI (rv_rd g a3.toInt a m (4 * l + 3)) from (nI_leI (a := 0) (by omega) (by omega)).mpr (by omega)), qz] at e39
    rw [e39]
    refine ih (m + 1) f _ (by omega) (by omega) ⟨fun k j hk => ?_, h.2.1, fun j hj2 => ?_⟩
    · rw [rv_gsn (by omega)]
      exact h.1 k j hk
    · rw [rv_rd, g1, g2, nI_clamp (by omega), nI_clamp (by omega), rv_gs, rv_upe]
      by_cases p : j = 4 * l + 3
      · rw [if_pos p, if_pos ⟨rfl, p⟩]
      · rw [if_neg p, if_neg (fun z => p z.2)]
        exact h.2.2 j hj2
/-- the class takes the phases -/
theorem rv_tk {S : rs_St} {a : Nat → Nat} {i u z q : Nat} {a3 : Int32} (hi : i < 4) (hz : z ≤ 40) (hq : q ≤ 20) (hc : a 16 ≤ 4) (w : rv_wf a) (hj : ∀ j, j < q → rv_fc u z a3.toInt j = 0 ∧ rv_val (rs_gi S (83 + 2 * i + 1)) (a 16) a3.toInt j) : ∀ (d m fu : Nat) (S1 : rs_St), m + d = q → d < fu → (∀ k j, ¬ (8 ≤ k ∧ k < 19) → rs_gi S1 k j = rs_gi S k j) ∧ S1.2 = S.2 ∧ rv_sc S1 0 (rv_rd (rs_gi S (83 + 2 * i + 1)) a3.toInt a m) rv_uu ∧ (∀ l, l < 4 → rs_gi S1 (0 + 1 + 6 + 3 * l + 2) 0 = rs_gi S (0 + 1 + 6 + 3 * l + 2) 0) → ∃ S2, xf_X4_takePhases_l3 (83 + 2 * i) a3 (nI q) (fun S11 _ => some S11) fu S1 (nI m) = some S2 ∧ (∀ k j, ¬ (8 ≤ k ∧ k < 19) → rs_gi S2 k j = rs_gi S k j) ∧ S2.2 = S.2 ∧ rv_sc S2 0 (rv_rd (rs_gi S (83 + 2 * i + 1)) a3.toInt a q) rv_uu ∧ (∀ l, l < 4 → rs_gi S2 (0 + 1 + 6 + 3 * l + 2) 0 = rs_gi S (0 + 1 + 6 + 3 * l + 2) 0) := by
  intro d
  induction d with
  | zero =>
    intro m fu S1 hm hf h
    obtain ⟨f, rfl⟩ : ∃ f, fu = f + 1 := ⟨fu - 1, by omega⟩
    obtain rfl : m = q := by omega
    refine ⟨S1, ?_, h⟩
    rw [xf_X4_takePhases_l3, rv_le (by omega) (by omega), if_pos (by omega)]
  | succ d ih =>
    intro m fu S1 hm hf h
    obtain ⟨f, rfl⟩ : ∃ f, fu = f + 1 := ⟨fu - 1, by omega⟩
    obtain ⟨qz, l, v, hl2, hv, g1, g2⟩ := hj m (by omega)
    obtain ⟨u0, u1, hY, eY⟩ := rv_fc0 hz (by omega) qz
    have hjm : ∀ j, j < m → rv_val (rs_gi S (83 + 2 * i + 1)) (a 16) a3.toInt j := fun j hj2 => (hj j (by omega)).2
    have e16 := rv_rd_n (g := rs_gi S (83 + 2 * i + 1)) (t := a3.toInt) (a := a) hc hjm 16 (by omega)
    obtain ⟨S2, e2, s2, b2⟩ := rv_scb (l := l) (p := 3) (v := v) h.2.2.1 (by rw [e16]; exact hl2) (rv_rd_wf hc w hjm) (by omega) (Nat.zero_le _) hv rfl
    have e2' : xf_X0_become S1 (0 + 1 + 6 + 3 * l) 3 (nI v) = some S2 := e2
    rw [xf_X4_takePhases_l3, rv_le (by omega) (by omega), if_neg (by omega), rv_2, pk_mul, rv_lts, eY, rv_ckn (by omega) (by omega), nI_clamp (by omega), h.1 _ _ (by omega), g1, rv_ckn (by omega) (by omega), nI_1, rv_ckn (by omega) (by omega), nI_clamp (by omega), nI_clamp (by omega), h.1 _ _ (by omega), g2, e2', rv_b1s, rv_lts, nI_1]
    refine ih (m + 1) f S2 (by omega) (by omega) ⟨fun k j hk => ?_, b2.2.1.trans h.2.1, ?_, fun l2 hl3 => ?_⟩
    · rw [b2.1 _ _ (by omega) (by omega)]
      exact h.1 k j hk
    · rw [rv_rd, g1, g2, nI_clamp (by omega), nI_clamp (by omega)]
      exact s2
    · by_cases p : l2 = l
      · rw [p, b2.2.2.2.1]
        exact h.2.2.2 l (by omega)
      · rw [b2.1 _ _ (by omega) (by omega)]
        exact h.2.2.2 l2 hl3
theorem rv_read : pt_read rv_Inv := by
  intro S a1 a2 a3 a4 hI
  obtain ⟨⟨a, w, hm, hf⟩, h1, h2, h3, h4, h5, h6⟩ := id hI
  have hc := w.1.1
  unfold xf_X4_read xf_X5_read
  rw [rv_out, rv_b1s, rv_o0, rv_out, rv_b1s, rv_o0, rv_out, rv_b1s, rv_o0]
  by_cases hx : (0 : Int32) ≤ a1 ∧ a1 ≤ 3
  · rw [if_pos hx]
    by_cases hy : (0 : Int32) ≤ a2 ∧ a2 ≤ 2
    · rw [if_pos hy]
      have r0 : ∀ S : rs_St, xf_X5_isSheet S a1 a2 = some 1 := fun S => by
        rw [rv_isSheet]
        exact congrArg some (if_pos ⟨hx, hy⟩)
      by_cases hw : (0 : Int32) ≤ a4 ∧ a4 ≤ 20
      · rw [if_pos hw]
        have r1 : ∀ S : rs_St, xf_X5_in S a4.toInt64 0 20 = some 1 := fun S => by
          rw [show xf_X5_in S a4.toInt64 0 20 = _ from rv_in _ a4 0 20]
          exact congrArg some (if_pos hw)
        obtain ⟨i, -, hi, rfl⟩ := rv_ins (lo := 0) (hi := 3) (by omega) hx (by omega)
        obtain ⟨ln, -, hln, rfl⟩ := rv_ins (lo := 0) (hi := 2) (by omega) hy (by omega)
        obtain ⟨n, -, hn, rfl⟩ := rv_ins (lo := 0) (hi := 20) (by omega) hw (by omega)
        obtain ⟨u, z, lc, lr, lg⟩ := rv_lnd hln (h5 i (by omega))
        have hz := lc.1
        have hu : u ≤ 2 := by rcases lc.2 with q | q | q <;> omega
        rw [rv_ckn (by omega) (by omega), nI_clamp (by omega)]
        obtain ⟨q, hq, hj, hfin⟩ := rv_rdc (a3 := a3) (n := n) (by omega) lc hln hn hf.1.1 hc (fun (x27 : Int32) (x28 : Int32) (x29 : Int32) => rs_lt (rs_si S 76 7 x27) (fun S30 => rs_b1 (xf_X4_takePhases S30 (83 + 2 * i) a3 x28) (fun S32 => some (x28, S32)))) n 0 rs_fu (by omega) (by unfold rs_fu; omega) (fun j hj => by omega)
        have ref : ∀ (S1 : rs_St), (∀ k j, 19 ≤ k → ¬ (k = 76 ∧ j = 7) → rs_gi S1 k j = rs_gi S k j) → ∃ S2, (∀ k j, ¬ (k = 92 ∧ j < 51) → k ≠ 105 → rs_gi S2 k j = rs_gi S1 k j) ∧ ((q < n → rv_fc u z a3.toInt q = 0 → ¬ rv_val (rs_gi S (83 + 2 * i + 1)) (a 16) a3.toInt q → (rs_b1 (xf_X5_isSheet S1 (nI i) (nI ln)) (fun r2 => if r2 = 0 then some ((-1), S1) else rs_b1 (xf_X5_in S1 ((nI n).toInt64) 0 20) (fun r5 => if r5 = 0 then some ((-1), S1) else xf_X5_read_l26 (fun (S14 : rs_St) (x15 : Int32) => xf_X5_read_l62 (nI i) (nI ln) a3 (nI n) (fun (S63 : rs_St) (x64 : Int32) (x65 : Int32) (x66 : Int32) => rs_lt (rs_si S63 91 32 x64) (fun S67 => some (x65, S67))) rs_fu S14 0 0 0) rs_fu S1 0))) = some (-20 - nI q, S2) ∧ ∀ j, j < 51 → rs_gi S2 92 j = nI (a j)) ∧ ∀ e, ((q = n ∧ e = 0) ∨ (q < n ∧ rv_fc u z a3.toInt q = e ∧ e ≠ 0)) → (rs_b1 (xf_X5_isSheet S1 (nI i) (nI ln)) (fun r2 => if r2 = 0 then some ((-1), S1) else rs_b1 (xf_X5_in S1 ((nI n).toInt64) 0 20) (fun r5 => if r5 = 0 then some ((-1), S1) else xf_X5_read_l26 (fun (S14 : rs_St) (x15 : Int32) => xf_X5_read_l62 (nI i) (nI ln) a3 (nI n) (fun (S63 : rs_St) (x64 : Int32) (x65 : Int32) (x66 : Int32) => rs_lt (rs_si S63 91 32 x64) (fun S67 => some (x65, S67))) rs_fu S14 0 0 0) rs_fu S1 0))) = some (nI q, rs_si S2 91 32 (nI e)) ∧ ∀ j, j < 51 → rs_gi S2 92 j = nI (rv_rd (rs_gi S (83 + 2 * i + 1)) a3.toInt a q j)) := by
          intro S1 hS1
          obtain ⟨S3, e3, k1, k2, k3⟩ := rv_26 S1 (fun (S14 : rs_St) (x15 : Int32) => xf_X5_read_l62 (nI i) (nI ln) a3 (nI n) (fun (S63 : rs_St) (x64 : Int32) (x65 : Int32) (x66 : Int32) => rs_lt (rs_si S63 91 32 x64) (fun S67 => some (x65, S67))) rs_fu S14 0 0 0) 51 0 rs_fu S1 (by omega) (by unfold rs_fu; omega) ⟨fun _ _ _ => rfl, rfl, fun j hj => by omega⟩
          have f3 : ∀ k j, 19 ≤ k → k ≠ 105 → ¬ (k = 76 ∧ j = 7) → rs_gi S3 k j = rs_gi S k j := fun k j p1 p2 p3 => (k1 k j (by omega)).trans (hS1 k j p1 p3)
          have lr3 : rv_lnr S3 i ln u z := by
            unfold rv_lnr
            rw [f3 102 i (by omega) (by omega) (by omega), f3 103 i (by omega) (by omega) (by omega)]
            exact lr
          obtain ⟨S2, g1, g2, g3, g4⟩ := rv_rdr (S0 := S3) (g := rs_gi S (83 + 2 * i + 1)) (a := a) (a3 := a3) (by omega) lr3 hln hn hq hc w.1 (fun u0 u1 x hx => by
            rw [f3 _ _ (by omega) (by omega) (by omega)]
            exact (lg (by omega) x hx).symm) (fun j hj => by rw [k3 j hj, hS1 _ _ (by omega) (by omega)]; exact hm j hj) hj (fun (S63 : rs_St) (x64 : Int32) (x65 : Int32) (x66 : Int32) => rs_lt (rs_si S63 91 32 x64) (fun S67 => some (x65, S67))) q 0 rs_fu S3 (by omega) (by unfold rs_fu; omega) ⟨fun _ _ _ => rfl, rfl, fun j hj => by rw [f3 _ _ (by omega) (by omega) (by omega)]; exact hm j hj⟩
          refine ⟨S2, fun k j p1 p2 => (g1 k j p1).trans (k1 k j (by omega)), fun p1 p2 p3 => ?_, fun e he => ?_⟩
          · obtain ⟨o1, o2⟩ := g3 p1 p2 p3
            refine ⟨?_, o2⟩
            rw [r0, rv_b1s, if_neg (by decide), r1, rv_b1s, if_neg (by decide)]
            exact e3.trans o1
          · obtain ⟨x, o1, o2⟩ := g4 e he
            refine ⟨?_, o2⟩
            rw [r0, rv_b1s, if_neg (by decide), r1, rv_b1s, if_neg (by decide)]
            exact e3.trans o1
        rcases hfin with ⟨p1, p2, p3, p4⟩ | ⟨e, x, p1, p2⟩
        · obtain ⟨S2, g1, g2, -⟩ := ref S (fun _ _ _ _ => rfl)
          obtain ⟨o1, o2⟩ := g2 p1 p2 p3
          refine ⟨_, S, S2, p4, o1, rv_Inv_cg (fun k j z => ?_) hI⟩
          by_cases b : k = 92 ∧ j < 51
          · rw [b.1, o2 j b.2]
            exact (hm j b.2).symm
          · exact g1 k j b (by unfold rv_rel at z; omega)
        · have he3 : e ≤ 3 := by
            have := rv_fc_le u z a3.toInt q
            omega
          have eg : rs_gi (rs_si S 76 7 (nI e)) (83 + 2 * i + 1) = rs_gi S (83 + 2 * i + 1) := funext fun j => rv_gsn (by omega)
          have sc0 : rv_sc (rs_si S 76 7 (nI e)) 0 a rv_uu := by
            obtain ⟨c1, c2, c3, c4⟩ := id hf.1
            exact ⟨by rw [rv_gsn (by omega)]; exact c1, by rw [rv_gsn (by omega)]; exact c2, fun j hj => by rw [rv_gsn (by omega)]; exact c3 j hj, fun l hl => rv_lm_cg (fun k2 j z => rv_gsn (by omega)) (fun _ _ => rfl) rfl (c4 l hl)⟩
          obtain ⟨S4, e4, t1, t2, t3, t4⟩ := rv_tk (S := rs_si S 76 7 (nI e)) (a := a) (i := i) (u := u) (z := z) (q := q) (a3 := a3) (by omega) hz (by omega) hc w.1 (fun j hj2 => by rw [eg]; exact hj j hj2) q 0 rs_fu (rs_si S 76 7 (nI e)) (by omega) (by unfold rs_fu; omega) ⟨fun _ _ _ => rfl, rfl, sc0, fun _ _ => rfl⟩
          rw [eg] at t3
          · have t3' : rv_sc S4 0 (rv_rd (rs_gi S (83 + 2 * i + 1)) a3.toInt a q) rv_uu := t3
            have fS4 : ∀ k j, ¬ (8 ≤ k ∧ k < 19) → ¬ (k = 76 ∧ j = 7) → rs_gi S4 k j = rs_gi S k j := fun k j b1 b2 => (t1 k j b1).trans (rv_gsn b2)
            obtain ⟨S2, g1, -, g2⟩ := ref S4 (fun k j b1 b2 => fS4 k j (by omega) b2)
            obtain ⟨o1, o2⟩ := g2 e p1
            have hjm : ∀ j, j < q → rv_val (rs_gi S (83 + 2 * i + 1)) (a 16) a3.toInt j := fun j hj2 => (hj j hj2).2
            refine ⟨nI q, S4, rs_si S2 91 32 (nI e), ?_, o1, ?_⟩
            · refine p2.trans ?_
              rw [rv_lts, show xf_X4_takePhases (rs_si S 76 7 (nI e)) (83 + 2 * i) a3 (nI q) = some S4 from e4, rv_b1s]
            · have fF : ∀ k j, ¬ (8 ≤ k ∧ k < 19) → ¬ (k = 76 ∧ j = 7) → ¬ (k = 92 ∧ j < 51) → k ≠ 105 → ¬ (k = 91 ∧ j = 32) → rs_gi (rs_si S2 91 32 (nI e)) k j = rs_gi S k j := fun k j b1 b2 b3 b4 b5 => by
                rw [rv_gsn b5, g1 k j b3 b4, fS4 k j b1 b2]
              have fG : ∀ k j, k < 19 → rs_gi (rs_si S2 91 32 (nI e)) k j = rs_gi S4 k j := fun k j b1 => by
                rw [rv_gsn (by omega), g1 k j (by omega) (by omega)]
              refine ⟨⟨rv_rd (rs_gi S (83 + 2 * i + 1)) a3.toInt a q, rv_wf2_cg (fun j hj => rv_rd_n hc hjm j (by omega)) (rv_rd_wf hc w.1 hjm) w, fun j hj2 => ?_, rv_fsc_cg (S := S4) (by rw [rv_rd_n hc hjm 16 (by omega)]; exact hc) (fun k j b1 b2 => fG k j (by omega)) ⟨t3', rv_rst_cg (fun j hj => rv_rd_n hc hjm j (by omega)) (fun k j b => fS4 k j (by omega) (by omega)) hf.2⟩⟩, fun k hk => rv_img_cg (fun k2 j b => fF k2 j (by omega) (by omega) (by omega) (by omega) (by omega)) (h1 k hk), rv_tp_cg (fun k j b => fF k j (by omega) (by omega) (by omega) (by omega) (by omega)) h2, ?_, ?_, fun k hk => rv_sht_cg (fun k2 j b => fF k2 j (by omega) (by omega) (by omega) (by omega) (by omega)) (h5 k hk), fun sc l b1 b2 => ?_⟩
              · rw [rv_gsn (by omega)]
                exact o2 j hj2
              · rw [fF _ _ (by omega) (by omega) (by omega) (by omega) (by omega), fF _ _ (by omega) (by omega) (by omega) (by omega) (by omega)]
                exact h3
              · rw [rv_gss, rv_gsn (by omega), g1 _ _ (by omega) (by omega), t1 _ _ (by omega), rv_gss]
              · by_cases b : sc = 0
                · rw [fG _ _ (by omega), show 19 * sc + 9 + 3 * l = 0 + 1 + 6 + 3 * l + 2 by omega, t4 l b2, rv_gsn (by omega)]
                  exact rv_zn h6 b2
                · rw [fF _ _ (by omega) (by omega) (by omega) (by omega) (by omega)]
                  exact h6 _ _ b1 b2
      · rw [if_neg hw]
        refine ⟨_, _, _, rfl, ?_, hI⟩
        rw [r0, rv_b1s, if_neg (by decide), show xf_X5_in S a4.toInt64 0 20 = _ from rv_in _ a4 0 20, rv_b1s, rv_i0, if_neg hw]
    · rw [if_neg hy]
      refine ⟨_, _, _, rfl, ?_, hI⟩
      rw [rv_isSheet, if_neg (fun z => hy z.2), rv_b1s, if_pos rfl]
  · rw [if_neg hx]
    refine ⟨_, _, _, rfl, ?_, hI⟩
    rw [rv_isSheet, if_neg (fun z => hx z.1), rv_b1s, if_pos rfl]
