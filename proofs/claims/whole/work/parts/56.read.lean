/-! read -/
theorem rv_x16 (a3 : Int32) {m : Nat} (hm : m ≤ 20) : (a3.toInt + 2 * (m : Int) < 2 ^ 31 → (a3 + nI (2 * m)).toInt = a3.toInt + 2 * (m : Int)) ∧ (2 ^ 31 ≤ a3.toInt + 2 * (m : Int) → (a3 + nI (2 * m)).toInt < 0) := by
  have h1 := Int32.toInt_lt a3
  have h2 := Int32.le_toInt a3
  rw [Int32.toInt_add, nI_toInt (by omega)]
  refine ⟨fun h => ?_, fun h => ?_⟩
  · rw [Int.bmod_eq_of_le (by omega) (by omega)]
    omega
  · rw [Int.bmod_def, if_neg (by omega)]
    omega
/-- the fault of a pair of cells: u = 0 no sheet, 1 another lane, 2 its lane -/
def rv_fc (u z : Nat) (t : Int) (m : Nat) : Nat := if u = 0 then 1 else if u = 1 then 3 else if 0 ≤ t + 2 * (m : Int) ∧ t + 2 * (m : Int) + 1 < (z : Int) then 0 else 2
def rv_lnc (S : rs_St) (i ln u z : Nat) : Prop := z ≤ 40 ∧ ((u = 0 ∧ rs_gi S (83 + 2 * i) 1 = -1) ∨ (u = 1 ∧ ∃ k, k ≤ 2 ∧ k ≠ ln ∧ rs_gi S (83 + 2 * i) 1 = nI k) ∨ (u = 2 ∧ rs_gi S (83 + 2 * i) 1 = nI ln ∧ rs_gi S (83 + 2 * i) 2 = nI z))
def rv_lnr (S : rs_St) (i ln u z : Nat) : Prop := z ≤ 40 ∧ ((u = 0 ∧ rs_gi S 102 i = -4) ∨ (u = 1 ∧ ∃ k, k ≤ 2 ∧ k ≠ ln ∧ rs_gi S 102 i = nI k) ∨ (u = 2 ∧ rs_gi S 102 i = nI ln ∧ rs_gi S 103 i = nI z))
theorem rv_lnd {S : rs_St} {i ln : Nat} (hl : ln ≤ 2) (h : rv_sht S i) : ∃ u z, rv_lnc S i ln u z ∧ rv_lnr S i ln u z ∧ (u = 2 → ∀ x, x < 40 → rs_gi S (83 + 2 * i + 1) x = rs_gi S 104 (40 * i + x)) := by
  rcases h with ⟨q1, q2⟩ | ⟨k, z, b1, b2, q1, q2, q3, q4, q5⟩
  · exact ⟨0, 0, ⟨by omega, Or.inl ⟨rfl, q1⟩⟩, ⟨by omega, Or.inl ⟨rfl, q2⟩⟩, fun z => by omega⟩
  · by_cases e : k = ln
    · subst e
      exact ⟨2, z, ⟨b2, Or.inr (Or.inr ⟨rfl, q1, q3⟩)⟩, ⟨b2, Or.inr (Or.inr ⟨rfl, q2, q4⟩)⟩, fun _ => q5⟩
    · exact ⟨1, z, ⟨b2, Or.inr (Or.inl ⟨rfl, k, b1, e, q1⟩)⟩, ⟨b2, Or.inr (Or.inl ⟨rfl, k, b1, e, q2⟩)⟩, fun z => by omega⟩
theorem rv_fat {S : rs_St} {k z ln : Nat} (hz : z ≤ 40) (hl : ln ≤ 2) (h1 : rs_gi S k 1 = nI ln) (h2 : rs_gi S k 2 = nI z) (x : Int32) : xf_X2_faultAt S k x = some (nI (if 0 ≤ x.toInt ∧ x.toInt < (z : Int) then 0 else 2)) := by
  unfold xf_X2_faultAt
  rw [h1, if_neg (rv_neg1 (by omega)), h2]
  have e0 : x < 0 ↔ x.toInt < 0 := Int32.lt_iff_toInt_lt
  have e1 : x < nI z ↔ x.toInt < (z : Int) := by rw [Int32.lt_iff_toInt_lt, nI_toInt (by omega)]
  by_cases y1 : x < 0
  · have y3 := e0.mp y1
    rw [if_pos y1, if_neg (by omega)]
    rfl
  · have y3 : ¬ x.toInt < 0 := fun q => y1 (e0.mpr q)
    rw [if_neg y1]
    by_cases y2 : x < nI z
    · have y4 := e1.mp y2
      rw [if_pos y2, if_pos (by omega)]
      rfl
    · have y4 : ¬ x.toInt < (z : Int) := fun q => y2 (e1.mpr q)
      rw [if_neg y2, if_neg (by omega)]
      rfl
theorem rv_fop {S : rs_St} {i ln u z : Nat} (h : rv_lnc S i ln u z) (hl : ln ≤ 2) (a3 : Int32) {m : Nat} (hm : m ≤ 20) : xf_X2_faultOfPair S (83 + 2 * i) (nI ln) (a3 + nI (2 * m)) = some (nI (rv_fc u z a3.toInt m)) := by
  obtain ⟨hz, h⟩ := h
  unfold xf_X2_faultOfPair rv_fc
  simp only [rs_jn]
  rcases h with ⟨rfl, h1⟩ | ⟨rfl, k, k1, k2, h1⟩ | ⟨rfl, h1, h2⟩
  · unfold xf_X2_faultAt
    rw [if_pos h1, if_pos h1, rv_b1s, if_neg (by decide), if_pos rfl]
    rfl
  · rw [h1, if_neg (rv_neg1 (by omega)), rv_eq (by omega) (by omega), if_neg k2, if_neg (by omega), if_pos rfl]
    rfl
  · rw [rv_fat hz hl h1 h2, rv_b1s, rv_fat hz hl h1 h2, rv_b1s, h1, if_neg (rv_neg1 (by omega)), if_pos rfl, if_neg (show ¬ (2 : Nat) = 0 by omega), if_neg (show ¬ (2 : Nat) = 1 by omega)]
    obtain ⟨t1, t2⟩ := rv_x16 a3 hm
    have b1 := Int32.toInt_lt a3
    have b2 := Int32.le_toInt a3
    have e1 : 0 ≤ (a3 + nI (2 * m)).toInt → (a3 + nI (2 * m)).toInt < (z : Int) → (a3 + nI (2 * m) + 1).toInt = (a3 + nI (2 * m)).toInt + 1 := fun q1 q2 => by
      rw [Int32.toInt_add, show (1 : Int32).toInt = 1 from rfl]
      exact Int.bmod_eq_of_le (by omega) (by omega)
    generalize (a3 + nI (2 * m) + 1).toInt = y1 at *
    generalize (a3 + nI (2 * m)).toInt = y at *
    generalize a3.toInt = t at *
    by_cases q : 0 ≤ y ∧ y < (z : Int)
    · rw [if_pos q, if_pos (show nI 0 = 0 from rfl)]
      have := e1 q.1 q.2
      rcases Int.lt_or_le (t + 2 * (m : Int)) (2 ^ 31) with r | r
      · have := t1 r
        by_cases p : 0 ≤ y1 ∧ y1 < (z : Int)
        · rw [if_pos p, if_pos (by omega)]
        · rw [if_neg p, if_neg (by omega)]
      · have := t2 r
        omega
    · rw [if_neg q, if_neg (show ¬ nI 2 = 0 by decide), if_neg]
      intro p
      have := t1 (by omega)
      omega
theorem rv_x26 (a3 : Int32) {u v : Nat} (hu : u < 1000) (hv : v < 1000) : (a3.toInt64 + (nI u).toInt64 + (nI v).toInt64).toInt = a3.toInt + (u : Int) + (v : Int) := by
  have b1 := Int32.toInt_lt a3
  have b2 := Int32.le_toInt a3
  rw [Int64.toInt_add, Int64.toInt_add, Int32.toInt_toInt64, Int32.toInt_toInt64, Int32.toInt_toInt64, nI_toInt (by omega), nI_toInt (by omega), Int.bmod_eq_of_le (n := a3.toInt + (u : Int)) (by omega) (by omega)]
  exact Int.bmod_eq_of_le (by omega) (by omega)
theorem rv_c0 {x : Int64} : lg_cmp x 0 < 0 ↔ x.toInt < 0 := by
  rw [rv_cmp_lt, Int64.lt_iff_toInt_lt]
  rfl
theorem rv_cz {x : Int64} {z : Nat} (hz : z < 2 ^ 31) : lg_cmp x (nI z).toInt64 < 0 ↔ x.toInt < (z : Int) := by
  rw [rv_cmp_lt, Int64.lt_iff_toInt_lt, Int32.toInt_toInt64, nI_toInt hz]
theorem rv_77s {S : rs_St} {i ln u z : Nat} (hi : i < 4) (h : rv_lnr S i ln u z) (hl : ln ≤ 2) (a3 : Int32) {m v : Nat} (hm : m ≤ 20) (hv : v < 2) (K : Int32 → Int32 → Option (Int32 × rs_St)) (f : Nat) : xf_X5_read_l77 (nI i) (nI ln) a3 S (nI m) K (f + 1) 0 (nI v) = xf_X5_read_l77 (nI i) (nI ln) a3 S (nI m) K f (nI (if u = 0 then 1 else if u = 1 then 3 else if 0 ≤ a3.toInt + 2 * (m : Int) + (v : Int) ∧ a3.toInt + 2 * (m : Int) + (v : Int) < (z : Int) then 0 else 2)) (nI (v + 1)) := by
  obtain ⟨hz, h⟩ := h
  rw [xf_X5_read_l77, rv_2, rv_le (by omega) (by omega), if_neg (by omega), if_pos rfl]
  simp (disch := omega) only [rs_jn, rs_lt, nI_1, rv_ckn, pk_mul]
  rw [nI_clamp (by omega)]
  rcases h with ⟨rfl, h1⟩ | ⟨rfl, k, k1, k2, h1⟩ | ⟨rfl, h1, h2⟩
  · rw [if_pos h1, if_pos rfl]
    rfl
  · rw [h1, if_neg (rv_neg4 (by omega)), rv_eq (by omega) (by omega), if_neg k2, if_neg (by omega), if_pos rfl]
    rfl
  · rw [h1, if_neg (rv_neg4 (by omega)), if_pos rfl, h2, if_neg (show ¬ (2 : Nat) = 0 by omega), if_neg (show ¬ (2 : Nat) = 1 by omega)]
    have hx := rv_x26 a3 (u := 2 * m) (v := v) (by omega) (by omega)
    have hc0 := rv_c0 (x := a3.toInt64 + (nI (2 * m)).toInt64 + (nI v).toInt64)
    have hcz := rv_cz (x := a3.toInt64 + (nI (2 * m)).toInt64 + (nI v).toInt64) (z := z) (by omega)
    rw [hx] at hc0 hcz
    by_cases q1 : lg_cmp (a3.toInt64 + (nI (2 * m)).toInt64 + (nI v).toInt64) 0 < 0
    · rw [if_pos q1, if_neg (by have := hc0.mp q1; omega)]
    · rw [if_neg q1]
      by_cases q2 : lg_cmp (a3.toInt64 + (nI (2 * m)).toInt64 + (nI v).toInt64) (nI z).toInt64 < 0
      · rw [if_pos q2, if_pos (by have := hcz.mp q2; have : ¬ a3.toInt + ((2 * m : Nat) : Int) + (v : Int) < 0 := fun z => q1 (hc0.mpr z); omega)]
        rfl
      · rw [if_neg q2, if_neg (by have : ¬ a3.toInt + ((2 * m : Nat) : Int) + (v : Int) < (z : Int) := fun z => q2 (hcz.mpr z); omega)]
theorem rv_77 {S : rs_St} {i ln u z : Nat} (hi : i < 4) (h : rv_lnr S i ln u z) (hl : ln ≤ 2) (a3 : Int32) {m : Nat} (hm : m ≤ 20) (K : Int32 → Int32 → Option (Int32 × rs_St)) : ∃ x, xf_X5_read_l77 (nI i) (nI ln) a3 S (nI m) K rs_fu 0 0 = K (nI (rv_fc u z a3.toInt m)) x := by
  have e0 : xf_X5_read_l77 (nI i) (nI ln) a3 S (nI m) K rs_fu 0 0 = _ := rv_77s hi h hl a3 hm (v := 0) (by omega) K 3999
  rw [e0]
  unfold rv_fc
  by_cases u0 : u = 0
  · rw [if_pos u0, if_pos u0, xf_X5_read_l77, rv_2, rv_le (by omega) (by omega), if_neg (by omega), if_neg (show ¬ nI 1 = 0 by decide)]
    exact ⟨_, rfl⟩
  · rw [if_neg u0, if_neg u0]
    by_cases u1 : u = 1
    · rw [if_pos u1, if_pos u1, xf_X5_read_l77, rv_2, rv_le (by omega) (by omega), if_neg (by omega), if_neg (show ¬ nI 3 = 0 by decide)]
      exact ⟨_, rfl⟩
    · rw [if_neg u1, if_neg u1]
      by_cases q : 0 ≤ a3.toInt + 2 * (m : Int) + ((0 : Nat) : Int) ∧ a3.toInt + 2 * (m : Int) + ((0 : Nat) : Int) < (z : Int)
      · rw [if_pos q]
        have e1 : xf_X5_read_l77 (nI i) (nI ln) a3 S (nI m) K 3999 (nI 0) (nI (0 + 1)) = _ := rv_77s hi h hl a3 hm (v := 1) (by omega) K 3998
        rw [e1, if_neg u0, if_neg u1, xf_X5_read_l77, rv_2, rv_le (by omega) (by omega), if_pos (by omega)]
        refine ⟨nI 2, ?_⟩
        by_cases p : 0 ≤ a3.toInt + 2 * (m : Int) ∧ a3.toInt + 2 * (m : Int) + 1 < (z : Int)
        · rw [if_pos p, if_pos (by omega)]
        · rw [if_neg p, if_neg (by omega)]
      · rw [if_neg q, xf_X5_read_l77, rv_2, rv_le (by omega) (by omega), if_neg (by omega), if_neg (show ¬ nI 2 = 0 by decide), if_neg (by omega)]
        exact ⟨_, rfl⟩
def rv_Y (t : Int) (m : Nat) : Nat := (t + 2 * (m : Int)).toNat
theorem rv_fc0 {u z : Nat} {a3 : Int32} {m : Nat} (hz : z ≤ 40) (hm : m ≤ 20) (h : rv_fc u z a3.toInt m = 0) : u ≠ 0 ∧ u ≠ 1 ∧ rv_Y a3.toInt m + 1 < z ∧ a3 + nI (2 * m) = nI (rv_Y a3.toInt m) := by
  unfold rv_fc at h
  by_cases u0 : u = 0
  · rw [if_pos u0] at h
    omega
  · rw [if_neg u0] at h
    by_cases u1 : u = 1
    · rw [if_pos u1] at h
      omega
    · rw [if_neg u1] at h
      by_cases p : 0 ≤ a3.toInt + 2 * (m : Int) ∧ a3.toInt + 2 * (m : Int) + 1 < (z : Int)
      · refine ⟨u0, u1, by unfold rv_Y; omega, ?_⟩
        rw [← Int32.toInt_inj, (rv_x16 a3 hm).1 (by omega), nI_toInt (by unfold rv_Y; omega)]
        unfold rv_Y
        omega
      · rw [if_neg p] at h
        omega
theorem rv_fc_le (u z : Nat) (t : Int) (m : Nat) : rv_fc u z t m ≤ 3 := by
  unfold rv_fc
  repeat' split
  all_goals omega
/-- the pair of cells is a lamp and a phase -/
def rv_val (g : Nat → Int32) (c : Nat) (t : Int) (m : Nat) : Prop := ∃ l v, l < c ∧ v ≤ 11 ∧ g (rv_Y t m) = nI l ∧ g (rv_Y t m + 1) = nI v
def rv_rd (g : Nat → Int32) (t : Int) (a : Nat → Nat) : Nat → Nat → Nat
  | 0 => a
  | m + 1 => rv_up (rv_rd g t a m) (4 * (g (rv_Y t m)).toNatClampNeg + 3) (g (rv_Y t m + 1)).toNatClampNeg
theorem rv_rd_n {g : Nat → Int32} {t : Int} {a : Nat → Nat} {c : Nat} (hc : c ≤ 4) : ∀ {m : Nat}, (∀ j, j < m → rv_val g c t j) → ∀ j, 16 ≤ j → rv_rd g t a m j = a j
  | 0, _, _, _ => rfl
  | m + 1, h, j, hj => by
    obtain ⟨l, v, hl, hv, e1, e2⟩ := h m (by omega)
    rw [rv_rd, e1, nI_clamp (by omega), rv_up_n (by omega)]
    exact rv_rd_n hc (fun i hi => h i (by omega)) j hj
theorem rv_rd_wf {g : Nat → Int32} {t : Int} {a : Nat → Nat} {c : Nat} (hc : c ≤ 4) (w : rv_wf a) : ∀ {m : Nat}, (∀ j, j < m → rv_val g c t j) → rv_wf (rv_rd g t a m)
  | 0, _ => w
  | m + 1, h => by
    obtain ⟨l, v, hl, hv, e1, e2⟩ := h m (by omega)
    rw [rv_rd, e1, e2, nI_clamp (by omega), nI_clamp (by omega)]
    exact rv_wfpart (p := 3) (rv_rd_wf hc w (fun i hi => h i (by omega))) (by omega) (by omega) (Nat.zero_le _) hv
theorem rv_pol {S : rs_St} {i c y : Nat} (h : rs_gi S 0 1 = nI c) (hc : c ≤ 4) (hy : y + 1 < 40) : (∃ l v, l < c ∧ v ≤ 11 ∧ rs_gi S (83 + 2 * i + 1) y = nI l ∧ rs_gi S (83 + 2 * i + 1) (y + 1) = nI v ∧ xf_X4_isPhaseOfLamp S (83 + 2 * i) (nI y) = some 1) ∨ (¬ (∃ l v, l < c ∧ v ≤ 11 ∧ rs_gi S (83 + 2 * i + 1) y = nI l ∧ rs_gi S (83 + 2 * i + 1) (y + 1) = nI v) ∧ xf_X4_isPhaseOfLamp S (83 + 2 * i) (nI y) = some 0) := by
  unfold xf_X4_isPhaseOfLamp
  rw [rv_ckn (by omega) (by omega), nI_clamp (by omega)]
  rcases rv_lampd (rs_gi S (83 + 2 * i + 1) y) c hc with ⟨l, hl, e1⟩ | hx
  · rw [e1, rv_lampAt h hc hl, rv_b1s]
    simp only [rs_om]
    have i3 : xf_X4_isPart S 3 (rs_gi S (83 + 2 * i + 1) (y + 1)) = _ := rv_ispart S (p := 3) (by omega) _
    rw [if_pos (rv_kd0 (by omega)), nI_1, rv_ckn (by omega) (by omega), nI_clamp (by omega), i3, rv_b1s, rv_i0]
    by_cases q : nI (rv_pl 3) ≤ rs_gi S (83 + 2 * i + 1) (y + 1) ∧ rs_gi S (83 + 2 * i + 1) (y + 1) ≤ nI (rv_ph 3)
    · obtain ⟨v, -, hv, e2⟩ := rv_ins (lo := rv_pl 3) (hi := rv_ph 3) (by decide) q (by decide)
      exact Or.inl ⟨l, v, hl, hv, rfl, e2, if_pos q⟩
    · refine Or.inr ⟨?_, if_neg q⟩
      rintro ⟨l2, v, -, hv, -, e2⟩
      refine q ?_
      rw [e2]
      exact ⟨(nI_leI (a := 0) (by omega) (by omega)).mpr (by omega), (nI_leI (b := 11) (by omega) (by omega)).mpr hv⟩
  · rw [rv_lampAt0 h hx, rv_b1s]
    refine Or.inr ⟨?_, rfl⟩
    rintro ⟨l, v, hl, -, e1, -⟩
    rw [e1] at hx
    rcases hx with hx | hx
    · exact nI_pos (by omega) hx
    · have := (nI_leI (by omega) (by omega)).mp hx
      omega
theorem rv_20 : (20 : Int32) = nI 20 := rfl
/-- the class's look at the pairs -/
theorem rv_rdc {S : rs_St} {i ln u z n c : Nat} {a3 : Int32} (hi : i < 4) (h : rv_lnc S i ln u z) (hl : ln ≤ 2) (hn : n ≤ 20) (h1 : rs_gi S 0 1 = nI c) (hc : c ≤ 4) (K : Int32 → Int32 → Int32 → Option (Int32 × rs_St)) : ∀ (d m fu : Nat), m + d = n → d + 1 < fu → (∀ j, j < m → rv_fc u z a3.toInt j = 0 ∧ rv_val (rs_gi S (83 + 2 * i + 1)) c a3.toInt j) → ∃ q, q ≤ n ∧ (∀ j, j < q → rv_fc u z a3.toInt j = 0 ∧ rv_val (rs_gi S (83 + 2 * i + 1)) c a3.toInt j) ∧ ((q < n ∧ rv_fc u z a3.toInt q = 0 ∧ ¬ rv_val (rs_gi S (83 + 2 * i + 1)) c a3.toInt q ∧ xf_X4_read_l48 S (nI i) (nI ln) a3 (nI n) K fu 0 (nI m) (nI m) = some (-20 - nI q, S)) ∨ ∃ e x, ((q = n ∧ e = 0) ∨ (q < n ∧ rv_fc u z a3.toInt q = e ∧ e ≠ 0)) ∧ xf_X4_read_l48 S (nI i) (nI ln) a3 (nI n) K fu 0 (nI m) (nI m) = K (nI e) (nI q) x) := by
  intro d
  induction d with
  | zero =>
    intro m fu hm hf hj
    obtain ⟨f, rfl⟩ : ∃ f, fu = f + 1 := ⟨fu - 1, by omega⟩
    refine ⟨m, by omega, hj, Or.inr ⟨0, nI m, Or.inl ⟨by omega, rfl⟩, ?_⟩⟩
    rw [xf_X4_read_l48, rv_le (by omega) (by omega), if_pos (by omega)]
    rfl
  | succ d ih =>
    intro m fu hm hf hj
    obtain ⟨f, rfl⟩ : ∃ f, fu = f + 2 := ⟨fu - 2, by omega⟩
    have hfc := rv_fc_le u z a3.toInt m
    have e0 : xf_X4_read_l48 S (nI i) (nI ln) a3 (nI n) K (f + 2) 0 (nI m) (nI m) = rs_jn (fun (x19 : Int32) => xf_X4_read_l48 S (nI i) (nI ln) a3 (nI n) K (f + 1) (nI (rv_fc u z a3.toInt m)) x19 (nI (m + 1))) (fun J20 => if nI (rv_fc u z a3.toInt m) = 0 then rs_b1 (xf_X4_isPhaseOfLamp S (83 + 2 * i) (a3 + nI (2 * m))) (fun r24 => if r24 = 0 then some (((-20) - nI m), S) else J20 (nI (m + 1))) else J20 (nI m)) := by
      rw [xf_X4_read_l48, rv_le (by omega) (by omega), if_neg (by omega), if_pos rfl, rv_lts, nI_clamp (by omega), rv_2, pk_mul, rv_fop h hl a3 (by omega), rv_b1s, nI_1]
      rfl
    rw [e0]
    simp only [rs_jn]
    rw [show (0 : Int32) = nI 0 from rfl, rv_eq (by omega) (by omega)]
    by_cases q : rv_fc u z a3.toInt m = 0
    · obtain ⟨-, -, hY, eY⟩ := rv_fc0 h.1 (by omega) q
      rw [if_pos q, eY]
      rcases rv_pol (S := S) (i := i) (c := c) (y := rv_Y a3.toInt m) h1 hc (by have := h.1; omega) with ⟨l, v, hl, hv, e1, e2, e3⟩ | ⟨e1, e3⟩
      · rw [e3, rv_b1s, if_neg (show ¬ (1 : Int32) = nI 0 by decide), q]
        exact ih (m + 1) (f + 1) (by omega) (by omega) (fun j hj2 => by
          by_cases p : j = m
          · rw [p]
            exact ⟨q, l, v, hl, hv, e1, e2⟩
          · exact hj j (by omega))
      · rw [e3, rv_b1s, if_pos (show (0 : Int32) = nI 0 from rfl)]
        exact ⟨m, by omega, hj, Or.inl ⟨by omega, q, e1, rfl⟩⟩
    · rw [if_neg q]
      refine ⟨m, by omega, hj, Or.inr ⟨rv_fc u z a3.toInt m, nI (m + 1), Or.inr ⟨by omega, rfl, q⟩, ?_⟩⟩
      rw [xf_X4_read_l48, rv_le (by omega) (by omega)]
      by_cases p : n ≤ m + 1
      · rw [if_pos p]
      · rw [if_neg p, show (0 : Int32) = nI 0 from rfl, rv_eq (by omega) (by omega), if_neg q]
