/-! what a shot of the reference's leaves -/
def rv_sgP (S : rs_St) (a : Nat → Nat) (u : Nat → Bool) (S2 : rs_St) : Prop := rv_ag S S2 ∧ rv_nw S2 (rv_nx a u) ∧ (∀ i, i < a 17 → rs_gi S2 98 i = nI (rv_rw a u (a 21) i)) ∧ (∀ j, j < 15 ∨ 19 < j → rs_gi S2 91 j = rs_gi S 91 j) ∧ rs_gi S2 91 19 = nI (rv_bd a u (a 21)) ∧ rs_gi S2 91 15 = (if nI (rv_bd a u (a 21)) ≤ rs_gi S 91 15 then rs_gi S 91 15 else nI (rv_bd a u (a 21))) ∧ rs_gi S2 91 16 = (if rs_gi S 91 16 = -4 then nI (rv_bd a u (a 21)) else if rs_gi S 91 16 ≤ nI (rv_bd a u (a 21)) then rs_gi S 91 16 else nI (rv_bd a u (a 21))) ∧ rs_gi S2 91 17 = rs_gi S 91 17 + nI (rv_ls a u (a 21)) ∧ rs_gi S2 91 18 = rs_gi S 91 18 + nI (rv_fl a u (a 21))
theorem rv_jn2 {α β : Type} {c d : Prop} [Decidable c] [Decidable d] (f : α → Option β) (x y z : α) : rs_jn f (fun J => if c then J x else if d then J y else J z) = f (if c then x else if d then y else z) := by
  unfold rs_jn
  split
  · rfl
  · split <;> rfl
theorem rv_shotGoes0 {S : rs_St} {a : Nat → Nat} (h : rv_nw S a) (w : rv_wf a) (ht : a 21 < 800000) : ∃ S2, xf_X5_shotGoes S = some S2 ∧ rv_sgP S a (rv_on S a) S2 := by
  obtain ⟨hc, -, hR, -, -, -⟩ := id w
  have hP0 : rv_shP S a 0 S := by
    refine ⟨⟨fun _ _ _ _ => rfl, rfl⟩, fun j hj => ?_, fun i hi => by omega, fun _ _ _ => rfl, ?_, ?_⟩
    · rw [h j hj]
      unfold rv_nr
      rw [if_neg (by omega)]
    · show _ = _ + nI 0
      rw [nI_0, Int32.add_zero]
    · show _ = _ + nI 0
      rw [nI_0, Int32.add_zero]
  unfold xf_X5_shotGoes
  simp only [rs_lt, rv_jn, rv_jn2]
  obtain ⟨S3, hP, e⟩ := rv_shot_l w ht (fun (S26 : rs_St) (x27 x28 x29 : Int32) => some (rs_si (rs_si (rs_si (rs_si (rs_si (rs_si S26 91 19 (x28 - x27)) 91 15 (if rs_gi (rs_si S26 91 19 (x28 - x27)) 91 19 ≤ rs_gi (rs_si S26 91 19 (x28 - x27)) 91 15 then rs_gi (rs_si S26 91 19 (x28 - x27)) 91 15 else rs_gi (rs_si S26 91 19 (x28 - x27)) 91 19)) 91 16 (if rs_gi (rs_si (rs_si S26 91 19 (x28 - x27)) 91 15 (if rs_gi (rs_si S26 91 19 (x28 - x27)) 91 19 ≤ rs_gi (rs_si S26 91 19 (x28 - x27)) 91 15 then rs_gi (rs_si S26 91 19 (x28 - x27)) 91 15 else rs_gi (rs_si S26 91 19 (x28 - x27)) 91 19)) 91 16 = -4 then rs_gi (rs_si (rs_si S26 91 19 (x28 - x27)) 91 15 (if rs_gi (rs_si S26 91 19 (x28 - x27)) 91 19 ≤ rs_gi (rs_si S26 91 19 (x28 - x27)) 91 15 then rs_gi (rs_si S26 91 19 (x28 - x27)) 91 15 else rs_gi (rs_si S26 91 19 (x28 - x27)) 91 19)) 91 19 else if rs_gi (rs_si (rs_si S26 91 19 (x28 - x27)) 91 15 (if rs_gi (rs_si S26 91 19 (x28 - x27)) 91 19 ≤ rs_gi (rs_si S26 91 19 (x28 - x27)) 91 15 then rs_gi (rs_si S26 91 19 (x28 - x27)) 91 15 else rs_gi (rs_si S26 91 19 (x28 - x27)) 91 19)) 91 16 ≤ rs_gi (rs_si (rs_si S26 91 19 (x28 - x27)) 91 15 (if rs_gi (rs_si S26 91 19 (x28 - x27)) 91 19 ≤ rs_gi (rs_si S26 91 19 (x28 - x27)) 91 15 then rs_gi (rs_si S26 91 19 (x28 - x27)) 91 15 else rs_gi (rs_si S26 91 19 (x28 - x27)) 91 19)) 91 19 then rs_gi (rs_si (rs_si S26 91 19 (x28 - x27)) 91 15 (if rs_gi (rs_si S26 91 19 (x28 - x27)) 91 19 ≤ rs_gi (rs_si S26 91 19 (x28 - x27)) 91 15 then rs_gi (rs_si S26 91 19 (x28 - x27)) 91 15 else rs_gi (rs_si S26 91 19 (x28 - x27)) 91 19)) 91 16 else rs_gi (rs_si (rs_si S26 91 19 (x28 - x27)) 91 15 (if rs_gi (rs_si S26 91 19 (x28 - x27)) 91 19 ≤ rs_gi (rs_si S26 91 19 (x28 - x27)) 91 15 then rs_gi (rs_si S26 91 19 (x28 - x27)) 91 15 else rs_gi (rs_si S26 91 19 (x28 - x27)) 91 19)) 91 19)) 93 23 (rs_gi S26 93 17)) 93 21 (rs_gi S26 93 21 + rs_gi S26 93 20)) 93 22 (rs_gi S26 93 22 + 1))) (a 17) 0 rs_fu S (by omega) (by unfold rs_fu; omega) hP0
  refine ⟨_, e, ?_⟩
  obtain ⟨p1, p2, p3, p4, p5, p6⟩ := hP
  have hmx : rv_mx (rv_rw a (rv_on S a) (a 21)) (a 17) ≤ 255 := rv_mx_le (fun _ _ => rv_br_le _ _ _)
  have hmm : rv_mn (rv_rw a (rv_on S a) (a 21)) (a 17) ≤ rv_mx (rv_rw a (rv_on S a) (a 21)) (a 17) := rv_mn_mx (by omega) (fun _ _ => rv_br_le _ _ _)
  have hlo : ∀ j, j < 24 → rv_nr a (rv_on S a) (a 17) j = a j := fun j hj => by
    unfold rv_nr
    rw [if_neg (by omega)]
  rw [pk_sub hmm]
  refine ⟨⟨fun k k1 k2 k3 => ?_, p1.2⟩, fun j hj => ?_, fun i hi => ?_, fun j hj => ?_, ?_, ?_, ?_, ?_, ?_⟩
  · rw [rv_fs k2, rv_fs k2, rv_fs k2, rv_fs k1, rv_fs k1, rv_fs k1]
    exact p1.1 k k1 k2 k3
  · simp only [rv_gs]
    unfold rv_nx
    rw [p2 17 (by omega), p2 20 (by omega), p2 21 (by omega), p2 22 (by omega), hlo 17 (by omega), hlo 20 (by omega), hlo 21 (by omega), hlo 22 (by omega), nI_1, nI_add]
    by_cases q1 : j = 22
    · rw [if_pos ⟨trivial, q1⟩, if_neg (by omega), if_pos q1]
    · by_cases q2 : j = 21
      · rw [if_neg (by omega), if_pos ⟨trivial, q2⟩, if_pos q2]
      · by_cases q3 : j = 23
        · rw [if_neg (by omega), if_neg (by omega), if_pos ⟨trivial, q3⟩, if_neg q2, if_neg q1, if_pos q3]
        · rw [if_neg (by omega), if_neg (by omega), if_neg (by omega), if_neg (by omega), if_neg (by omega), if_neg (by omega), if_neg q2, if_neg q1, if_neg q3, p2 j hj]
          rfl
  · simp only [rv_gs]
    rw [if_neg (by omega), if_neg (by omega), if_neg (by omega), if_neg (by omega), if_neg (by omega), if_neg (by omega)]
    exact p3 i hi
  · simp only [rv_gs]
    rw [if_neg (by omega), if_neg (by omega), if_neg (by omega), if_neg (by omega), if_neg (by omega), if_neg (by omega)]
    exact p4 j (by omega) (by omega)
  · simp [rv_gs, rv_bd]
  · simp [rv_gs, rv_bd, p4]
    exact ite_congr rfl (fun _ => rfl) (fun _ => rfl)
  · simp [rv_gs, rv_bd, p4]
    exact ite_congr rfl (fun _ => rfl) (fun _ => ite_congr rfl (fun _ => rfl) (fun _ => rfl))
  · simp only [rv_gs]
    simp [p5, rv_ls]
  · simp only [rv_gs]
    simp [p6, rv_fl]
theorem rv_shotGoes {S : rs_St} {a : Nat → Nat} {u : Nat → Bool} (h : rv_nw S a) (w : rv_wf a) (ht : a 21 < 800000) (hu : ∀ l, l < a 16 → rv_on S a l = u l) : ∃ S2, xf_X5_shotGoes S = some S2 ∧ rv_sgP S a u S2 := by
  obtain ⟨S2, e, hP⟩ := rv_shotGoes0 h w ht
  refine ⟨S2, e, ?_⟩
  have er : rv_rw a (rv_on S a) (a 21) = rv_rw a u (a 21) := by
    funext r
    exact rv_rw_cg w.1 (fun _ _ => rfl) hu _ _
  have e1 : rv_nx a (rv_on S a) = rv_nx a u := by
    unfold rv_nx
    rw [er]
  have e2 : rv_bd a (rv_on S a) (a 21) = rv_bd a u (a 21) := by
    unfold rv_bd
    rw [er]
  have e3 : rv_ls a (rv_on S a) (a 21) = rv_ls a u (a 21) := by
    unfold rv_ls
    rw [er]
  have e4 : rv_fl a (rv_on S a) (a 21) = rv_fl a u (a 21) := by
    unfold rv_fl
    rw [er]
  unfold rv_sgP at hP ⊢
  rw [er, e1, e2, e3, e4] at hP
  exact hP
/-! starts() -/
def rv_stP (S S2 : rs_St) : Prop := (∀ k, k ≠ 91 → k ≠ 93 → S2.1 k = S.1 k) ∧ S2.2 = S.2 ∧ (∀ j, j < 51 → rs_gi S2 93 j = rs_gi S 92 j) ∧ (∀ j, j < 13 ∨ 18 < j → rs_gi S2 91 j = rs_gi S 91 j) ∧ rs_gi S2 91 13 = -4 ∧ rs_gi S2 91 14 = 0 ∧ rs_gi S2 91 15 = 0 ∧ rs_gi S2 91 16 = -4 ∧ rs_gi S2 91 17 = 0 ∧ rs_gi S2 91 18 = 0
theorem rv_starts_l (S : rs_St) (K : rs_St → Int32 → Option rs_St) : ∀ (d i fu : Nat) (S2 : rs_St), i + d = 51 → d < fu → ((∀ k, k ≠ 93 → S2.1 k = S.1 k) ∧ S2.2 = S.2 ∧ ∀ j, j < i → rs_gi S2 93 j = rs_gi S 92 j) → ∃ S3, ((∀ k, k ≠ 93 → S3.1 k = S.1 k) ∧ S3.2 = S.2 ∧ ∀ j, j < 51 → rs_gi S3 93 j = rs_gi S 92 j) ∧ xf_X5_starts_l2 K fu S2 (nI i) = K S3 (nI 51) := by
  intro d
  induction d with
  | zero =>
    intro i fu S2 hi hf hP
    obtain ⟨f, rfl⟩ : ∃ f, fu = f + 1 := ⟨fu - 1, by omega⟩
    refine ⟨S2, by rw [show 51 = i by omega]; exact hP, ?_⟩
    rw [xf_X5_starts_l2, rv_51, rv_le (by omega) (by omega), if_pos (by omega), show i = 51 by omega]
  | succ d ih =>
    intro i fu S2 hi hf hP
    obtain ⟨f, rfl⟩ : ∃ f, fu = f + 1 := ⟨fu - 1, by omega⟩
    rw [xf_X5_starts_l2, rv_51, rv_le (by omega) (by omega), if_neg (by omega), rv_ckn (by omega) (by omega), rv_ckn (by omega) (by omega), nI_clamp (by omega)]
    simp only [rs_lt]
    rw [nI_1]
    refine ih (i + 1) f _ (by omega) (by omega) ⟨fun k hk => ?_, hP.2.1, fun j hj => ?_⟩
    · rw [rv_fs hk]
      exact hP.1 k hk
    · have e92 : rs_gi S2 92 i = rs_gi S 92 i := congrFun (hP.1 92 (by omega)) i
      rw [rv_gs]
      by_cases q : j = i
      · rw [if_pos ⟨rfl, q⟩, q, e92]
      · rw [if_neg (by omega)]
        exact hP.2.2 j (by omega)
theorem rv_starts (S : rs_St) : ∃ S2, xf_X5_starts S = some S2 ∧ rv_stP S S2 := by
  unfold xf_X5_starts
  obtain ⟨S3, hP, e⟩ := rv_starts_l S (fun (S8 : rs_St) (x9 : Int32) => rs_lt (rs_si S8 91 13 (-4)) (fun S10 => rs_lt (rs_si S10 91 14 0) (fun S11 => rs_lt (rs_si S11 91 15 0) (fun S12 => rs_lt (rs_si S12 91 16 (-4)) (fun S13 => rs_lt (rs_si S13 91 17 0) (fun S14 => rs_lt (rs_si S14 91 18 0) (fun S15 => some S15))))))) 51 0 rs_fu S (by omega) (by unfold rs_fu; omega) ⟨fun _ _ => rfl, rfl, fun j hj => by omega⟩
  refine ⟨_, e, ?_⟩
  refine ⟨fun k k1 k2 => ?_, hP.2.1, fun j hj => ?_, fun j hj => ?_, ?_, ?_, ?_, ?_, ?_, ?_⟩
  · rw [rv_fs k1, rv_fs k1, rv_fs k1, rv_fs k1, rv_fs k1, rv_fs k1]
    exact hP.1 k k2
  · simp only [rv_gs]
    rw [if_neg (by omega), if_neg (by omega), if_neg (by omega), if_neg (by omega), if_neg (by omega), if_neg (by omega)]
    exact hP.2.2 j hj
  · simp only [rv_gs]
    rw [if_neg (by omega), if_neg (by omega), if_neg (by omega), if_neg (by omega), if_neg (by omega), if_neg (by omega)]
    exact congrFun (hP.1 91 (by omega)) j
  · simp [rv_gs]
  · simp [rv_gs]
  · simp [rv_gs]
  · simp [rv_gs]
  · simp [rv_gs]
  · simp [rv_gs]
/-! shots one behind another -/
def rv_as (a : Nat → Nat) (u : Nat → Bool) (i : Nat) : Nat → Nat := fun j => if j = 21 then a 21 + i * a 20 else if j = 22 then a 22 + i else if i = 0 then a j else if j = 23 then a 17 else if 24 ≤ j ∧ j < 24 + a 17 then rv_rw a u (a 21 + (i - 1) * a 20) (j - 24) else a j
theorem rv_as_lo {a : Nat → Nat} {u : Nat → Bool} {i j : Nat} (h : j < 21) : rv_as a u i j = a j := by
  unfold rv_as
  rw [if_neg (by omega), if_neg (by omega)]
  split
  · rfl
  · rw [if_neg (by omega), if_neg (by omega)]
theorem rv_as_21 {a : Nat → Nat} {u : Nat → Bool} {i : Nat} : rv_as a u i 21 = a 21 + i * a 20 := rfl
theorem rv_as_0 {a : Nat → Nat} {u : Nat → Bool} : rv_as a u 0 = a := by
  funext j
  unfold rv_as
  by_cases h1 : j = 21
  · rw [if_pos h1, h1]
    omega
  · by_cases h2 : j = 22
    · rw [if_neg h1, if_pos h2, h2]
      omega
    · rw [if_neg h1, if_neg h2, if_pos rfl]
theorem rv_as_s {a : Nat → Nat} {u : Nat → Bool} {i : Nat} (hc : a 16 ≤ 4) : rv_nx (rv_as a u i) u = rv_as a u (i + 1) := by
  funext j
  have er : rv_rw (rv_as a u i) u (a 21 + i * a 20) = rv_rw a u (a 21 + i * a 20) := by
    funext r
    exact rv_rw_cg hc (fun j hj => rv_as_lo hj) (fun _ _ => rfl) _ _
  unfold rv_nx
  rw [rv_as_21, rv_as_lo (j := 20) (by omega), rv_as_lo (j := 17) (by omega), er]
  by_cases h1 : j = 21
  · rw [if_pos h1, h1]
    show _ = a 21 + (i + 1) * a 20
    rw [Nat.succ_mul]
    omega
  · by_cases h2 : j = 22
    · rw [if_neg h1, if_pos h2, h2]
      show a 22 + i + 1 = a 22 + (i + 1)
      omega
    · rw [if_neg h1, if_neg h2]
      unfold rv_as
      rw [if_neg h1, if_neg h2, if_neg (show ¬ i + 1 = 0 by omega), Nat.add_sub_cancel, if_neg h1, if_neg h2]
      by_cases h3 : j = 23
      · simp only [if_pos h3]
      · by_cases h4 : 24 ≤ j ∧ j < 24 + a 17
        · simp only [if_neg h3, if_pos h4]
        · by_cases h5 : i = 0
          · simp only [if_neg h3, if_neg h4, if_pos h5]
          · simp only [if_neg h3, if_neg h4, if_neg h5]
def rv_T (a : Nat → Nat) (n : Nat) : Nat := a 21 + n * a 20
def rv_goP (S : rs_St) (a : Nat → Nat) (u : Nat → Bool) (i : Nat) (S2 : rs_St) : Prop := rv_ag S S2 ∧ rv_nw S2 (rv_as a u i) ∧ (0 < i → ∀ r, r < a 17 → rs_gi S2 98 r = nI (rv_rw a u (rv_T a (i - 1)) r)) ∧ (∀ j, j < 15 ∨ 19 < j → rs_gi S2 91 j = rs_gi S 91 j) ∧ (0 < i → rs_gi S2 91 19 = nI (rv_bd a u (rv_T a (i - 1)))) ∧ rs_gi S2 91 15 = nI (rv_mx (fun n => rv_bd a u (rv_T a n)) i) ∧ rs_gi S2 91 16 = (if i = 0 then -4 else nI (rv_mn (fun n => rv_bd a u (rv_T a n)) i)) ∧ rs_gi S2 91 17 = nI (rv_sm (fun n => rv_ls a u (rv_T a n)) i) ∧ rs_gi S2 91 18 = nI (rv_sm (fun n => rv_fl a u (rv_T a n)) i)
theorem rv_bd_le (a : Nat → Nat) (u : Nat → Bool) (t : Nat) : rv_bd a u t ≤ 255 := by
  have h : rv_mx (rv_rw a u t) (a 17) ≤ 255 := rv_mx_le (fun _ _ => rv_br_le _ _ _)
  unfold rv_bd
  omega
theorem rv_bd_cg {a b : Nat → Nat} {u v : Nat → Bool} (hc : a 16 ≤ 4) (h : ∀ j, j < 21 → b j = a j) (hu : ∀ l, l < a 16 → v l = u l) (t : Nat) : rv_bd b v t = rv_bd a u t := by
  have er : rv_rw b v t = rv_rw a u t := by
    funext r
    exact rv_rw_cg hc h hu _ _
  unfold rv_bd
  rw [er, h 17 (by omega)]
theorem rv_ls_cg {a b : Nat → Nat} {u v : Nat → Bool} (hc : a 16 ≤ 4) (h : ∀ j, j < 21 → b j = a j) (hu : ∀ l, l < a 16 → v l = u l) (t : Nat) : rv_ls b v t = rv_ls a u t := by
  have er : rv_rw b v t = rv_rw a u t := by
    funext r
    exact rv_rw_cg hc h hu _ _
  unfold rv_ls
  rw [er, h 17 (by omega)]
theorem rv_fl_cg {a b : Nat → Nat} {u v : Nat → Bool} (hc : a 16 ≤ 4) (h : ∀ j, j < 21 → b j = a j) (hu : ∀ l, l < a 16 → v l = u l) (t : Nat) : rv_fl b v t = rv_fl a u t := by
  have er : rv_rw b v t = rv_rw a u t := by
    funext r
    exact rv_rw_cg hc h hu _ _
  unfold rv_fl
  rw [er, h 17 (by omega)]
theorem rv_neg4 {n : Nat} (h : n < 2 ^ 31) : ¬ nI n = -4 := rv_ne h (by decide)
theorem rv_go0 {S S2 : rs_St} {a : Nat → Nat} {u : Nat → Bool} (hs : rv_stP S S2) (ha : ∀ j, j < 51 → rs_gi S 92 j = nI (a j)) : rv_goP S2 a u 0 S2 := by
  obtain ⟨h1, h2, h3, h4, h5, h6, h7, h8, h9, h10⟩ := hs
  refine ⟨⟨fun _ _ _ _ => rfl, rfl⟩, fun j hj => ?_, fun h => by omega, fun _ _ => rfl, fun h => by omega, h7, h8, h9, h10⟩
  rw [h3 j hj, ha j hj, rv_as_0]
theorem rv_go1 {S S2 : rs_St} {a : Nat → Nat} {u : Nat → Bool} {i : Nat} (w : rv_wf a) (hu : ∀ l, l < a 16 → rv_on S a l = u l) (hi : rv_T a i < 800000) (hP : rv_goP S a u i S2) : ∃ S3, xf_X5_shotGoes S2 = some S3 ∧ rv_goP S a u (i + 1) S3 := by
  obtain ⟨p1, p2, p3, p4, p5, p6, p7, p8, p9⟩ := hP
  have hc := w.1
  obtain ⟨S3, e, q1, q2, q3, q4, q5, q6, q7, q8, q9⟩ := rv_shotGoes (u := u) p2 (rv_wf_cg (fun j hj => rv_as_lo hj) w) hi (fun l hl => by
    rw [rv_as_lo (by omega)] at hl
    rw [rv_on_cg (p4 13 (by omega)) (p4 14 (by omega)) (rv_as_lo (by omega))]
    exact hu l hl)
  have eT : rv_as a u i 21 = rv_T a i := rfl
  have er : ∀ r, rv_rw (rv_as a u i) u (rv_T a i) r = rv_rw a u (rv_T a i) r := fun r => rv_rw_cg hc (fun j hj => rv_as_lo hj) (fun _ _ => rfl) _ _
  have eb : rv_bd (rv_as a u i) u (rv_T a i) = rv_bd a u (rv_T a i) := rv_bd_cg hc (fun j hj => rv_as_lo hj) (fun _ _ => rfl) _
  have el : rv_ls (rv_as a u i) u (rv_T a i) = rv_ls a u (rv_T a i) := rv_ls_cg hc (fun j hj => rv_as_lo hj) (fun _ _ => rfl) _
  have ef : rv_fl (rv_as a u i) u (rv_T a i) = rv_fl a u (rv_T a i) := rv_fl_cg hc (fun j hj => rv_as_lo hj) (fun _ _ => rfl) _
  rw [eT] at q3 q5 q6 q7 q8 q9
  rw [eb] at q5 q6 q7
  rw [el] at q8
  rw [ef] at q9
  have hb := rv_bd_le a u (rv_T a i)
  have hm : rv_mx (fun n => rv_bd a u (rv_T a n)) i ≤ 255 := rv_mx_le (fun _ _ => rv_bd_le _ _ _)
  have hn := rv_mn_le (fun n => rv_bd a u (rv_T a n)) i
  refine ⟨S3, e, ⟨fun k k1 k2 k3 => (q1.1 k k1 k2 k3).trans (p1.1 k k1 k2 k3), q1.2.trans p1.2⟩, ?_, fun _ r hr => ?_, fun j hj => (q4 j hj).trans (p4 j hj), fun _ => q5, ?_, ?_, ?_, ?_⟩
  · rw [rv_as_s hc] at q2
    exact q2
  · rw [rv_as_lo (by omega)] at q3
    rw [q3 r hr, er]
    rfl
  · rw [q6, p6, rv_le (by omega) (by omega), rv_nite]
    rfl
  · rw [q7, p7, if_neg (show ¬ i + 1 = 0 by omega)]
    by_cases h0 : i = 0
    · rw [if_pos h0, if_pos rfl]
      subst h0
      show nI (rv_bd a u (rv_T a 0)) = nI (if 255 ≤ rv_bd a u (rv_T a 0) then 255 else rv_bd a u (rv_T a 0))
      congr 1
      split <;> omega
    · rw [if_neg h0, if_neg (rv_neg4 (by omega)), rv_le (by omega) (by omega), rv_nite]
      rfl
  · rw [q8, p8, nI_add]
    rfl
  · rw [q9, p9, nI_add]
    rfl
theorem rv_go_l {S : rs_St} {a : Nat → Nat} {u : Nat → Bool} {n : Nat} (w : rv_wf a) (hu : ∀ l, l < a 16 → rv_on S a l = u l) (hn : n ≤ 41) (ht : a 21 ≤ 99999) (K : rs_St → Int32 → Option rs_St) : ∀ (d i fu : Nat) (S2 : rs_St), i + d = n → d < fu → rv_goP S a u i S2 → ∃ S3, rv_goP S a u n S3 ∧ xf_X5_shotsGo_l2 (nI n) K fu S2 (nI i) = K S3 (nI n) := by
  obtain ⟨-, -, -, -, -, hp⟩ := id w
  intro d
  induction d with
  | zero =>
    intro i fu S2 hi hf hP
    obtain ⟨f, rfl⟩ : ∃ f, fu = f + 1 := ⟨fu - 1, by omega⟩
    refine ⟨S2, by rw [← show i = n by omega]; exact hP, ?_⟩
    rw [xf_X5_shotsGo_l2, rv_le (by omega) (by omega), if_pos (by omega), show i = n by omega]
  | succ d ih =>
    intro i fu S2 hi hf hP
    obtain ⟨f, rfl⟩ : ∃ f, fu = f + 1 := ⟨fu - 1, by omega⟩
    have hm : i * a 20 ≤ 41 * 60 := Nat.mul_le_mul (by omega) hp.2
    obtain ⟨S3, e, hP3⟩ := rv_go1 w hu (by unfold rv_T; omega) hP
    rw [xf_X5_shotsGo_l2, rv_le (by omega) (by omega), if_neg (by omega), e]
    simp only [rs_b1, rs_lt]
    rw [nI_1]
    exact ih (i + 1) f S3 (by omega) (by omega) hP3
theorem rv_shotsGo {S S2 : rs_St} {a : Nat → Nat} {u : Nat → Bool} {n : Nat} (w : rv_wf a) (hu : ∀ l, l < a 16 → rv_on S a l = u l) (hn : n ≤ 41) (ht : a 21 ≤ 99999) (h0 : rv_goP S a u 0 S2) : ∃ S3, xf_X5_shotsGo S2 (nI n) = some S3 ∧ rv_goP S a u n S3 := by
  obtain ⟨S3, hP, e⟩ := rv_go_l w hu hn ht (fun S7 _ => some S7) n 0 rs_fu S2 (by omega) (by unfold rs_fu; omega) h0
  exact ⟨S3, e, hP⟩
