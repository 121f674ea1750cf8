/-! a shot of the reference's -/
theorem rv_gs (S : rs_St) (k j : Nat) (v : Int32) (k2 j2 : Nat) : rs_gi (rs_si S k j v) k2 j2 = if k2 = k ∧ j2 = j then v else rs_gi S k2 j2 := rfl
theorem rv_fs {S : rs_St} {k j : Nat} {v : Int32} {k2 : Nat} (h : k2 ≠ k) : (rs_si S k j v).1 k2 = S.1 k2 := by
  funext x
  exact rs_gi_si_ne h
theorem rv_jn {α β : Type} {c : Prop} [Decidable c] (f : α → Option β) (x y : α) : rs_jn f (fun J => if c then J x else J y) = f (if c then x else y) := by
  unfold rs_jn
  split <;> rfl
theorem rv_flag {c : Prop} [Decidable c] (S : rs_St) : xf_X5_flag S (if c then 1 else 0) = some (nI (if c then 1 else 0)) := by
  split <;> rfl
theorem rv_nite {c : Prop} [Decidable c] (x y : Nat) : (if c then nI x else nI y) = nI (if c then x else y) := by
  split <;> rfl
theorem rv_sm_cg {f g : Nat → Nat} : ∀ {n : Nat}, (∀ i, i < n → f i = g i) → rv_sm f n = rv_sm g n
  | 0, _ => rfl
  | n + 1, h => by rw [rv_sm, rv_sm, rv_sm_cg (n := n) (fun i hi => h i (by omega)), h n (by omega)]
theorem rv_mx_cg {f g : Nat → Nat} : ∀ {n : Nat}, (∀ i, i < n → f i = g i) → rv_mx f n = rv_mx g n
  | 0, _ => rfl
  | n + 1, h => by rw [rv_mx, rv_mx, rv_mx_cg (n := n) (fun i hi => h i (by omega)), h n (by omega)]
theorem rv_mn_cg {f g : Nat → Nat} : ∀ {n : Nat}, (∀ i, i < n → f i = g i) → rv_mn f n = rv_mn g n
  | 0, _ => rfl
  | n + 1, h => by rw [rv_mn, rv_mn, rv_mn_cg (n := n) (fun i hi => h i (by omega)), h n (by omega)]
theorem rv_mx_le {f : Nat → Nat} {c : Nat} : ∀ {n : Nat}, (∀ i, i < n → f i ≤ c) → rv_mx f n ≤ c
  | 0, _ => Nat.zero_le _
  | n + 1, h => by
    have h1 := rv_mx_le (n := n) (fun i hi => h i (by omega))
    have h2 := h n (by omega)
    rw [rv_mx]
    split <;> omega
theorem rv_mn_le (f : Nat → Nat) : ∀ n : Nat, rv_mn f n ≤ 255
  | 0 => Nat.le_refl _
  | n + 1 => by
    have h1 := rv_mn_le f n
    rw [rv_mn]
    split <;> omega
theorem rv_mn_mx {f : Nat → Nat} : ∀ {n : Nat}, 0 < n → (∀ i, i < n → f i ≤ 255) → rv_mn f n ≤ rv_mx f n
  | 1, _, h => by
    have := h 0 (by omega)
    simp only [rv_mn, rv_mx]
    by_cases q : f 0 ≤ 0 <;> by_cases q2 : 255 ≤ f 0 <;> simp only [q, q2, if_true, if_false] <;> omega
  | n + 2, _, h => by
    have h1 := rv_mn_mx (n := n + 1) (by omega) (fun i hi => h i (by omega))
    rw [rv_mn, rv_mx]
    split <;> split <;> omega
theorem rv_lp_cg {a b : Nat → Nat} {l : Nat} (h : ∀ j, j < 21 → b j = a j) (hl : l < 4) (t : Nat) : rv_lp b l t = rv_lp a l t := by
  unfold rv_lp
  rw [h _ (by omega), h _ (by omega), h _ (by omega), h _ (by omega)]
theorem rv_sh_cg {a b : Nat → Nat} {u v : Nat → Bool} (hc : a 16 ≤ 4) (h : ∀ j, j < 21 → b j = a j) (hu : ∀ l, l < a 16 → v l = u l) (t : Nat) : rv_sh b v t = rv_sh a u t := by
  unfold rv_sh
  rw [h 16 (by omega)]
  exact rv_sm_cg (fun l hl => by rw [hu l hl, rv_lp_cg h (by omega)])
theorem rv_br_cg {a b : Nat → Nat} {u v : Nat → Bool} (hc : a 16 ≤ 4) (h : ∀ j, j < 21 → b j = a j) (hu : ∀ l, l < a 16 → v l = u l) (t : Nat) : rv_br b v t = rv_br a u t := by
  unfold rv_br
  rw [h 19 (by omega), rv_sm_cg (fun i _ => rv_sh_cg hc h hu (t + i))]
theorem rv_rw_cg {a b : Nat → Nat} {u v : Nat → Bool} (hc : a 16 ≤ 4) (h : ∀ j, j < 21 → b j = a j) (hu : ∀ l, l < a 16 → v l = u l) (t r : Nat) : rv_rw b v t r = rv_rw a u t r := by
  unfold rv_rw
  rw [h 18 (by omega), rv_br_cg hc h hu]
theorem rv_wf_cg {a b : Nat → Nat} (h : ∀ j, j < 21 → b j = a j) (w : rv_wf a) : rv_wf b := by
  obtain ⟨h1, h2, h3, h4, h5, h6⟩ := w
  refine ⟨by rw [h 16 (by omega)]; exact h1, fun l hl => ?_, by rw [h 17 (by omega)]; exact h3, by rw [h 18 (by omega)]; exact h4, by rw [h 19 (by omega)]; exact h5, by rw [h 20 (by omega)]; exact h6⟩
  rw [h 16 (by omega)] at hl
  rw [h _ (by omega), h _ (by omega), h _ (by omega), h _ (by omega)]
  exact h2 l hl
def rv_bd (a : Nat → Nat) (u : Nat → Bool) (t : Nat) : Nat := rv_mx (rv_rw a u t) (a 17) - rv_mn (rv_rw a u t) (a 17)
def rv_ls (a : Nat → Nat) (u : Nat → Bool) (t : Nat) : Nat := rv_sm (rv_rw a u t) (a 17)
def rv_fl (a : Nat → Nat) (u : Nat → Bool) (t : Nat) : Nat := rv_sm (fun r => if rv_rw a u t r = 255 then 1 else 0) (a 17)
/-- the row behind a shot -/
def rv_nx (a : Nat → Nat) (u : Nat → Bool) : Nat → Nat := fun j => if j = 21 then a 21 + a 20 else if j = 22 then a 22 + 1 else if j = 23 then a 17 else if 24 ≤ j ∧ j < 24 + a 17 then rv_rw a u (a 21) (j - 24) else a j
def rv_nr (a : Nat → Nat) (u : Nat → Bool) (r : Nat) : Nat → Nat := fun j => if 24 ≤ j ∧ j < 24 + r then rv_rw a u (a 21) (j - 24) else a j
def rv_ag (S S2 : rs_St) : Prop := (∀ k, k ≠ 91 → k ≠ 93 → k ≠ 98 → S2.1 k = S.1 k) ∧ S2.2 = S.2
theorem rv_on_cg {S S2 : rs_St} {a b : Nat → Nat} {l : Nat} (h1 : rs_gi S2 91 13 = rs_gi S 91 13) (h2 : rs_gi S2 91 14 = rs_gi S 91 14) (h3 : b (4 * l) = a (4 * l)) : rv_on S2 b l = rv_on S a l := by
  unfold rv_on
  rw [h1, h2, h3]
/-- at the shot's row r -/
def rv_shP (S : rs_St) (a : Nat → Nat) (r : Nat) (S2 : rs_St) : Prop := rv_ag S S2 ∧ rv_nw S2 (rv_nr a (rv_on S a) r) ∧ (∀ i, i < r → rs_gi S2 98 i = nI (rv_rw a (rv_on S a) (a 21) i)) ∧ (∀ j, j ≠ 17 → j ≠ 18 → rs_gi S2 91 j = rs_gi S 91 j) ∧ rs_gi S2 91 17 = rs_gi S 91 17 + nI (rv_sm (rv_rw a (rv_on S a) (a 21)) r) ∧ rs_gi S2 91 18 = rs_gi S 91 18 + nI (rv_sm (fun r => if rv_rw a (rv_on S a) (a 21) r = 255 then 1 else 0) r)
theorem rv_shot_l {S : rs_St} {a : Nat → Nat} (w : rv_wf a) (ht : a 21 < 800000) (K : rs_St → Int32 → Int32 → Int32 → Option rs_St) : ∀ (d r fu : Nat) (S2 : rs_St), r + d = a 17 → d < fu → rv_shP S a r S2 → ∃ S3, rv_shP S a (a 17) S3 ∧ xf_X5_shotGoes_l8 K fu S2 (nI (rv_mn (rv_rw a (rv_on S a) (a 21)) r)) (nI (rv_mx (rv_rw a (rv_on S a) (a 21)) r)) (nI r) = K S3 (nI (rv_mn (rv_rw a (rv_on S a) (a 21)) (a 17))) (nI (rv_mx (rv_rw a (rv_on S a) (a 21)) (a 17))) (nI (a 17)) := by
  obtain ⟨hc, -, hR, -, -, -⟩ := id w
  intro d
  induction d with
  | zero =>
    intro r fu S2 hr hf hP
    obtain ⟨f, rfl⟩ : ∃ f, fu = f + 1 := ⟨fu - 1, by omega⟩
    have er : r = a 17 := by omega
    refine ⟨S2, by rw [← er]; exact hP, ?_⟩
    have h17 : rs_gi S2 93 17 = nI (a 17) := hP.2.1 17 (by omega)
    rw [xf_X5_shotGoes_l8, h17, rv_le (by omega) (by omega), if_pos (by omega), er]
  | succ d ih =>
    intro r fu S2 hr hf hP
    obtain ⟨f, rfl⟩ : ∃ f, fu = f + 1 := ⟨fu - 1, by omega⟩
    obtain ⟨p1, p2, p3, p4, p5, p6⟩ := id hP
    have h17 : rs_gi S2 93 17 = nI (a 17) := p2 17 (by omega)
    have hlo : ∀ j, j < 24 → rv_nr a (rv_on S a) r j = a j := fun j hj => by
      unfold rv_nr
      rw [if_neg (by omega)]
    have hrow : xf_X5_rowAt S2 (nI r) = some (nI (rv_rw a (rv_on S a) (a 21) r)) := by
      rw [rv_rowAt p2 (rv_wf_cg (fun j hj => hlo j (by omega)) w) (by rw [hlo 21 (by omega)]; exact ht) (by omega), hlo 21 (by omega)]
      rw [rv_rw_cg hc (fun j hj => hlo j (by omega)) (fun l hl => rv_on_cg (p4 13 (by omega) (by omega)) (p4 14 (by omega) (by omega)) (hlo _ (by omega)))]
    have hv : rv_rw a (rv_on S a) (a 21) r ≤ 255 := rv_br_le _ _ _
    have hmn := rv_mn_le (rv_rw a (rv_on S a) (a 21)) r
    have hmx : rv_mx (rv_rw a (rv_on S a) (a 21)) r ≤ 255 := rv_mx_le (fun _ _ => rv_br_le _ _ _)
    rw [xf_X5_shotGoes_l8, h17, rv_le (by omega) (by omega), if_neg (by omega), hrow]
    simp only [rs_b1, rs_lt, rv_jn]
    rw [rv_ckn (by omega) (by omega), rv_24, nI_add, rv_ckn (by omega) (by omega), nI_clamp (by omega), nI_clamp (by omega), rv_255]
    simp (disch := omega) only [rv_le, rv_eq, rv_flag, rv_nite]
    generalize hS4 : rs_si (rs_si (rs_si S2 98 r (nI (rv_rw a (rv_on S a) (a 21) r))) 93 (24 + r) (nI (rv_rw a (rv_on S a) (a 21) r))) 91 17 (rs_gi (rs_si (rs_si S2 98 r (nI (rv_rw a (rv_on S a) (a 21) r))) 93 (24 + r) (nI (rv_rw a (rv_on S a) (a 21) r))) 91 17 + nI (rv_rw a (rv_on S a) (a 21) r)) = S4
    have fin : ∀ (x : Nat), x = (if rv_rw a (rv_on S a) (a 21) r = 255 then 1 else 0) → ∃ S3, rv_shP S a (a 17) S3 ∧ xf_X5_shotGoes_l8 K f (rs_si S4 91 18 (rs_gi S4 91 18 + nI x)) (nI (rv_mn (rv_rw a (rv_on S a) (a 21)) (r + 1))) (nI (rv_mx (rv_rw a (rv_on S a) (a 21)) (r + 1))) (nI r + 1) = K S3 (nI (rv_mn (rv_rw a (rv_on S a) (a 21)) (a 17))) (nI (rv_mx (rv_rw a (rv_on S a) (a 21)) (a 17))) (nI (a 17)) := by
      intro x hx
      rw [nI_1]
      refine ih (r + 1) f _ (by omega) (by omega) ?_
      subst hS4
      refine ⟨⟨fun k k1 k2 k3 => ?_, p1.2⟩, fun j hj => ?_, fun i hi => ?_, fun j j1 j2 => ?_, ?_, ?_⟩
      · rw [rv_fs k1, rv_fs k1, rv_fs k2, rv_fs k3]
        exact p1.1 k k1 k2 k3
      · simp only [rv_gs]
        rw [if_neg (by omega), if_neg (by omega)]
        by_cases q : j = 24 + r
        · rw [if_pos ⟨trivial, q⟩]
          unfold rv_nr
          rw [if_pos (by omega), show j - 24 = r by omega]
        · rw [if_neg (by omega), if_neg (by omega), p2 j hj]
          unfold rv_nr
          by_cases q2 : 24 ≤ j ∧ j < 24 + r
          · rw [if_pos q2, if_pos (by omega)]
          · rw [if_neg q2, if_neg (by omega)]
      · simp only [rv_gs]
        rw [if_neg (by omega), if_neg (by omega), if_neg (by omega)]
        by_cases q : i = r
        · rw [if_pos ⟨trivial, q⟩, q]
        · rw [if_neg (by omega)]
          exact p3 i (by omega)
      · simp only [rv_gs]
        rw [if_neg (by omega), if_neg (by omega), if_neg (by omega), if_neg (by omega)]
        exact p4 j j1 j2
      · simp only [rv_gs]
        rw [if_neg (by omega), if_pos ⟨trivial, trivial⟩, if_neg (by omega), if_neg (by omega), p5, Int32.add_assoc, nI_add]
        rfl
      · simp only [rv_gs]
        rw [if_pos ⟨trivial, trivial⟩, if_neg (by omega), if_neg (by omega), if_neg (by omega), p6, Int32.add_assoc, nI_add, hx]
        rfl
    exact fin _ rfl
