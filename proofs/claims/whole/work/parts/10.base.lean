/-! the pure state: ints by cell and place, longs by place -/
abbrev rs_St : Type := (Nat → Nat → Int32) × (Nat → Int64)
def rs_gi (S : rs_St) (k j : Nat) : Int32 := S.1 k j
def rs_si (S : rs_St) (k j : Nat) (v : Int32) : rs_St := (fun a b => if a = k ∧ b = j then v else S.1 a b, S.2)
def rs_gl (S : rs_St) (j : Nat) : Int64 := S.2 j
def rs_sl (S : rs_St) (j : Nat) (v : Int64) : rs_St := (S.1, fun b => if b = j then v else S.2 b)
def rs_sa (S : rs_St) (k : Nat) (f : Nat → Int32) : rs_St := (fun a b => if a = k then f b else S.1 a b, S.2)
abbrev rs_G : Type := va_G × (Nat → Nat) × (Nat → ClassId) × Nat × (Nat → Nat)
def rs_D0 (G : rs_G) : va_G := G.1
def rs_ad (G : rs_G) : Nat → Nat := G.2.1
def rs_cy (G : rs_G) : Nat → ClassId := G.2.2.1
def rs_s0 (G : rs_G) : Nat := G.2.2.2.1
def rs_tb (G : rs_G) : Nat → Nat := G.2.2.2.2
abbrev rs_cl : List vw_C := [(RX0, TX0, 2), (RX1, TX1, 11), (RX2, TX2, 3), (RX3, TX3, 7), (RX4, TX4, 8), (RX5, TX5, 34)]
abbrev rs_tys (G : rs_G) : List (ClassId × FieldType) := [(rs_cy G 0, .int), (rs_cy G 1, .byte), (rs_cy G 2, .boolean), (rs_cy G 3, .object RX0), (rs_cy G 4, .object RX1), (rs_cy G 5, .object RX2)]
def rs_kdL : List Nat := [1, 9, 6, 6, 6, 6, 6, 0, 6, 6, 0, 6, 6, 0, 6, 6, 0, 6, 6, 1, 9, 6, 6, 6, 6, 6, 0, 6, 6, 0, 6, 6, 0, 6, 6, 0, 6, 6, 1, 9, 6, 6, 6, 6, 6, 0, 6, 6, 0, 6, 6, 0, 6, 6, 0, 6, 6, 1, 9, 6, 6, 6, 6, 6, 0, 6, 6, 0, 6, 6, 0, 6, 6, 0, 6, 6, 4, 10, 8, 11, 3, 7, 6, 2, 6, 2, 6, 2, 6, 2, 6, 5, 6, 6, 8, 6, 8, 6, 6, 6, 6, 6, 6, 6, 6, 6]
def rs_lnL : List Nat := [0, 4, 4, 8, 6, 6, 6, 0, 4, 13, 0, 4, 13, 0, 4, 13, 0, 4, 13, 0, 4, 4, 8, 6, 6, 6, 0, 4, 13, 0, 4, 13, 0, 4, 13, 0, 4, 13, 0, 4, 4, 8, 6, 6, 6, 0, 4, 13, 0, 4, 13, 0, 4, 13, 0, 4, 13, 0, 4, 4, 8, 6, 6, 6, 0, 4, 13, 0, 4, 13, 0, 4, 13, 0, 4, 13, 0, 2, 2, 4, 0, 160, 12, 0, 40, 0, 40, 0, 40, 0, 40, 0, 153, 51, 2, 51, 4, 160, 8, 8, 168, 2016, 4, 4, 160, 51]
def rs_kd (k : Nat) : Nat := rs_kdL.getD k 99
def rs_ln (k : Nat) : Nat := rs_lnL.getD k 0
def rs_A (G : rs_G) : Nat → Prop := fun q => rs_s0 G ≤ q
abbrev rs_o0 (G : rs_G) (k : Nat) : List Value := [.ref (rs_ad G (k + 1)), .ref (rs_ad G (k + 2))]
abbrev rs_o1 (G : rs_G) (S : rs_St) (k : Nat) : List Value := [.ref (rs_ad G (k + 1)), .int (rs_gi S k 1), .ref (rs_ad G (k + 2)), .int (rs_gi S k 3), .int (rs_gi S k 4), .ref (rs_ad G (k + 3)), .int (rs_gi S k 6), .ref (rs_ad G (k + 4)), .ref (rs_ad G (k + 5)), .ref (rs_ad G (k + 6)), .int (rs_gi S k 10)]
abbrev rs_o2 (G : rs_G) (S : rs_St) (k : Nat) : List Value := [.ref (rs_ad G (k + 1)), .int (rs_gi S k 1), .int (rs_gi S k 2)]
abbrev rs_o3 (G : rs_G) (S : rs_St) (k : Nat) : List Value := [.ref (rs_ad G (k + 1)), .int (rs_gi S k 1), .int (rs_gi S k 2), .int (rs_gi S k 3), .int (rs_gi S k 4), .int (rs_gi S k 5), .int (rs_gi S k 6)]
abbrev rs_o4 (G : rs_G) (S : rs_St) (k : Nat) : List Value := [.ref (rs_ad G 0), .ref (rs_ad G 19), .ref (rs_ad G 77), .ref (rs_ad G 78), .ref (rs_ad G 79), .ref (rs_ad G 80), .ref (rs_ad G 82), .int (rs_gi S k 7)]
abbrev rs_o5 (G : rs_G) (S : rs_St) (k : Nat) : List Value := [.ref (rs_ad G 92), .ref (rs_ad G 93), .ref (rs_ad G 94), .ref (rs_ad G 95), .ref (rs_ad G 96), .ref (rs_ad G 97), .int (rs_gi S k 6), .int (rs_gi S k 7), .int (rs_gi S k 8), .int (rs_gi S k 9), .int (rs_gi S k 10), .int (rs_gi S k 11), .int (rs_gi S k 12), .int (rs_gi S k 13), .int (rs_gi S k 14), .int (rs_gi S k 15), .int (rs_gi S k 16), .int (rs_gi S k 17), .int (rs_gi S k 18), .int (rs_gi S k 19), .ref (rs_ad G 98), .ref (rs_ad G 99), .int (rs_gi S k 22), .int (rs_gi S k 23), .long (rs_gl S 24), .long (rs_gl S 25), .long (rs_gl S 26), .ref (rs_ad G 100), .ref (rs_ad G 101), .ref (rs_ad G 102), .ref (rs_ad G 103), .ref (rs_ad G 104), .int (rs_gi S k 32), .ref (rs_ad G 105)]
def rs_ee (G : rs_G) (S : rs_St) (k : Nat) : va_E :=
  if rs_kd k = 0 then .inr (0, rs_o0 G k) else if rs_kd k = 1 then .inr (1, rs_o1 G S k) else if rs_kd k = 2 then .inr (2, rs_o2 G S k) else if rs_kd k = 3 then .inr (3, rs_o3 G S k) else if rs_kd k = 4 then .inr (4, rs_o4 G S k) else if rs_kd k = 5 then .inr (5, rs_o5 G S k)
  else if rs_kd k = 6 then .inl (rs_cy G 0, rs_ln k, .inl (S.1 k)) else if rs_kd k = 7 then .inl (rs_cy G 1, rs_ln k, .inl (S.1 k)) else if rs_kd k = 8 then .inl (rs_cy G 2, rs_ln k, .inl (S.1 k))
  else if rs_kd k = 9 then .inl (rs_cy G 3, 4, .inr (.inr (.inr (.inr (fun j => some (rs_ad G (k + 6 + 3 * j))))))) else if rs_kd k = 10 then .inl (rs_cy G 4, 2, .inr (.inr (.inr (.inr (fun j => some (rs_ad G (38 + 19 * j)))))))
  else .inl (rs_cy G 5, 4, .inr (.inr (.inr (.inr (fun j => some (rs_ad G (83 + 2 * j)))))))
def rs_ww (G : rs_G) (S : rs_St) : va_W := (List.range 106).map (fun k => (rs_ad G k, rs_ee G S k))
theorem rs_kd_lt {k n : Nat} (h : rs_kd k = n) (hn : n ≠ 99) : k < 106 := by
  rcases Nat.lt_or_ge k 106 with q | q
  · exact q
  · have : rs_kd k = 99 := by
      unfold rs_kd
      rw [List.getD_eq_getElem?_getD, List.getElem?_eq_none (by show 106 ≤ k; exact q)]
      rfl
    omega
theorem rs_ww_get (G : rs_G) (S : rs_St) {k : Nat} (h : k < 106) : (rs_ww G S)[k]? = some (rs_ad G k, rs_ee G S k) := by
  unfold rs_ww
  rw [List.getElem?_map, List.getElem?_range h]
  rfl
theorem rs_ww_set (G : rs_G) (S S' : rs_St) {k : Nat} (h : k < 106) (e : va_E) (he : rs_ee G S' k = e) (ho : ∀ j, j ≠ k → rs_ee G S' j = rs_ee G S j) : (rs_ww G S).set k (rs_ad G k, e) = rs_ww G S' := by
  apply List.ext_getElem?
  intro j
  rcases Nat.lt_or_ge j 106 with q | q
  · rw [rs_ww_get G S' q]
    by_cases hj : k = j
    · subst hj
      rw [List.getElem?_set_self (by unfold rs_ww; rw [List.length_map, List.length_range]; exact h), he]
    · rw [List.getElem?_set_ne hj, rs_ww_get G S q, ho j (fun z => hj z.symm)]
  · rw [List.getElem?_eq_none (by rw [List.length_set]; unfold rs_ww; rw [List.length_map, List.length_range]; exact q), List.getElem?_eq_none (by unfold rs_ww; rw [List.length_map, List.length_range]; exact q)]
theorem rs_gi_si_ne {S : rs_St} {a k j x : Nat} {v : Int32} (h : a ≠ k) : rs_gi (rs_si S k j v) a x = rs_gi S a x := by
  show (if a = k ∧ x = j then v else S.1 a x) = S.1 a x
  rw [if_neg (fun z => h z.1)]
theorem rs_ee_si {G : rs_G} {S : rs_St} {k j : Nat} {v : Int32} (a : Nat) (h : a ≠ k) : rs_ee G (rs_si S k j v) a = rs_ee G S a := by
  have e : (rs_si S k j v).1 a = S.1 a := by
    funext x
    exact rs_gi_si_ne h
  unfold rs_ee rs_o1 rs_o2 rs_o3 rs_o4 rs_o5
  simp only [rs_gi_si_ne h, e]
  rfl
theorem rs_ee_sl {G : rs_G} {S : rs_St} {j : Nat} {v : Int64} (a : Nat) (h : rs_kd a ≠ 5) : rs_ee G (rs_sl S j v) a = rs_ee G S a := by
  unfold rs_ee
  rw [if_neg h, if_neg h]
  rfl
theorem rs_ee_sa {G : rs_G} {S : rs_St} {k : Nat} {f : Nat → Int32} (a : Nat) (h : a ≠ k) : rs_ee G (rs_sa S k f) a = rs_ee G S a := by
  have e : (rs_sa S k f).1 a = S.1 a := by
    funext x
    show (if a = k then f x else S.1 a x) = S.1 a x
    rw [if_neg h]
  have e2 : ∀ x, rs_gi (rs_sa S k f) a x = rs_gi S a x := fun x => congrFun e x
  unfold rs_ee rs_o1 rs_o2 rs_o3 rs_o4 rs_o5
  simp only [e2, e]
  rfl
theorem rs_si_arr (S : rs_St) (k j : Nat) (v : Int32) : (rs_si S k j v).1 k = upd (S.1 k) j v := by
  funext b
  show (if k = k ∧ b = j then v else S.1 k b) = if b = j then v else S.1 k b
  by_cases h : b = j
  · rw [if_pos ⟨rfl, h⟩, if_pos h]
  · rw [if_neg (fun z => h z.2), if_neg h]
theorem rs_sa_arr (S : rs_St) (k : Nat) (f : Nat → Int32) : (rs_sa S k f).1 k = f := by
  funext b
  show (if k = k then f b else S.1 k b) = f b
  rw [if_pos rfl]
def rs_ok (G : rs_G) : Prop := (∀ i j, i < 106 → j < 106 → rs_ad G i = rs_ad G j → i = j) ∧ ∀ i, i < 106 → rs_s0 G ≤ rs_ad G i
theorem rs_lt_of_get {G : rs_G} {S : rs_St} {k : Nat} {q : Nat × va_E} (h : (rs_ww G S)[k]? = some q) : k < 106 ∧ q = (rs_ad G k, rs_ee G S k) := by
  rcases Nat.lt_or_ge k 106 with z | z
  · rw [rs_ww_get G S z] at h
    exact ⟨z, (Option.some.inj h).symm⟩
  · rw [List.getElem?_eq_none (by unfold rs_ww; rw [List.length_map, List.length_range]; exact z)] at h
    cases h
theorem rs_va_D {G : rs_G} (hG : rs_ok G) (S : rs_St) : va_D (rs_A G) (rs_ww G S) := by
  refine ⟨fun i j p q hi hj e => ?_, fun k q hk => ?_⟩
  · obtain ⟨a1, rfl⟩ := rs_lt_of_get hi
    obtain ⟨b1, rfl⟩ := rs_lt_of_get hj
    exact hG.1 i j a1 b1 e
  · obtain ⟨a1, rfl⟩ := rs_lt_of_get hk
    exact hG.2 k a1
theorem rs_e0 {G : rs_G} {S : rs_St} {k : Nat} (h : rs_kd k = 0) : rs_ee G S k = .inr (0, rs_o0 G k) := by
  unfold rs_ee
  simp only [h]
  rfl
theorem rs_e1 {G : rs_G} {S : rs_St} {k : Nat} (h : rs_kd k = 1) : rs_ee G S k = .inr (1, rs_o1 G S k) := by
  unfold rs_ee
  simp only [h]
  rfl
theorem rs_e2 {G : rs_G} {S : rs_St} {k : Nat} (h : rs_kd k = 2) : rs_ee G S k = .inr (2, rs_o2 G S k) := by
  unfold rs_ee
  simp only [h]
  rfl
theorem rs_e3 {G : rs_G} {S : rs_St} {k : Nat} (h : rs_kd k = 3) : rs_ee G S k = .inr (3, rs_o3 G S k) := by
  unfold rs_ee
  simp only [h]
  rfl
theorem rs_e4 {G : rs_G} {S : rs_St} {k : Nat} (h : rs_kd k = 4) : rs_ee G S k = .inr (4, rs_o4 G S k) := by
  unfold rs_ee
  simp only [h]
  rfl
theorem rs_e5 {G : rs_G} {S : rs_St} {k : Nat} (h : rs_kd k = 5) : rs_ee G S k = .inr (5, rs_o5 G S k) := by
  unfold rs_ee
  simp only [h]
  rfl
theorem rs_e6 {G : rs_G} {S : rs_St} {k : Nat} (h : rs_kd k = 6) : rs_ee G S k = .inl (rs_cy G 0, rs_ln k, .inl (S.1 k)) := by
  unfold rs_ee
  simp only [h]
  rfl
theorem rs_e7 {G : rs_G} {S : rs_St} {k : Nat} (h : rs_kd k = 7) : rs_ee G S k = .inl (rs_cy G 1, rs_ln k, .inl (S.1 k)) := by
  unfold rs_ee
  simp only [h]
  rfl
theorem rs_e8 {G : rs_G} {S : rs_St} {k : Nat} (h : rs_kd k = 8) : rs_ee G S k = .inl (rs_cy G 2, rs_ln k, .inl (S.1 k)) := by
  unfold rs_ee
  simp only [h]
  rfl
theorem rs_e9 {G : rs_G} {S : rs_St} {k : Nat} (h : rs_kd k = 9) : rs_ee G S k = .inl (rs_cy G 3, 4, .inr (.inr (.inr (.inr (fun j => some (rs_ad G (k + 6 + 3 * j))))))) := by
  unfold rs_ee
  simp only [h]
  rfl
theorem rs_e10 {G : rs_G} {S : rs_St} {k : Nat} (h : rs_kd k = 10) : rs_ee G S k = .inl (rs_cy G 4, 2, .inr (.inr (.inr (.inr (fun j => some (rs_ad G (38 + 19 * j))))))) := by
  unfold rs_ee
  simp only [h]
  rfl
theorem rs_e11 {G : rs_G} {S : rs_St} {k : Nat} (h : rs_kd k = 11) : rs_ee G S k = .inl (rs_cy G 5, 4, .inr (.inr (.inr (.inr (fun j => some (rs_ad G (83 + 2 * j))))))) := by
  unfold rs_ee
  simp only [h]
  rfl
theorem rs_k0 : ∀ k, k < 106 → rs_kd k = 0 → rs_kd (k + 1) = 6 ∧ rs_kd (k + 2) = 6 ∧ rs_ln (k + 1) = 4 ∧ rs_ln (k + 2) = 13 := by decide +kernel
theorem rs_k1 : ∀ k, k < 106 → rs_kd k = 1 → rs_kd (k + 1) = 9 ∧ rs_kd (k + 2) = 6 ∧ rs_kd (k + 3) = 6 ∧ rs_kd (k + 4) = 6 ∧ rs_kd (k + 5) = 6 ∧ rs_kd (k + 6) = 6 := by decide +kernel
theorem rs_k2 : ∀ k, k < 106 → rs_kd k = 2 → rs_kd (k + 1) = 6 ∧ rs_ln (k + 1) = 40 := by decide +kernel
theorem rs_k9 : ∀ k, k < 106 → rs_kd k = 9 → ∀ j, j < 4 → rs_kd (k + 6 + 3 * j) = 0 := by decide +kernel
theorem rs_k10 : ∀ j, j < 2 → rs_kd (38 + 19 * j) = 1 := by decide +kernel
theorem rs_k11 : ∀ j, j < 4 → rs_kd (83 + 2 * j) = 2 := by decide +kernel
theorem rs_k0a {k : Nat} (h : rs_kd k = 0) : rs_kd (k + 1) = 6 := (rs_k0 k (rs_kd_lt h (by decide)) h).1
theorem rs_k0b {k : Nat} (h : rs_kd k = 0) : rs_kd (k + 2) = 6 := (rs_k0 k (rs_kd_lt h (by decide)) h).2.1
theorem rs_k1a {k : Nat} (h : rs_kd k = 1) : rs_kd (k + 1) = 9 := (rs_k1 k (rs_kd_lt h (by decide)) h).1
theorem rs_k1b {k : Nat} (h : rs_kd k = 1) : rs_kd (k + 2) = 6 := (rs_k1 k (rs_kd_lt h (by decide)) h).2.1
theorem rs_k1c {k : Nat} (h : rs_kd k = 1) : rs_kd (k + 3) = 6 := (rs_k1 k (rs_kd_lt h (by decide)) h).2.2.1
theorem rs_k1d {k : Nat} (h : rs_kd k = 1) : rs_kd (k + 4) = 6 := (rs_k1 k (rs_kd_lt h (by decide)) h).2.2.2.1
theorem rs_k1e {k : Nat} (h : rs_kd k = 1) : rs_kd (k + 5) = 6 := (rs_k1 k (rs_kd_lt h (by decide)) h).2.2.2.2.1
theorem rs_k1f {k : Nat} (h : rs_kd k = 1) : rs_kd (k + 6) = 6 := (rs_k1 k (rs_kd_lt h (by decide)) h).2.2.2.2.2
theorem rs_k2a {k : Nat} (h : rs_kd k = 2) : rs_kd (k + 1) = 6 := (rs_k2 k (rs_kd_lt h (by decide)) h).1
