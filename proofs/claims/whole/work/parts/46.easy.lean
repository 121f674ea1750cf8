/-! the small calls -/
theorem rv_b1s {α β : Type} (x : α) (f : α → Option β) : rs_b1 (some x) f = f x := rfl
theorem rv_b2s {α γ β : Type} (x : α) (y : γ) (f : α → γ → Option β) : rs_b2 (some (x, y)) f = f x y := rfl
theorem rv_lts {α β : Type} (x : α) (f : α → Option β) : rs_lt x f = f x := rfl
theorem rv_gss (S : rs_St) (k j : Nat) (v : Int32) : rs_gi (rs_si S k j v) k j = v := if_pos ⟨rfl, rfl⟩
theorem rv_gsn {S : rs_St} {k j k2 j2 : Nat} {v : Int32} (h : ¬ (k2 = k ∧ j2 = j)) : rs_gi (rs_si S k j v) k2 j2 = rs_gi S k2 j2 := if_neg h
theorem rv_fault : pt_fault rv_Inv := fun S hI => ⟨_, rfl, by rw [xf_X5_fault, hI.2.2.2.1], hI⟩
theorem rv_torn : pt_torn rv_Inv := fun S hI => ⟨_, rfl, by rw [xf_X5_torn, hI.2.2.2.2.1], hI⟩
theorem rv_end : pt_end rv_Inv := by
  intro S a1 hI
  obtain ⟨n, hn, t1, t2, t3⟩ := hI.2.2.1
  unfold xf_X4_end xf_X5_end
  rw [t1, rv_out, rv_b1s, rv_o0]
  by_cases hx : (0 : Int32) ≤ a1 ∧ a1 ≤ nI n
  · obtain ⟨v, -, hv, rfl⟩ := rv_ins (lo := 0) (by omega) hx (by omega)
    rw [if_pos hx]
    simp only [rv_lts]
    refine ⟨nI n, rs_si S 80 1 (nI v), rs_si (rs_si S 80 1 (nI v)) 91 6 (nI v), rfl, ?_, ?_⟩
    · rw [rv_gsn (by omega), t2, show xf_X5_in (rs_si S 80 1 (nI v)) (nI v).toInt64 0 (nI n).toInt64 = _ from rv_in _ (nI v) 0 (nI n), rv_b1s, rv_i0, if_pos hx]
    · obtain ⟨⟨a, ha⟩, h1, -, h3, h4, h5, h6⟩ := hI
      have hg : ∀ k j, ¬ (k = 80 ∧ j = 1) → ¬ (k = 91 ∧ j = 6) → rs_gi (rs_si (rs_si S 80 1 (nI v)) 91 6 (nI v)) k j = rs_gi S k j := fun k j q1 q2 => by rw [rv_gsn (by omega), rv_gsn (by omega)]
      have h0 : rv_oth (rs_si (rs_si S 80 1 (nI v)) 91 6 (nI v)) ∧ True := by
        refine ⟨⟨fun k hk => ?_, ⟨v, by omega, ?_, rv_gss _ _ _ _, fun i hi => ?_⟩, ?_, ?_, fun k hk => ?_, fun sc l q1 q2 => by rw [hg _ _ (by omega) (by omega)]; exact h6 sc l q1 q2⟩, trivial⟩
        · obtain ⟨i1, i2⟩ := h1 k hk
          unfold rv_img
          rw [hg _ _ (by omega) (by omega), hg _ _ (by omega) (by omega)]
          refine ⟨i1, i2.imp id (fun ⟨q1, a, w, q2, q3⟩ => ⟨q1, a, w, fun j hj => by rw [hg _ _ (by omega) (by omega)]; exact q2 j hj, rv_fsc_cg w.1.1 (fun k2 j z1 z2 => hg _ _ (by omega) (by omega)) q3⟩)⟩
        · rw [rv_gsn (by omega), rv_gss]
        · rw [hg _ _ (by omega) (by omega), hg _ _ (by omega) (by omega)]
          exact t3 i (by omega)
        · rw [hg _ _ (by omega) (by omega), hg _ _ (by omega) (by omega)]
          exact h3
        · rw [hg _ _ (by omega) (by omega), hg _ _ (by omega) (by omega)]
          exact h4
        · unfold rv_sht
          rw [hg _ _ (by omega) (by omega), hg _ _ (by omega) (by omega), hg _ _ (by omega) (by omega), hg _ _ (by omega) (by omega)]
          exact (h5 k hk).imp id (fun ⟨ln, z, q1, q2, q3, q4, q5, q6, q7⟩ => ⟨ln, z, q1, q2, q3, q4, q5, q6, fun i hi => by rw [hg _ _ (by omega) (by omega), hg _ _ (by omega) (by omega)]; exact q7 i hi⟩)
      exact ⟨⟨a, rv_now_cg (fun k j z => hg k j (by omega) (by omega)) ha⟩, h0.1⟩
  · rw [if_neg hx]
    refine ⟨_, _, _, rfl, ?_, hI⟩
    rw [t2, show xf_X5_in S a1.toInt64 0 (nI n).toInt64 = _ from rv_in _ a1 0 (nI n), rv_b1s, rv_i0, if_neg hx]
theorem rv_Inv_now {S S2 : rs_St} {a2 : Nat → Nat} (hI : rv_Inv S) (hg : ∀ k j, rv_rel k j → rs_gi S2 k j = rs_gi S k j) (hn : rv_now S2 a2) : rv_Inv S2 := ⟨⟨a2, hn⟩, rv_oth_cg hg hI.2⟩
def rv_up (a : Nat → Nat) (j v : Nat) : Nat → Nat := fun i => if i = j then v else a i
theorem rv_up_s {a : Nat → Nat} {j v : Nat} : rv_up a j v j = v := if_pos rfl
theorem rv_up_n {a : Nat → Nat} {j v i : Nat} (h : i ≠ j) : rv_up a j v i = a i := if_neg h
theorem rv_lp_up {a : Nat → Nat} {j v l : Nat} (h : 16 ≤ j) (hl : l < 4) (t : Nat) : rv_lp (rv_up a j v) l t = rv_lp a l t := by
  unfold rv_lp
  rw [rv_up_n (by omega), rv_up_n (by omega), rv_up_n (by omega), rv_up_n (by omega)]
theorem rv_gf_up {a : Nat → Nat} {j v l : Nat} (h : 16 ≤ j) (hl : l < 4) : rv_gf (rv_up a j v) l = rv_gf a l := by
  unfold rv_gf
  rw [rv_up_n (by omega), rv_up_n (by omega), rv_up_n (by omega)]
theorem rv_lm_up {S S2 : rs_St} {k : Nat} {a : Nat → Nat} {u : Nat → Bool} {j v l : Nat} (hj : 16 ≤ j) (hl : l < 4) (hg : ∀ k2 j, k2 = k + 1 ∨ k2 = k + 2 → rs_gi S2 k2 j = rs_gi S k2 j) (h : rv_lm S k a u l) : rv_lm S2 k (rv_up a j v) u l := by
  refine ⟨fun p hp => ?_, fun s hs => ?_⟩
  · rw [hg _ _ (Or.inl rfl), rv_up_n (by omega)]
    exact h.1 p hp
  · rw [rv_up_n (by omega)] at hs
    rw [hg _ _ (Or.inr rfl), rv_gf_up hj hl]
    exact h.2 s hs
theorem rv_wfup {a : Nat → Nat} {j v : Nat} (w : rv_wf a) (hj : 21 ≤ j) : rv_wf (rv_up a j v) := rv_wf_cg (fun i hi => rv_up_n (by omega)) w
theorem rv_ck1 {α : Type} {i n : Nat} {x : Option α} (h : i < n) (hn : n < 2 ^ 31) (y : Int32) (hy : y = nI i) : (if y < 0 ∨ n ≤ y.toNatClampNeg then none else x) = x := by
  rw [hy]
  exact rv_ckn h hn
theorem rv_becomes {S : rs_St} {j : Nat} (hj : j < 153) (v : Int32) : xf_X5_becomes S (nI j) v = some (rs_gi S 92 j, rs_si S 92 j v) := by
  unfold xf_X5_becomes
  rw [rv_ckn hj (by omega)]
  simp only [rv_lts]
  rw [rv_ckn hj (by omega), nI_clamp (by omega)]
theorem rv_16 : (16 : Int32) = nI 16 := rfl
theorem rv_32 : (32 : Int32) = nI 32 := rfl
theorem rv_cut : pt_cut rv_Inv := by
  intro S a1 hI
  obtain ⟨⟨a, w, hm, hf⟩, -⟩ := id hI
  obtain ⟨⟨c1, c2, c3, c4⟩, f2, f3, f4, f5, f6⟩ := id hf
  obtain ⟨⟨w1, w2, w3, w4, w5, w6⟩, x1, x2, x3, x4, x5, x6⟩ := id w
  unfold xf_X4_cut xf_X5_cut
  rw [c1, rv_out, rv_b1s, rv_o0]
  by_cases hx : (0 : Int32) ≤ a1 ∧ a1 ≤ nI (a 16)
  · obtain ⟨v, -, hv, rfl⟩ := rv_ins (lo := 0) (by omega) hx (by omega)
    rw [if_pos hx]
    simp only [rv_lts]
    refine ⟨nI (a 16), rs_si S 0 1 (nI v), rs_si (rs_si S 0 1 (nI v)) 92 16 (nI v), rfl, ?_, ?_⟩
    · rw [rv_gsn (by omega), hm 16 (by omega), show xf_X5_in (rs_si S 0 1 (nI v)) (nI v).toInt64 0 (nI (a 16)).toInt64 = _ from rv_in _ (nI v) 0 (nI (a 16)), rv_b1s, rv_i0, if_pos hx, rv_16, rv_becomes (by omega), rv_b2s, rv_gsn (by omega), hm 16 (by omega)]
    · have hg : ∀ k j, ¬ (k = 0 ∧ j = 1) → ¬ (k = 92 ∧ j = 16) → rs_gi (rs_si (rs_si S 0 1 (nI v)) 92 16 (nI v)) k j = rs_gi S k j := fun k j q1 q2 => by rw [rv_gsn (by omega), rv_gsn (by omega)]
      refine rv_Inv_now (a2 := rv_up a 16 v) hI (fun k j z => hg k j (by unfold rv_rel at z; omega) (by unfold rv_rel at z; omega)) ⟨?_, fun j hj => ?_, ?_⟩
      · refine ⟨⟨by rw [rv_up_s]; omega, fun l hl => ?_, w3, w4, w5, w6⟩, x1, x2, x3, x4, x5, fun i hi => by rw [rv_up_n (by omega), rv_up_n (by omega), rv_up_n (by omega)]; exact x6 i hi⟩
        rw [rv_up_s] at hl
        rw [rv_up_n (by omega), rv_up_n (by omega), rv_up_n (by omega), rv_up_n (by omega)]
        exact w2 l (by omega)
      · by_cases q : j = 16
        · rw [q, rv_gss, rv_up_s]
        · rw [hg _ _ (by omega) (by omega), rv_up_n q]
          exact hm j hj
      · refine ⟨⟨by rw [rv_gsn (by omega), rv_gss, rv_up_s], by rw [hg _ _ (by omega) (by omega)]; exact c2, fun j hj => by rw [hg _ _ (by omega) (by omega), rv_up_n (by omega)]; exact c3 j hj, fun l hl => ?_⟩, by rw [hg _ _ (by omega) (by omega)]; exact f2, by rw [hg _ _ (by omega) (by omega)]; exact f3, fun j hj => by rw [hg _ _ (by omega) (by omega), rv_up_n (by omega)]; exact f4 j hj, by rw [hg _ _ (by omega) (by omega)]; exact f5, fun i hi => ?_⟩
        · rw [rv_up_s] at hl
          exact rv_lm_up (by omega) (by omega) (fun k2 j z => hg _ _ (by omega) (by omega)) (c4 l (by omega))
        · rw [hg _ _ (by omega) (by omega), hg _ _ (by omega) (by omega), hg _ _ (by omega) (by omega), rv_up_n (by omega), rv_up_n (by omega), rv_up_n (by omega)]
          exact f6 i hi
  · rw [if_neg hx]
    refine ⟨_, _, _, rfl, ?_, hI⟩
    rw [hm 16 (by omega), show xf_X5_in S a1.toInt64 0 (nI (a 16)).toInt64 = _ from rv_in _ a1 0 (nI (a 16)), rv_b1s, rv_i0, if_neg hx]
theorem rv_60 : (60 : Int32) = nI 60 := rfl
theorem rv_rest : pt_rest rv_Inv := by
  intro S a1 hI
  obtain ⟨⟨a, w, hm, hf⟩, -⟩ := id hI
  obtain ⟨⟨c1, c2, c3, c4⟩, f2, f3, f4, f5, f6⟩ := id hf
  obtain ⟨⟨w1, w2, w3, w4, w5, w6⟩, x1, x2, x3, x4, x5, x6⟩ := id w
  unfold xf_X4_rest xf_X5_rest
  rw [c2, rv_out, rv_b1s, rv_o0]
  by_cases hx : (0 : Int32) ≤ a1 ∧ a1 ≤ 60
  · obtain ⟨v, -, hv, rfl⟩ := rv_ins (lo := 0) (hi := 60) (by omega) hx (by omega)
    rw [if_pos hx, nI_add, show (100000 : Int32) = nI 100000 from rfl, rv_lt (by omega) (by omega)]
    by_cases hy : a 21 + v < 100000
    · rw [if_pos hy]
      simp only [rv_lts]
      rw [rv_gss]
      refine ⟨nI (a 21 + v), rs_si S 0 3 (nI (a 21 + v)), rs_si (rs_si S 0 3 (nI (a 21 + v))) 92 21 (nI (a 21 + v)), rfl, ?_, ?_⟩
      · rw [show xf_X5_in (rs_si S 0 3 (nI (a 21 + v))) (nI v).toInt64 0 60 = _ from rv_in _ (nI v) 0 60, rv_b1s, rv_i0, if_pos hx, rv_gsn (by omega), hm 21 (by omega), nI_add, show (99999 : Int32) = nI 99999 from rfl, rv_le (by omega) (by omega), if_pos (by omega), rv_gss]
      · have hg : ∀ k j, ¬ (k = 0 ∧ j = 3) → ¬ (k = 92 ∧ j = 21) → rs_gi (rs_si (rs_si S 0 3 (nI (a 21 + v))) 92 21 (nI (a 21 + v))) k j = rs_gi S k j := fun k j q1 q2 => by rw [rv_gsn (by omega), rv_gsn (by omega)]
        refine rv_Inv_now (a2 := rv_up a 21 (a 21 + v)) hI (fun k j z => hg k j (by unfold rv_rel at z; omega) (by unfold rv_rel at z; omega)) ⟨⟨rv_wfup ⟨w1, w2, w3, w4, w5, w6⟩ (by omega), by rw [rv_up_s]; omega, by rw [rv_up_s, rv_up_n (by omega)]; omega, x3, x4, x5, fun i hi => by rw [rv_up_n (by omega), rv_up_n (by omega), rv_up_n (by omega)]; exact x6 i hi⟩, fun j hj => ?_, ?_⟩
        · by_cases q : j = 21
          · rw [q, rv_gss, rv_up_s]
          · rw [hg _ _ (by omega) (by omega), rv_up_n q]
            exact hm j hj
        · refine ⟨⟨by rw [hg _ _ (by omega) (by omega)]; exact c1, by rw [rv_gsn (by omega), rv_gss, rv_up_s], fun j hj => by rw [hg _ _ (by omega) (by omega), rv_up_n (by omega)]; exact c3 j hj, fun l (hl : l < a 16) => rv_lm_up (by omega) (by omega) (fun k2 j z => hg _ _ (by omega) (by omega)) (c4 l hl)⟩, by rw [hg _ _ (by omega) (by omega)]; exact f2, by rw [hg _ _ (by omega) (by omega)]; exact f3, fun j (hj : j < a 23) => by rw [hg _ _ (by omega) (by omega), rv_up_n (by omega)]; exact f4 j hj, by rw [hg _ _ (by omega) (by omega)]; exact f5, fun i hi => ?_⟩
          rw [hg _ _ (by omega) (by omega), hg _ _ (by omega) (by omega), hg _ _ (by omega) (by omega), rv_up_n (by omega), rv_up_n (by omega), rv_up_n (by omega)]
          exact f6 i hi
    · rw [if_neg hy]
      refine ⟨_, _, _, rfl, ?_, hI⟩
      rw [show xf_X5_in S (nI v).toInt64 0 60 = _ from rv_in _ (nI v) 0 60, rv_b1s, rv_i0, if_pos hx, hm 21 (by omega), nI_add, show (99999 : Int32) = nI 99999 from rfl, rv_le (by omega) (by omega), if_neg (by omega)]
  · rw [if_neg hx]
    refine ⟨_, _, _, rfl, ?_, hI⟩
    rw [show xf_X5_in S a1.toInt64 0 60 = _ from rv_in _ a1 0 60, rv_b1s, rv_i0, if_neg hx]
theorem rv_forget : pt_forget rv_Inv := by
  intro S a1 hI
  obtain ⟨⟨a, w, hm, hf⟩, -⟩ := id hI
  obtain ⟨⟨c1, c2, c3, c4⟩, f2, f3, f4, f5, f6⟩ := id hf
  obtain ⟨⟨w1, w2, w3, w4, w5, w6⟩, x1, x2, x3, x4, x5, x6⟩ := id w
  unfold xf_X4_forget xf_X5_forget
  rw [f5, rv_out, rv_b1s, rv_o0]
  by_cases hx : (0 : Int32) ≤ a1 ∧ a1 ≤ nI (a 32)
  · obtain ⟨v, -, hv, rfl⟩ := rv_ins (lo := 0) (by omega) hx (by omega)
    rw [if_pos hx]
    simp only [rv_lts]
    refine ⟨nI (a 32), rs_si S 0 10 (nI v), rs_si (rs_si S 0 10 (nI v)) 92 32 (nI v), rfl, ?_, ?_⟩
    · rw [rv_gsn (by omega), hm 32 (by omega), show xf_X5_in (rs_si S 0 10 (nI v)) (nI v).toInt64 0 (nI (a 32)).toInt64 = _ from rv_in _ (nI v) 0 (nI (a 32)), rv_b1s, rv_i0, if_pos hx, rv_32, rv_becomes (by omega), rv_b2s, rv_gsn (by omega), hm 32 (by omega)]
    · have hg : ∀ k j, ¬ (k = 0 ∧ j = 10) → ¬ (k = 92 ∧ j = 32) → rs_gi (rs_si (rs_si S 0 10 (nI v)) 92 32 (nI v)) k j = rs_gi S k j := fun k j q1 q2 => by rw [rv_gsn (by omega), rv_gsn (by omega)]
      refine rv_Inv_now (a2 := rv_up a 32 v) hI (fun k j z => hg k j (by unfold rv_rel at z; omega) (by unfold rv_rel at z; omega)) ⟨⟨rv_wfup ⟨w1, w2, w3, w4, w5, w6⟩ (by omega), x1, x2, x3, x4, by rw [rv_up_s]; omega, fun i hi => ?_⟩, fun j hj => ?_, ?_⟩
      · rw [rv_up_s] at hi
        rw [rv_up_n (by omega), rv_up_n (by omega), rv_up_n (by omega)]
        exact x6 i (by omega)
      · by_cases q : j = 32
        · rw [q, rv_gss, rv_up_s]
        · rw [hg _ _ (by omega) (by omega), rv_up_n q]
          exact hm j hj
      · refine ⟨⟨by rw [hg _ _ (by omega) (by omega)]; exact c1, by rw [hg _ _ (by omega) (by omega)]; exact c2, fun j hj => by rw [hg _ _ (by omega) (by omega), rv_up_n (by omega)]; exact c3 j hj, fun l (hl : l < a 16) => rv_lm_up (by omega) (by omega) (fun k2 j z => hg _ _ (by omega) (by omega)) (c4 l hl)⟩, by rw [hg _ _ (by omega) (by omega)]; exact f2, by rw [hg _ _ (by omega) (by omega)]; exact f3, fun j (hj : j < a 23) => by rw [hg _ _ (by omega) (by omega), rv_up_n (by omega)]; exact f4 j hj, by rw [rv_gsn (by omega), rv_gss, rv_up_s], fun i hi => ?_⟩
        rw [rv_up_s] at hi
        rw [hg _ _ (by omega) (by omega), hg _ _ (by omega) (by omega), hg _ _ (by omega) (by omega), rv_up_n (by omega), rv_up_n (by omega), rv_up_n (by omega)]
        exact f6 i (by omega)
  · rw [if_neg hx]
    refine ⟨_, _, _, rfl, ?_, hI⟩
    rw [hm 32 (by omega), show xf_X5_in S a1.toInt64 0 (nI (a 32)).toInt64 = _ from rv_in _ a1 0 (nI (a 32)), rv_b1s, rv_i0, if_neg hx]
theorem rv_isRow (S : rs_St) (x : Int32) : xf_X5_isRow S x = some (if (0 : Int32) ≤ x ∧ x ≤ 7 then 1 else 0) := by
  unfold xf_X5_isRow
  rw [show xf_X5_in S x.toInt64 0 7 = _ from rv_in _ x 0 7, rv_b1s, rv_in01]
theorem rv_isPt (S : rs_St) (x : Int32) : xf_X5_isPart S x = some (if (0 : Int32) ≤ x ∧ x ≤ 1 then 1 else 0) := by
  unfold xf_X5_isPart
  rw [show xf_X5_in S x.toInt64 0 1 = _ from rv_in _ x 0 1, rv_b1s, rv_in01]
theorem rv_isFar (S : rs_St) (x : Int32) : xf_X5_isFar S x = some (if (0 : Int32) ≤ x ∧ x ≤ 40 then 1 else 0) := by
  unfold xf_X5_isFar
  rw [show xf_X5_in S x.toInt64 0 40 = _ from rv_in _ x 0 40, rv_b1s, rv_in01]
theorem rv_row : pt_row rv_Inv := by
  intro S a1 hI
  obtain ⟨⟨a, w, hm, hf⟩, -⟩ := id hI
  obtain ⟨⟨c1, c2, c3, c4⟩, f2, f3, f4, f5, f6⟩ := id hf
  obtain ⟨⟨w1, w2, w3, w4, w5, w6⟩, x1, x2, x3, x4, x5, x6⟩ := id w
  unfold xf_X4_row xf_X5_row
  rw [rv_out, rv_b1s, rv_o0, rv_isRow, rv_b1s, rv_i0]
  by_cases hx : (0 : Int32) ≤ a1 ∧ a1 ≤ 7
  · obtain ⟨v, -, hv, rfl⟩ := rv_ins (lo := 0) (hi := 7) (by omega) hx (by omega)
    rw [if_pos hx, if_pos hx, f2, f3, hm 23 (by omega), rv_0, rv_eq (by omega) (by omega), rv_eq (by omega) (by omega), rv_le (by omega) (by omega), rv_le (by omega) (by omega), rv_24, nI_add]
    by_cases h0 : a 22 = 0
    · rw [if_pos h0, if_pos (x4.mp h0)]
      exact ⟨_, rfl, rfl, hI⟩
    · rw [if_neg h0, if_neg (fun z => h0 (x4.mpr z))]
      by_cases h1 : a 23 ≤ v
      · rw [if_pos h1, if_pos h1]
        exact ⟨_, rfl, rfl, hI⟩
      · rw [if_neg h1, if_neg h1, ← rv_0, rv_ckn (by omega) (by omega), rv_ckn (by omega) (by omega), nI_clamp (by omega), nI_clamp (by omega), f4 v (by omega), hm (24 + v) (by omega)]
        exact ⟨_, rfl, rfl, hI⟩
  · rw [if_neg hx, if_neg hx]
    exact ⟨_, rfl, rfl, hI⟩
