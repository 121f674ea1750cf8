/-! again, shoot -/
theorem rv_go_re {S S4 S5 : rs_St} {a : Nat → Nat} {u : Nat → Bool} {i : Nat} (h : rv_goP S a u i S4) (hg : ∀ k j, k = 91 ∨ k = 93 ∨ k = 98 → rs_gi S5 k j = rs_gi S4 k j) : rv_goP S5 a u i S5 := by
  obtain ⟨p1, p2, p3, p4, p5, p6, p7, p8, p9⟩ := h
  refine ⟨⟨fun _ _ _ _ => rfl, rfl⟩, fun j hj => by rw [hg _ _ (by omega)]; exact p2 j hj, fun h r hr => by rw [hg _ _ (by omega)]; exact p3 h r hr, fun _ _ => rfl, fun h => by rw [hg _ _ (by omega)]; exact p5 h, by rw [hg _ _ (by omega)]; exact p6, by rw [hg _ _ (by omega)]; exact p7, by rw [hg _ _ (by omega)]; exact p8, by rw [hg _ _ (by omega)]; exact p9⟩
theorem rv_ag55 {S : rs_St} {a : Nat → Nat} {f g : Nat → Nat} (hR : a 17 ≤ 8) (h17 : rs_gi S 93 17 = nI (a 17)) (hf : ∀ r, r < a 17 → rs_gi S 98 r = nI (f r)) (hg : ∀ r, r < a 17 → rs_gi S 99 r = nI (g r)) (bf : ∀ r, f r ≤ 255) (bg : ∀ r, g r ≤ 255) (K : Int32 → Int32 → Option (Int32 × rs_St)) : ∀ (d i fu : Nat) (c : Bool), i + d = a 17 → d < fu → ∃ b : Bool, (b = true ↔ c = true ∧ ∀ r, i ≤ r → r < a 17 → f r = g r) ∧ xf_X5_again_l55 S K fu (if c then 1 else 0) (nI i) = K (if b then 1 else 0) (nI (a 17)) := by
  intro d
  induction d with
  | zero =>
    intro i fu c hi hfu
    obtain ⟨f, rfl⟩ : ∃ f, fu = f + 1 := ⟨fu - 1, by omega⟩
    refine ⟨c, ⟨fun h => ⟨h, fun r h1 h2 => by omega⟩, fun h => h.1⟩, ?_⟩
    rw [xf_X5_again_l55, h17, rv_le (by omega) (by omega), if_pos (by omega), show i = a 17 by omega]
  | succ d ih =>
    intro i fu c hi hfu
    obtain ⟨f', rfl⟩ : ∃ f, fu = f + 1 := ⟨fu - 1, by omega⟩
    have b1 := bf i
    have b2 := bg i
    rw [xf_X5_again_l55, h17, rv_le (by omega) (by omega), if_neg (by omega)]
    simp only [rs_jn, rs_lt]
    cases c with
    | false =>
      obtain ⟨b, h1, h2⟩ := ih (i + 1) f' false (by omega) (by omega)
      refine ⟨b, ⟨fun h => absurd (h1.mp h).1 (by decide), fun h => absurd h.1 (by decide)⟩, ?_⟩
      rw [if_neg (show ¬ false = true by decide), if_pos rfl, nI_1]
      exact h2
    | true =>
      rw [if_pos rfl, if_neg (show ¬ (1 : Int32) = 0 by decide), rv_ckn (by omega) (by omega), rv_ckn (by omega) (by omega), nI_clamp (by omega), hf i (by omega), hg i (by omega), rv_eq (by omega) (by omega), nI_1]
      by_cases q : f i = g i
      · obtain ⟨b, h1, h2⟩ := ih (i + 1) f' true (by omega) (by omega)
        refine ⟨b, h1.trans ⟨fun h => ⟨rfl, fun r r1 r2 => ?_⟩, fun h => ⟨rfl, fun r r1 r2 => h.2 r (by omega) r2⟩⟩, ?_⟩
        · by_cases z : r = i
          · rw [z]
            exact q
          · exact h.2 r (by omega) r2
        · rw [if_pos q]
          exact h2
      · obtain ⟨b, h1, h2⟩ := ih (i + 1) f' false (by omega) (by omega)
        refine ⟨b, ⟨fun h => absurd (h1.mp h).1 (by decide), fun h => absurd (h.2 i (by omega) (by omega)) q⟩, ?_⟩
        rw [if_neg q]
        exact h2
theorem rv_ag10 {S : rs_St} {a : Nat → Nat} (hR : a 17 ≤ 8) (h17 : rs_gi S 93 17 = nI (a 17)) (K : rs_St → Int32 → Option (Int32 × rs_St)) : ∀ (d i fu : Nat) (S1 : rs_St), i + d = a 17 → d < fu → (∀ k, k ≠ 99 → S1.1 k = S.1 k) ∧ S1.2 = S.2 ∧ (∀ r, r < i → rs_gi S1 99 r = rs_gi S 98 r) → ∃ S2, xf_X5_again_l10 K fu S1 (nI i) = K S2 (nI (a 17)) ∧ (∀ k, k ≠ 99 → S2.1 k = S.1 k) ∧ S2.2 = S.2 ∧ (∀ r, r < a 17 → rs_gi S2 99 r = rs_gi S 98 r) := by
  intro d
  induction d with
  | zero =>
    intro i fu S1 hi hfu h
    obtain ⟨f, rfl⟩ : ∃ f, fu = f + 1 := ⟨fu - 1, by omega⟩
    refine ⟨S1, ?_, h.1, h.2.1, fun r hr => h.2.2 r (by omega)⟩
    rw [xf_X5_again_l10, show rs_gi S1 93 17 = nI (a 17) from (congrFun (h.1 93 (by omega)) 17).trans h17, rv_le (by omega) (by omega), if_pos (by omega), show i = a 17 by omega]
  | succ d ih =>
    intro i fu S1 hi hfu h
    obtain ⟨f, rfl⟩ : ∃ f, fu = f + 1 := ⟨fu - 1, by omega⟩
    have e98 : ∀ r, rs_gi S1 98 r = rs_gi S 98 r := fun r => congrFun (h.1 98 (by omega)) r
    rw [xf_X5_again_l10, show rs_gi S1 93 17 = nI (a 17) from (congrFun (h.1 93 (by omega)) 17).trans h17, rv_le (by omega) (by omega), if_neg (by omega), rv_ckn (by omega) (by omega), rv_ckn (by omega) (by omega), nI_clamp (by omega), e98, nI_1]
    simp only [rs_lt]
    refine ih (i + 1) f _ (by omega) (by omega) ⟨fun k hk => (rv_fs hk).trans (h.1 k hk), h.2.1, fun r hr => ?_⟩
    by_cases q : r = i
    · rw [q, rv_gss]
    · rw [rv_gsn (by omega)]
      exact h.2.2 r (by omega)
theorem rv_ag_l {S S2 : rs_St} {a : Nat → Nat} (w : rv_wf2 a) (hf : rv_fsc S 0 a) (u2 : ∀ l, l < a 16 → rv_on S2 a l = rv_uu l) (h99 : ∀ r, r < a 17 → rs_gi S2 99 r = nI (rv_rw a rv_uu (rv_T a 0) r)) : ∀ (d i fu : Nat) (S3 : rs_St), i + d = 41 → d < fu → rv_goP S2 a rv_uu i S3 → ∃ r S4 j, xf_X4_again_l2 S (fun _ => some (-4)) fu (nI i) = some r ∧ xf_X5_again_l41 (fun S33 _ => some (-4, S33)) fu S3 (nI i) = some (r, S4) ∧ rv_goP S2 a rv_uu j S4 := by
  have ht := w.2.1
  obtain ⟨-, -, hR, -, -, hp⟩ := id w.1
  intro d
  induction d with
  | zero =>
    intro i fu S3 hi hfu hP
    obtain ⟨f, rfl⟩ : ∃ f, fu = f + 1 := ⟨fu - 1, by omega⟩
    refine ⟨-4, S3, i, ?_, ?_, hP⟩
    · rw [xf_X4_again_l2, rv_40, rv_lt (by omega) (by omega), if_pos (by omega)]
    · rw [xf_X5_again_l41, rv_40, rv_lt (by omega) (by omega), if_pos (by omega)]
  | succ d ih =>
    intro i fu S3 hi hfu hP
    obtain ⟨f, rfl⟩ : ∃ f, fu = f + 1 := ⟨fu - 1, by omega⟩
    have hmm : i * a 20 ≤ 41 * 60 := Nat.mul_le_mul (by omega) hp.2
    obtain ⟨S5, e5, g5⟩ := rv_go1 w.1 u2 (by unfold rv_T; omega) hP
    obtain ⟨b, hb, eb⟩ := rv_clike w.1 hf.1 ht (n := i) (by omega)
    obtain ⟨b2, hb2, eb2⟩ := rv_ag55 (S := S5) (a := a) (f := rv_rw a rv_uu (rv_T a i)) (g := rv_rw a rv_uu (rv_T a 0)) hR.2 (by rw [g5.2.1 17 (by omega), rv_as_lo (by omega)]) (fun r hr => by rw [g5.2.2.1 (by omega) r hr]; rfl) (fun r hr => (congrFun (g5.1.1 99 (by omega) (by omega) (by omega)) r).trans (h99 r hr)) (fun r => rv_br_le _ _ _) (fun r => rv_br_le _ _ _) (fun x29 x30 => if x29 = 0 then rs_lt (nI i + 1) (fun x32 => xf_X5_again_l41 (fun S33 _ => some (-4, S33)) f S5 x32) else some (nI i, S5)) (a 17) 0 rs_fu true (by omega) (by unfold rs_fu; omega)
    have ebb : b2 = b := by
      cases b with
      | true => exact hb2.mpr ⟨rfl, fun r _ hr => hb.mp rfl r hr⟩
      | false =>
        cases b2 with
        | false => rfl
        | true => exact absurd (hb.mpr (fun r hr => (hb2.mp rfl).2 r (by omega) hr)) (by decide)
    have e2 : xf_X5_again_l41 (fun S33 _ => some (-4, S33)) (f + 1) S3 (nI i) = if (if b then (1 : Int32) else 0) = 0 then xf_X5_again_l41 (fun S33 _ => some (-4, S33)) f S5 (nI (i + 1)) else some (nI i, S5) := by
      rw [xf_X5_again_l41, rv_40, rv_lt (by omega) (by omega), if_neg (by omega), e5, rv_b1s]
      refine eb2.trans ?_
      rw [ebb]
      simp only [rs_lt, nI_1]
    cases b with
    | true =>
      refine ⟨nI i, S5, i + 1, ?_, ?_, g5⟩
      · rw [xf_X4_again_l2, rv_40, rv_lt (by omega) (by omega), if_neg (by omega), eb, rv_b1s]
        rfl
      · rw [e2]
        rfl
    | false =>
      obtain ⟨r, S4, j, q1, q2, q3⟩ := ih (i + 1) f S5 (by omega) (by omega) g5
      refine ⟨r, S4, j, ?_, ?_, q3⟩
      · rw [xf_X4_again_l2, rv_40, rv_lt (by omega) (by omega), if_neg (by omega), eb, rv_b1s]
        simp only [rs_lt, nI_1]
        exact q1
      · rw [e2]
        exact q2
theorem rv_again : pt_again rv_Inv := by
  intro S hI
  obtain ⟨⟨a, hn⟩, -⟩ := id hI
  obtain ⟨w, hm, hf⟩ := id hn
  have ht := w.2.1
  have hR := w.1.2.2.1
  obtain ⟨S2, e2, h2, g2, u2, i2⟩ := rv_ready hI hn
  obtain ⟨S4, e4, g4⟩ := rv_go1 w.1 u2 (by unfold rv_T; omega) g2
  have i4 := rv_go_inv g4 i2
  obtain ⟨S5, e5, f5, f6, f7⟩ := rv_ag10 (S := S4) (a := a) hR.2 (by rw [g4.2.1 17 (by omega), rv_as_lo (by omega)]) (fun S12 _ => xf_X5_again_l41 (fun S33 _ => some (-4, S33)) rs_fu S12 1) (a 17) 0 rs_fu S4 (by omega) (by unfold rs_fu; omega) ⟨fun _ _ => rfl, rfl, fun r hr => by omega⟩
  have g5 : rv_goP S5 a rv_uu 1 S5 := rv_go_re g4 (fun k j hk => congrFun (f5 k (by omega)) j)
  have i5 : rv_Inv S5 := rv_Inv_cg (fun k j z => congrFun (f5 k (by unfold rv_rel at z; omega)) j) i4
  obtain ⟨r, S6, j, q1, q2, q3⟩ := rv_ag_l (S := S) (S2 := S5) w hf (fun l hl => by
    rw [← u2 l hl]
    refine rv_on_cg ?_ ?_ rfl
    · exact (congrFun (f5 91 (by omega)) 13).trans (g4.2.2.2.1 13 (by omega))
    · exact (congrFun (f5 91 (by omega)) 14).trans (g4.2.2.2.1 14 (by omega))) (fun r hr => by
    rw [f7 r hr, g4.2.2.1 (by omega) r hr]) 40 1 rs_fu S5 (by omega) (by unfold rs_fu; omega) g5
  refine ⟨r, S6, q1, ?_, rv_go_inv q3 i5⟩
  unfold xf_X5_again
  rw [e2, rv_b1s, e4, rv_b1s]
  exact e5.trans q2
theorem rv_take_l {S : rs_St} {a : Nat → Nat} {n : Nat} (w : rv_wf a) (h : rv_sc S 0 a rv_uu) (ht : a 21 ≤ 99999) (h1 : 1 ≤ n) (hn : n ≤ 40) (K : rs_St → Int32 → Option rs_St) : ∀ (d i fu : Nat) (S1 : rs_St), i + d = a 17 → d < fu → (∀ k j, ¬ (k = 0 ∧ j = 6) → k ≠ 3 → rs_gi S1 k j = rs_gi S k j) ∧ S1.2 = S.2 ∧ rs_gi S1 0 6 = nI (a 17) ∧ (∀ r, r < i → rs_gi S1 3 r = nI (rv_rw a rv_uu (rv_T a (n - 1)) r)) → ∃ S2, xf_X1_take_l18 0 (nI n) K fu S1 (nI i) = K S2 (nI (a 17)) ∧ (∀ k j, ¬ (k = 0 ∧ j = 6) → k ≠ 3 → rs_gi S2 k j = rs_gi S k j) ∧ S2.2 = S.2 ∧ rs_gi S2 0 6 = nI (a 17) ∧ (∀ r, r < a 17 → rs_gi S2 3 r = nI (rv_rw a rv_uu (rv_T a (n - 1)) r)) := by
  obtain ⟨hc, -, hR, -, -, hp⟩ := id w
  intro d
  induction d with
  | zero =>
    intro i fu S1 hi hfu h
    obtain ⟨f, rfl⟩ : ∃ f, fu = f + 1 := ⟨fu - 1, by omega⟩
    refine ⟨S1, ?_, h.1, h.2.1, h.2.2.1, fun r hr => h.2.2.2 r (by omega)⟩
    rw [xf_X1_take_l18, h.2.2.1, rv_le (by omega) (by omega), if_pos (by omega), show i = a 17 by omega]
  | succ d ih =>
    intro i fu S1 hi hfu q
    obtain ⟨f, rfl⟩ : ∃ f, fu = f + 1 := ⟨fu - 1, by omega⟩
    have hs : rv_sc S1 0 a rv_uu := by
      obtain ⟨c1, c2, c3, c4⟩ := h
      exact ⟨by rw [q.1 _ _ (by omega) (by omega)]; exact c1, by rw [q.1 _ _ (by omega) (by omega)]; exact c2, fun j hj => by rw [q.1 _ _ (by omega) (by omega)]; exact c3 j hj, fun l hl => rv_lm_cg (fun k2 j z => q.1 _ _ (by omega) (by omega)) (fun _ _ => rfl) rfl (c4 l hl)⟩
    rw [xf_X1_take_l18, q.2.2.1, rv_le (by omega) (by omega), if_neg (by omega), rv_1, pk_sub h1, rv_cbright w hs ht (by omega) (by omega), rv_b1s, rv_ckn (by omega) (by omega), nI_clamp (by omega), nI_add]
    simp only [rs_lt]
    refine ih (i + 1) f _ (by omega) (by omega) ⟨fun k j z1 z2 => ?_, q.2.1, ?_, fun r hr => ?_⟩
    · rw [rv_gsn (by omega)]
      exact q.1 k j z1 z2
    · rw [rv_gsn (by omega)]
      exact q.2.2.1
    · by_cases z : r = i
      · rw [z]
        exact rv_gss _ _ _ _
      · rw [rv_gsn (by omega)]
        exact q.2.2.2 r (by omega)
theorem rv_set_l (S : rs_St) (K : rs_St → Int32 → Option rs_St) : ∀ (d i fu : Nat) (S2 : rs_St), i + d = 51 → d < fu → ((∀ k j, ¬ (k = 92 ∧ j < 51) → rs_gi S2 k j = rs_gi S k j) ∧ S2.2 = S.2 ∧ ∀ j, j < i → rs_gi S2 92 j = rs_gi S 93 j) → ∃ S3, xf_X5_settles_l2 K fu S2 (nI i) = K S3 (nI 51) ∧ (∀ k j, ¬ (k = 92 ∧ j < 51) → rs_gi S3 k j = rs_gi S k j) ∧ S3.2 = S.2 ∧ ∀ j, j < 51 → rs_gi S3 92 j = rs_gi S 93 j := by
  intro d
  induction d with
  | zero =>
    intro i fu S2 hi hf h
    obtain ⟨f, rfl⟩ : ∃ f, fu = f + 1 := ⟨fu - 1, by omega⟩
    obtain rfl : i = 51 := by omega
    refine ⟨S2, ?_, h⟩
    rw [xf_X5_settles_l2, rv_51, rv_le (by omega) (by omega), if_pos (by omega)]
  | succ d ih =>
    intro i fu S2 hi hf h
    obtain ⟨f, rfl⟩ : ∃ f, fu = f + 1 := ⟨fu - 1, by omega⟩
    rw [xf_X5_settles_l2, rv_51, rv_le (by omega) (by omega), if_neg (by omega), rv_ckn (by omega) (by omega), rv_ckn (by omega) (by omega), nI_clamp (by omega), nI_1]
    simp only [rs_lt]
    refine ih (i + 1) f _ (by omega) (by omega) ⟨fun k j hk => ?_, h.2.1, fun j hj => ?_⟩
    · rw [rv_gsn (by omega)]
      exact h.1 k j hk
    · by_cases q : j = i
      · rw [q, rv_gss]
        exact h.1 93 i (by omega)
      · rw [rv_gsn (by omega)]
        exact h.2.2 j (by omega)
theorem rv_settles (S : rs_St) : ∃ S3, xf_X5_settles S = some S3 ∧ (∀ k j, ¬ (k = 92 ∧ j < 51) → rs_gi S3 k j = rs_gi S k j) ∧ S3.2 = S.2 ∧ ∀ j, j < 51 → rs_gi S3 92 j = rs_gi S 93 j :=
  rv_set_l S (fun S8 _ => some S8) 51 0 rs_fu S (by omega) (by unfold rs_fu; omega) ⟨fun _ _ _ => rfl, rfl, fun j hj => by omega⟩
