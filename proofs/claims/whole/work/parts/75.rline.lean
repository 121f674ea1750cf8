/-! the reference: numbers, lines -/
def tq_rR (S : rs_St) (e : Nat × Nat) : Prop := rs_gi S 91 11 = nI e.1 ∧ rs_gi S 91 12 = nI e.2 ∧ 1 ≤ e.1 ∧ e.1 ≤ 5 ∧ e.2 ≤ 160
theorem tq_rRn {S : rs_St} {e : Nat × Nat} (h : tq_rR S e) : ¬ rs_gi S 91 11 = 0 := fun z => by
  have := (nI_eq (show e.1 < 2 ^ 31 by have := h.2.2.2.1; omega) (by omega)).mp (h.1.symm.trans (z.trans rv_0))
  have := h.2.2.1
  omega
theorem tq_rRp {S : rs_St} {e : Nat × Nat} (h : tq_rR S e) : ¬ rs_gi S 91 11 ≤ 0 := fun z => by
  rw [h.1, rv_0] at z
  have := (nI_leI (show e.1 < 2 ^ 31 by have := h.2.2.2.1; omega) (by omega)).mp z
  have := h.2.2.1
  omega
theorem tq_readsE {S : rs_St} {e : Nat × Nat} (h : tq_rR S e) : xf_X5_reads S = some S := by
  unfold xf_X5_reads
  rw [if_neg (tq_rRp h)]
theorem tq_rR_cg {S S2 : rs_St} {e : Nat × Nat} (g : ∀ j, rs_gi S2 91 j = rs_gi S 91 j) (h : tq_rR S e) : tq_rR S2 e := ⟨(g _).trans h.1, (g _).trans h.2.1, h.2.2⟩
theorem tq_rA_cg {T : Nat → Nat} {n p : Nat} {S S2 : rs_St} (g : ∀ j, rs_gi S2 91 j = rs_gi S 91 j) (h : tq_rA T n p S) : tq_rA T n p S2 := ⟨(g _).trans h.1, fun b => ⟨(g _).trans (h.2.1 b).1, (g _).trans (h.2.1 b).2⟩, fun b => ⟨(g _).trans (h.2.2 b).1, (g _).trans (h.2.2 b).2.1, (g _).trans (h.2.2 b).2.2.1, fun k => (g _).trans ((h.2.2 b).2.2.2 k)⟩⟩
theorem tq_rAR {T : Nat → Nat} {n p : Nat} {S : rs_St} (hn : n ≤ 160) (hp : p ≤ n) (h : tq_rA T n p S) (hb : tq_bad T n p = true) : tq_rR S (1, tq_ts T n p) := by
  have hs := tq_ts_b (T := T) hp
  exact ⟨(h.2.1 hb).1, (h.2.1 hb).2, Nat.le_refl _, (show 1 ≤ 5 by omega), (show tq_ts T n p ≤ 160 by omega)⟩
theorem tq_setR {S : rs_St} {s x : Nat} (h8 : rs_gi S 91 8 = nI s) (hs : s ≤ 160) (x1 : 1 ≤ x) (x5 : x ≤ 5) : tq_rR (rs_si (rs_si S 91 11 (nI x)) 91 12 (rs_gi S 91 8)) (x, s) ∧ tq_f91 S (rs_si (rs_si S 91 11 (nI x)) 91 12 (rs_gi S 91 8)) := ⟨⟨(rv_gsn (by omega)).trans (rv_gss _ _ _ _), (rv_gss _ _ _ _).trans h8, x1, x5, hs⟩, fun k j h => (rv_gsn (by omega)).trans (rv_gsn (by omega))⟩
set_option maxRecDepth 100000 in
theorem tq_rnumE {S : rs_St} {e : Nat × Nat} (h : tq_rR S e) (lo hi : Int32) : xf_X5_readNumber S lo hi = some (0, S) := by
  have hn := tq_rRn h
  unfold xf_X5_readNumber
  simp only [rs_jn]
  rw [if_neg hn, if_neg hn, if_neg hn, tq_readsE h, rv_b1s]
theorem tq_pn_bad {T : Nat → Nat} {n p lo hi : Nat} (hb : tq_bad T n p = true) : tq_pn T n p lo hi = .inl (1, tq_ts T n p) := by
  unfold tq_pn
  rw [hb, if_pos rfl]
theorem tq_rk2 {k : Nat} (h : k ≤ 4) : (nI (tq_rk k) = 2 ↔ k = 1) ∧ (nI (tq_rk k) = 3 ↔ k = 2) ∧ (nI (tq_rk k) = 1 ↔ k = 0) ∧ (nI (tq_rk k) = 0 ↔ k = 3) := by
  rcases (show k = 0 ∨ k = 1 ∨ k = 2 ∨ k = 3 ∨ k = 4 by omega) with rfl | rfl | rfl | rfl | rfl <;> decide
set_option maxRecDepth 100000 in
theorem tq_rnum {T : Nat → Nat} {n p lo hi : Nat} {S : rs_St} (hl : lo ≤ 200) (hh : hi ≤ 200) (c : tq_rT T n S) (hp : p ≤ n) (A : tq_rA T n p S) : ∃ r S2, xf_X5_readNumber S (nI lo) (nI hi) = some (r, S2) ∧ tq_f91 S S2 ∧ (∀ e, tq_pn T n p lo hi = .inl e → tq_rR S2 e) ∧ (∀ v q, tq_pn T n p lo hi = .inr (v, q) → r = nI v ∧ tq_rA T n q S2) := by
  have hs := tq_ts_b (T := T) hp
  have hn := c.1
  have hk4 := tq_tk4 (T := T) (n := n) (p := p)
  cases hb : tq_bad T n p with
  | true =>
    have R := tq_rAR hn hp A hb
    refine ⟨0, S, tq_rnumE R _ _, fun _ _ _ => rfl, fun e h => ?_, fun v q h => ?_⟩
    · rw [tq_pn_bad hb] at h
      cases h
      exact R
    · rw [tq_pn_bad hb] at h
      cases h
  | false =>
    obtain ⟨A8, -, A2⟩ := A
    obtain ⟨q11, q9, q7, qv⟩ := A2 hb
    unfold xf_X5_readNumber tq_pn
    simp only [rs_jn]
    rw [q11, if_pos rfl, q9, hb, if_neg (show ¬ false = true by decide)]
    by_cases h1 : tq_tk T n p = 1
    · have hV := tq_V_le hb h1
      obtain ⟨t1, t2, t3⟩ := tq_te_b (T := T) hp (by omega) (by omega)
      rw [if_pos ((tq_rk2 hk4).1.mpr h1), tq_req1, rv_b1s, q11, if_pos rfl, qv h1, rv_in, rv_b1s, if_pos h1]
      by_cases hr : lo ≤ tq_V T n p ∧ tq_V T n p ≤ hi
      · obtain ⟨S2, e2, g2, B2⟩ := tq_reads c t3 q7 q11
        rw [if_pos (show nI lo ≤ nI (tq_V T n p) ∧ nI (tq_V T n p) ≤ nI hi from ⟨(nI_leI (by omega) (by omega)).mpr hr.1, (nI_leI (by omega) (by omega)).mpr hr.2⟩), tq_req1, rv_b1s, q11, if_pos rfl, qv h1, e2, rv_b1s, if_pos hr]
        refine ⟨_, S2, rfl, g2, (fun e h => by cases h), fun v q h => ?_⟩
        cases h
        exact ⟨rfl, B2⟩
      · obtain ⟨R, g⟩ := tq_setR (x := 3) A8 (by omega) (by omega) (by omega)
        rw [if_neg (show ¬ (nI lo ≤ nI (tq_V T n p) ∧ nI (tq_V T n p) ≤ nI hi) from fun z => hr ⟨(nI_leI (by omega) (by omega)).mp z.1, (nI_leI (by omega) (by omega)).mp z.2⟩), tq_req0 q11, rv_b1s, if_neg (show ¬ rs_gi (rs_si (rs_si S 91 11 3) 91 12 (rs_gi S 91 8)) 91 11 = 0 from tq_rRn R), show xf_X5_reads (rs_si (rs_si S 91 11 3) 91 12 (rs_gi S 91 8)) = some _ from tq_readsE R, rv_b1s, if_neg hr]
        refine ⟨_, _, rfl, g, fun e h => ?_, fun v q h => by cases h⟩
        cases h
        exact R
    · obtain ⟨R, g⟩ := tq_setR (x := 2) A8 (by omega) (by omega) (by omega)
      rw [if_neg (fun z => h1 ((tq_rk2 hk4).1.mp z)), tq_req0 q11, rv_b1s, if_neg (show ¬ rs_gi (rs_si (rs_si S 91 11 2) 91 12 (rs_gi S 91 8)) 91 11 = 0 from tq_rRn R), if_neg (show ¬ rs_gi (rs_si (rs_si S 91 11 2) 91 12 (rs_gi S 91 8)) 91 11 = 0 from tq_rRn R), show xf_X5_reads (rs_si (rs_si S 91 11 2) 91 12 (rs_gi S 91 8)) = some _ from tq_readsE R, rv_b1s, if_neg h1]
      refine ⟨_, _, rfl, g, fun e h => ?_, fun v q h => by cases h⟩
      cases h
      exact R
/-! a lamp's numbers -/
theorem tq_54s {c w f : Nat} {S S13 : rs_St} {r : Int32} (K : rs_St → Int32 → Option rs_St) (hw : w ≤ 3) (hc : c + w < 51) (e : xf_X5_readNumber S (nI (rv_pl w)) (nI (rv_ph w)) = some (r, S13)) : xf_X5_readLineOf_l54 (nI c) K (f + 1) S (nI w) = xf_X5_readLineOf_l54 (nI c) K f (rs_si S13 95 (c + w) r) (nI (w + 1)) := by
  rw [xf_X5_readLineOf_l54, rv_3, rv_lt (by omega) (by omega), if_neg (by omega), rv_lowOf _ (by omega), rv_b1s, rv_mostOf _ (by omega), rv_b1s, e, rv_b2s, nI_add, rv_ckn (by omega) (by omega), nI_clamp (by omega), rv_lts, rv_lts, nI_1]
theorem tq_54x {c f : Nat} {S : rs_St} (K : rs_St → Int32 → Option rs_St) : xf_X5_readLineOf_l54 (nI c) K (f + 1) S (nI 4) = K S (nI 4) := by
  rw [xf_X5_readLineOf_l54, rv_3, rv_lt (by omega) (by omega), if_pos (by omega)]
def tq_f95 (c : Nat) (S S2 : rs_St) : Prop := ∀ k j, ¬ (k = 91 ∧ 7 ≤ j ∧ j ≤ 12) → ¬ (k = 95 ∧ c + 1 ≤ j ∧ j ≤ c + 3) → rs_gi S2 k j = rs_gi S k j
theorem tq_54 {T : Nat → Nat} {n q0 c : Nat} {S : rs_St} (cT : tq_rT T n S) (hq : q0 ≤ n) (A : tq_rA T n q0 S) (hc : c + 3 < 51) (K : rs_St → Int32 → Option rs_St) (fu : Nat) (hf : 4 < fu) : ∃ S2, xf_X5_readLineOf_l54 (nI c) K fu S (nI 1) = K S2 (nI 4) ∧ tq_f95 c S S2 ∧ (∀ e, tq_pl3 T n q0 = .inl e → tq_rR S2 e) ∧ (∀ x, tq_pl3 T n q0 = .inr x → tq_rA T n x.2.2.2 S2 ∧ rs_gi S2 95 (c + 1) = nI x.1 ∧ rs_gi S2 95 (c + 2) = nI x.2.1 ∧ rs_gi S2 95 (c + 3) = nI x.2.2.1) := by
  obtain ⟨f, rfl⟩ : ∃ f, fu = f + 1 + 1 + 1 + 1 := ⟨fu - 4, by omega⟩
  have sg : ∀ (S : rs_St) (i : Nat) (v : Int32) (j : Nat), rs_gi (rs_si S 95 i v) 91 j = rs_gi S 91 j := fun S i v j => rv_gsn (by omega)
  obtain ⟨r1, S1, e1, g1, i1, o1⟩ := tq_rnum (lo := 1) (hi := 9) (by omega) (by omega) cT hq A
  rw [tq_54s (w := 1) K (by omega) (by omega) e1]
  have f1 : tq_f95 c S (rs_si S1 95 (c + 1) r1) := fun k j h1 h2 => (rv_gsn (by omega)).trans (g1 k j h1)
  have c1 : tq_rT T n (rs_si S1 95 (c + 1) r1) := tq_rT_cg (f1 _ _ (by omega) (by omega)) (fun i => f1 _ _ (by omega) (by omega)) cT
  have v1' : rs_gi (rs_si S1 95 (c + 1) r1) 95 (c + 1) = r1 := rv_gss _ _ _ _
  unfold tq_pl3
  rcases p1 : tq_pn T n q0 1 9 with e | ⟨v1, q1⟩
  · have R := tq_rR_cg (sg S1 (c + 1) r1) (i1 e p1)
    rw [tq_54s (w := 2) K (by omega) (by omega) (tq_rnumE R _ _)]
    have R2 := tq_rR_cg (sg _ (c + 2) 0) R
    rw [tq_54s (w := 3) K (by omega) (by omega) (tq_rnumE R2 _ _), tq_54x]
    refine ⟨_, rfl, fun k j h1 h2 => (rv_gsn (by omega)).trans ((rv_gsn (by omega)).trans (f1 k j h1 h2)), fun e' h => ?_, fun x h => by cases h⟩
    cases h
    exact tq_rR_cg (sg _ (c + 3) 0) R2
  · obtain ⟨rfl, A1⟩ := o1 v1 q1 p1
    have b1 := tq_pn_b hq p1
    replace A1 := tq_rA_cg (sg S1 (c + 1) (nI v1)) A1
    generalize rs_si S1 95 (c + 1) (nI v1) = S1' at *
    show ∃ S2, _ ∧ tq_f95 c S S2 ∧ (∀ e, tq_bd (tq_pn T n q1 1 12) (fun y => tq_bd (tq_pn T n y.2 0 11) (fun z => .inr (v1, y.1, z.1, z.2))) = .inl e → tq_rR S2 e) ∧ (∀ x, tq_bd (tq_pn T n q1 1 12) (fun y => tq_bd (tq_pn T n y.2 0 11) (fun z => .inr (v1, y.1, z.1, z.2))) = .inr x → tq_rA T n x.2.2.2 S2 ∧ rs_gi S2 95 (c + 1) = nI x.1 ∧ rs_gi S2 95 (c + 2) = nI x.2.1 ∧ rs_gi S2 95 (c + 3) = nI x.2.2.1)
    obtain ⟨r2, S2, e2, g2, i2, o2⟩ := tq_rnum (lo := 1) (hi := 12) (by omega) (by omega) c1 (by omega) A1
    rw [tq_54s (w := 2) K (by omega) (by omega) e2]
    have f2 : tq_f95 c S (rs_si S2 95 (c + 2) r2) := fun k j h1 h2 => (rv_gsn (by omega)).trans ((g2 k j h1).trans (f1 k j h1 h2))
    have c2 : tq_rT T n (rs_si S2 95 (c + 2) r2) := tq_rT_cg (f2 _ _ (by omega) (by omega)) (fun i => f2 _ _ (by omega) (by omega)) cT
    have v2' : rs_gi (rs_si S2 95 (c + 2) r2) 95 (c + 2) = r2 := rv_gss _ _ _ _
    have w2 : rs_gi (rs_si S2 95 (c + 2) r2) 95 (c + 1) = nI v1 := (rv_gsn (by omega)).trans ((g2 _ _ (by omega)).trans v1')
    rcases p2 : tq_pn T n q1 1 12 with e | ⟨v2, q2⟩
    · have R := tq_rR_cg (sg S2 (c + 2) r2) (i2 e p2)
      rw [tq_54s (w := 3) K (by omega) (by omega) (tq_rnumE R _ _), tq_54x]
      refine ⟨_, rfl, fun k j h1 h2 => (rv_gsn (by omega)).trans (f2 k j h1 h2), fun e' h => ?_, fun x h => by cases h⟩
      cases h
      exact tq_rR_cg (sg _ (c + 3) 0) R
    · obtain ⟨rfl, A2⟩ := o2 v2 q2 p2
      have b2 := tq_pn_b (by omega) p2
      replace A2 := tq_rA_cg (sg S2 (c + 2) (nI v2)) A2
      generalize rs_si S2 95 (c + 2) (nI v2) = S2' at *
      show ∃ S2, _ ∧ tq_f95 c S S2 ∧ (∀ e, tq_bd (tq_pn T n q2 0 11) (fun z => .inr (v1, v2, z.1, z.2)) = .inl e → tq_rR S2 e) ∧ (∀ x, tq_bd (tq_pn T n q2 0 11) (fun z => .inr (v1, v2, z.1, z.2)) = .inr x → tq_rA T n x.2.2.2 S2 ∧ rs_gi S2 95 (c + 1) = nI x.1 ∧ rs_gi S2 95 (c + 2) = nI x.2.1 ∧ rs_gi S2 95 (c + 3) = nI x.2.2.1)
      obtain ⟨r3, S3, e3, g3, i3, o3⟩ := tq_rnum (lo := 0) (hi := 11) (by omega) (by omega) c2 (by omega) A2
      rw [tq_54s (w := 3) K (by omega) (by omega) e3, tq_54x]
      refine ⟨_, rfl, fun k j h1 h2 => (rv_gsn (by omega)).trans ((g3 k j h1).trans (f2 k j h1 h2)), fun e' h => ?_, fun x h => ?_⟩
      · rcases p3 : tq_pn T n q2 0 11 with e | y
        · rw [p3] at h
          cases h
          exact tq_rR_cg (sg _ (c + 3) r3) (i3 _ p3)
        · rw [p3] at h
          cases h
      · rcases p3 : tq_pn T n q2 0 11 with e | ⟨v3, q3⟩
        · rw [p3] at h
          cases h
        · rw [p3] at h
          cases h
          obtain ⟨rfl, A3⟩ := o3 v3 q3 p3
          exact ⟨tq_rA_cg (sg _ (c + 3) _) A3, (rv_gsn (by omega)).trans ((g3 _ _ (by omega)).trans w2), (rv_gsn (by omega)).trans ((g3 _ _ (by omega)).trans v2'), rv_gss _ _ _ _⟩
/-! a line -/
def tq_rF (S0 S : rs_St) : Prop := ∀ k j, ¬ (k = 91 ∧ 7 ≤ j ∧ j ≤ 12) → k ≠ 95 → k ≠ 96 → rs_gi S k j = rs_gi S0 k j
def tq_rD (S : rs_St) (a : Nat → Nat) (m : Nat) : Prop := (∀ j, j < 51 → rs_gi S 95 j = nI (a j)) ∧ ∀ w, w < 4 → rs_gi S 96 w = if rv_bi m w then 1 else 0
theorem tq_rF_f {S0 S S2 : rs_St} (h : tq_f91 S S2) (f : tq_rF S0 S) : tq_rF S0 S2 := fun k j h1 h2 h3 => (h k j h1).trans (f k j h1 h2 h3)
theorem tq_rD_f {S S2 : rs_St} {a : Nat → Nat} {m : Nat} (h : tq_f91 S S2) (d : tq_rD S a m) : tq_rD S2 a m := ⟨fun j hj => (h _ _ (by omega)).trans (d.1 j hj), fun w hw => (h _ _ (by omega)).trans (d.2 w hw)⟩
def tq_bod2 (T : Nat → Nat) (n q li : Nat) (a : Nat → Nat) (m : Nat) : Sum (Nat × Nat) ((Nat → Nat) × Nat × Nat) := if li < 4 then tq_bd (tq_pl3 T n q) (fun x => .inr (rv_pt a li x.1 x.2.1 x.2.2.1, m, x.2.2.2)) else tq_bd (tq_rule T n q (li - 4)) (fun x => .inr (rv_up a (17 + (li - 4)) x.1, m, x.2))
theorem tq_pte {a : Nat → Nat} {kd li pe ph j : Nat} : rv_pt a kd li pe ph j = if j = 16 then a 16 + 1 else if j = 4 * a 16 + 3 then ph else if j = 4 * a 16 + 2 then pe else if j = 4 * a 16 + 1 then li else if j = 4 * a 16 then kd else a j := rfl
theorem tq_rlo {T : Nat → Nat} {n q0 li m : Nat} {a : Nat → Nat} {S0 S : rs_St} (cT : tq_rT T n S) (hq : q0 ≤ n) (A : tq_rA T n q0 S) (F : tq_rF S0 S) (D : tq_rD S a m) (hli : li < 8) (h16 : li < 4 → a 16 < 4) : ∃ S2, xf_X5_readLineOf S (nI li) = some S2 ∧ tq_rF S0 S2 ∧ tq_rT T n S2 ∧ (∀ e, tq_bod2 T n q0 li a m = .inl e → tq_rR S2 e) ∧ (∀ x, tq_bod2 T n q0 li a m = .inr x → tq_rA T n x.2.2 S2 ∧ tq_rD S2 x.1 x.2.1) := by
  unfold xf_X5_readLineOf tq_bod2
  rw [rv_4, rv_lt (by omega) (by omega)]
  by_cases hl : li < 4
  · have h16 := h16 hl
    rw [if_pos hl, if_pos hl, D.1 16 (by omega), pk_mul, rv_lts, rv_a0, rv_ckn (by omega) (by omega), nI_clamp (by omega), rv_lts]
    have g0 : ∀ k j, ¬ (k = 95 ∧ j = 4 * a 16) → rs_gi (rs_si S 95 (4 * a 16) (nI li)) k j = rs_gi S k j := fun k j h => rv_gsn (by omega)
    have v0 : rs_gi (rs_si S 95 (4 * a 16) (nI li)) 95 (4 * a 16) = nI li := rv_gss _ _ _ _
    generalize rs_si S 95 (4 * a 16) (nI li) = S3 at *
    obtain ⟨S2, e2, f2, i2, o2⟩ := tq_54 (c := 4 * a 16) (S := S3) (tq_rT_cg (g0 _ _ (by omega)) (fun i => g0 _ _ (by omega)) cT) hq (tq_rA_cg (fun j => g0 _ _ (by omega)) A) (by omega) (fun (S18 : rs_St) (x19 : Int32) => rs_lt (rs_si S18 95 16 ((rs_gi S18 95 16) + 1)) (fun S20 => some S20)) rs_fu (by unfold rs_fu; omega)
    have g1 : rs_gi S2 95 16 = nI (a 16) := (f2 _ _ (by omega) (by omega)).trans ((g0 _ _ (by omega)).trans (D.1 16 (by omega)))
    have e3 : xf_X5_readLineOf_l54 (nI (4 * a 16)) (fun (S18 : rs_St) (x19 : Int32) => rs_lt (rs_si S18 95 16 ((rs_gi S18 95 16) + 1)) (fun S20 => some S20)) rs_fu S3 1 = some (rs_si S2 95 16 (nI (a 16 + 1))) := by
      refine Eq.trans e2 ?_
      rw [rv_lts, g1, nI_1]
    have fr : ∀ k j, ¬ (k = 91 ∧ 7 ≤ j ∧ j ≤ 12) → k ≠ 95 → rs_gi (rs_si S2 95 16 (nI (a 16 + 1))) k j = rs_gi S k j := fun k j h1 h2 => (rv_gsn (by omega)).trans ((f2 k j h1 (by omega)).trans (g0 k j (by omega)))
    refine ⟨_, e3, fun k j h1 h2 h3 => (fr k j h1 h2).trans (F k j h1 h2 h3), tq_rT_cg (fr _ _ (by omega) (by omega)) (fun i => fr _ _ (by omega) (by omega)) cT, fun e h => ?_, fun x h => ?_⟩
    · rcases p3 : tq_pl3 T n q0 with z | z
      · rw [p3] at h
        cases h
        exact tq_rR_cg (fun j => rv_gsn (by omega)) (i2 _ p3)
      · rw [p3] at h
        cases h
    · rcases p3 : tq_pl3 T n q0 with z | z
      · rw [p3] at h
        cases h
      · rw [p3] at h
        cases h
        obtain ⟨y1, y2, y3, y4⟩ := o2 z p3
        refine ⟨tq_rA_cg (fun j => rv_gsn (by omega)) y1, fun j hj => ?_, fun w hw => (fr _ _ (by omega) (by omega)).trans (D.2 w hw)⟩
        show rs_gi (rs_si S2 95 16 (nI (a 16 + 1))) 95 j = nI (rv_pt a li z.1 z.2.1 z.2.2.1 j)
        rw [tq_pte]
        by_cases j16 : j = 16
        · rw [if_pos j16, j16, rv_gss]
        · rw [if_neg j16, rv_gsn (by omega)]
          by_cases j3 : j = 4 * a 16 + 3
          · rw [if_pos j3, j3, y4]
          · rw [if_neg j3]
            by_cases j2 : j = 4 * a 16 + 2
            · rw [if_pos j2, j2, y3]
            · rw [if_neg j2]
              by_cases j1 : j = 4 * a 16 + 1
              · rw [if_pos j1, j1, y2]
              · rw [if_neg j1, f2 _ _ (by omega) (by omega)]
                by_cases j0 : j = 4 * a 16
                · rw [if_pos j0, j0, v0]
                · rw [if_neg j0, g0 _ _ (by omega)]
                  exact D.1 j hj
  · have hth := @rv_th_le (li - 4)
    have htl := @rv_tl_le (li - 4)
    obtain ⟨r1, S1, e1, g1, i1, o1⟩ := tq_rnum (lo := rv_tl (li - 4)) (hi := rv_th (li - 4)) (by omega) (by omega) cT hq A
    rw [if_neg hl, if_neg hl, pk_sub (by omega), rv_lowTold _ (by omega), rv_b1s, rv_mostTold _ (by omega), rv_b1s, e1, rv_b2s, rv_17, nI_add, pk_sub (by omega), rv_ckn (by omega) (by omega), nI_clamp (by omega), rv_lts]
    refine ⟨_, rfl, fun k j h1 h2 h3 => (rv_gsn (by omega)).trans ((g1 k j h1).trans (F k j h1 h2 h3)), tq_rT_cg ((rv_gsn (by omega)).trans (g1 _ _ (by omega))) (fun i => (rv_gsn (by omega)).trans (g1 _ _ (by omega))) cT, fun e h => ?_, fun x h => ?_⟩
    · rcases p3 : tq_rule T n q0 (li - 4) with z | z
      · rw [p3] at h
        cases h
        exact tq_rR_cg (fun j => rv_gsn (by omega)) (i1 _ p3)
      · rw [p3] at h
        cases h
    · rcases p3 : tq_rule T n q0 (li - 4) with z | ⟨v, q⟩
      · rw [p3] at h
        cases h
      · rw [p3] at h
        cases h
        obtain ⟨rfl, y1⟩ := o1 v q p3
        refine ⟨tq_rA_cg (fun j => rv_gsn (by omega)) y1, fun j hj => ?_, fun w hw => (rv_gsn (by omega)).trans ((g1 _ _ (by omega)).trans (D.2 w hw))⟩
        show rs_gi (rs_si S1 95 (17 + li - 4) (nI v)) 95 j = nI (rv_up a (17 + (li - 4)) v j)
        rw [rv_upe]
        by_cases j0 : j = 17 + (li - 4)
        · rw [if_pos j0, j0, show 17 + (li - 4) = 17 + li - 4 by omega, rv_gss]
        · rw [if_neg j0, rv_gsn (by omega), g1 _ _ (by omega)]
          exact D.1 j hj
