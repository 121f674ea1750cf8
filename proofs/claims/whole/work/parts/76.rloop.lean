/-! the reference: a line, the loop over lines -/
theorem tq_00 : (0 : Int32) ≤ 0 := by decide
theorem tq_rtail {T : Nat → Nat} {n q0 li m : Nat} {a : Nat → Nat} {S0 S : rs_St} (cT : tq_rT T n S) (hq : q0 ≤ n) (h7 : rs_gi S 91 7 = nI q0) (h11 : rs_gi S 91 11 = 0) (F : tq_rF S0 S) (D : tq_rD S a m) (hli : li < 8) (h16 : li < 4 → a 16 < 4) (hb2 : ∀ x, tq_bod2 T n q0 li a m = .inr x → x.2.2 ≤ n) : ∃ S2, rs_b1 (xf_X5_reads S) (fun S14 => if (rs_gi S14 91 11) ≤ 0 then rs_b1 (xf_X5_readLineOf S14 (nI li)) (fun S17 => if (rs_gi S17 91 11) = 0 then if (rs_gi S17 91 9) = 3 then rs_b1 (xf_X5_requires S17 1 2) (fun S26 => rs_b1 (xf_X5_reads S26) (fun S21 => some S21)) else rs_b1 (xf_X5_requires S17 0 2) (fun S26 => rs_b1 (xf_X5_reads S26) (fun S21 => some S21)) else rs_b1 (xf_X5_reads S17) (fun S21 => some S21)) else some S14) = some S2 ∧ tq_rF S0 S2 ∧ tq_rT T n S2 ∧ (∀ e, tq_bd (tq_bod2 T n q0 li a m) (fun x => tq_bd (tq_ps T n x.2.2) (fun q => .inr (x.1, x.2.1, q))) = .inl e → tq_rR S2 e) ∧ (∀ x, tq_bd (tq_bod2 T n q0 li a m) (fun x => tq_bd (tq_ps T n x.2.2) (fun q => .inr (x.1, x.2.1, q))) = .inr x → tq_rA T n x.2.2 S2 ∧ tq_rD S2 x.1 x.2.1) := by
  have hn := cT.1
  obtain ⟨S1, e1, g1, A1⟩ := tq_reads cT hq h7 h11
  have c1 := tq_rT_f g1 cT
  have F1 := tq_rF_f g1 F
  have D1 := tq_rD_f g1 D
  rw [e1, rv_b1s]
  cases hb : tq_bad T n q0 with
  | true =>
    have R := tq_rAR hn hq A1 hb
    have eb : tq_bod2 T n q0 li a m = .inl (1, tq_ts T n q0) := by
      unfold tq_bod2 tq_pl3 tq_rule
      rw [tq_pn_bad hb, tq_pn_bad hb]
      split <;> rfl
    rw [if_neg (tq_rRp R), eb]
    refine ⟨S1, rfl, F1, c1, fun e h => ?_, fun x h => by cases h⟩
    cases h
    exact R
  | false =>
    obtain ⟨q11, -⟩ := A1.2.2 hb
    rw [q11, if_pos tq_00]
    obtain ⟨S2, e2, F2, c2, i2, o2⟩ := tq_rlo c1 hq A1 F1 D1 hli h16
    rw [e2, rv_b1s]
    rcases p2 : tq_bod2 T n q0 li a m with e | x
    · have R := i2 e p2
      rw [if_neg (tq_rRn R), tq_readsE R, rv_b1s]
      refine ⟨S2, rfl, F2, c2, fun e' h => ?_, fun x h => by cases h⟩
      cases h
      exact R
    · obtain ⟨A2, D2⟩ := o2 x p2
      have hx := hb2 x p2
      have hs := tq_ts_b (T := T) hx
      have hk4 := tq_tk4 (T := T) (n := n) (p := x.2.2)
      show ∃ S2, _ ∧ tq_rF S0 S2 ∧ tq_rT T n S2 ∧ (∀ e, tq_bd (tq_ps T n x.2.2) (fun q => .inr (x.1, x.2.1, q)) = .inl e → tq_rR S2 e) ∧ (∀ y, tq_bd (tq_ps T n x.2.2) (fun q => .inr (x.1, x.2.1, q)) = .inr y → tq_rA T n y.2.2 S2 ∧ tq_rD S2 y.1 y.2.1)
      unfold tq_ps
      cases hb3 : tq_bad T n x.2.2 with
      | true =>
        have R := tq_rAR hn hx A2 hb3
        rw [if_neg (tq_rRn R), tq_readsE R, rv_b1s, if_pos rfl]
        refine ⟨S2, rfl, F2, c2, fun e' h => ?_, fun x h => by cases h⟩
        cases h
        exact R
      | false =>
        obtain ⟨k11, k9, k7, -⟩ := A2.2.2 hb3
        rw [k11, if_pos rfl, k9, if_neg (show ¬ false = true by decide)]
        by_cases hk : tq_tk T n x.2.2 = 2
        · obtain ⟨t1, t2, t3⟩ := tq_te_b (T := T) hx (by omega) (by omega)
          obtain ⟨S3, e3, g3, A3⟩ := tq_reads c2 t3 k7 k11
          rw [if_pos ((tq_rk2 hk4).2.1.mpr hk), tq_req1, rv_b1s, e3, rv_b1s, if_pos hk]
          refine ⟨S3, rfl, tq_rF_f g3 F2, tq_rT_f g3 c2, (fun e' h => by cases h), fun y h => ?_⟩
          cases h
          exact ⟨A3, tq_rD_f g3 D2⟩
        · obtain ⟨R, g⟩ := tq_setR (x := 2) A2.1 (by omega) (by omega) (by omega)
          rw [if_neg (fun z => hk ((tq_rk2 hk4).2.1.mp z)), tq_req0 k11, rv_b1s, show xf_X5_reads (rs_si (rs_si S2 91 11 2) 91 12 (rs_gi S2 91 8)) = some _ from tq_readsE R, rv_b1s, if_neg hk]
          refine ⟨_, rfl, tq_rF_f g F2, tq_rT_f g c2, fun e' h => ?_, fun x h => by cases h⟩
          cases h
          exact R
theorem tq_nz {li : Nat} (h : li ≤ 8) : ¬ nI li = -4 := rv_neg4 (by omega)
set_option maxRecDepth 100000 in
theorem tq_rline {T : Nat → Nat} {n p m : Nat} {a : Nat → Nat} {S0 S : rs_St} (cT : tq_rT T n S) (hp : p ≤ n) (A : tq_rA T n p S) (hb : tq_bad T n p = false) (h3 : ¬ tq_tk T n p = 3) (F : tq_rF S0 S) (D : tq_rD S a m) (w : tq_dw a) (hm : m < 16) : ∃ S2, xf_X5_readLine S = some S2 ∧ tq_rF S0 S2 ∧ tq_rT T n S2 ∧ (∀ e, tq_line T n p a m = .inl e → tq_rR S2 e) ∧ (∀ x, tq_line T n p a m = .inr x → tq_rA T n x.2.2 S2 ∧ tq_rD S2 x.1 x.2.1) := by
  have hn := cT.1
  have hc16 := w.1.1
  have hs := tq_ts_b (T := T) hp
  obtain ⟨t1, t2, t3⟩ := tq_te_b hp h3 (tq_bad4 hb).1
  have hk4 := tq_tk4 (T := T) (n := n) (p := p)
  have hl8 := tq_li8 (T := T) (n := n) (p := p)
  obtain ⟨A8, -, A2⟩ := id A
  obtain ⟨q11, q9, q7, qv⟩ := A2 hb
  have ex1 : ∀ f : Int32 → Option rs_St, rs_jn f (fun J2 => if (rs_gi S 91 9) = 1 then rs_b1 (xf_X5_lineNow S) (fun r42 => J2 r42) else J2 (-4)) = f (if tq_li T n p = 8 then -4 else nI (tq_li T n p)) := fun f => by
    unfold tq_li
    show (if (rs_gi S 91 9) = 1 then rs_b1 (xf_X5_lineNow S) (fun r42 => f r42) else f (-4)) = _
    rw [q9]
    by_cases hk : tq_tk T n p = 0
    · rw [if_pos ((tq_rk2 hk4).2.2.1.mpr hk), tq_lnow cT A8 q7 (by omega) t3, rv_b1s, if_pos hk]
    · rw [if_neg (fun z => hk ((tq_rk2 hk4).2.2.1.mp z)), if_neg hk, if_pos rfl]
  unfold xf_X5_readLine
  rw [ex1]
  simp only [rs_jn]
  have hbody : ∀ x, tq_body T n p a m = .inr x → x.2.2 ≤ n := fun x hx => (tq_body_b hp h3 (tq_bad4 hb).1 w hm hx).2.2.2
  unfold tq_line
  unfold tq_body at hbody ⊢
  by_cases h8 : tq_li T n p = 8
  · obtain ⟨R, g⟩ := tq_setR (x := 2) A8 (by omega) (by omega) (by omega)
    replace R : tq_rR (rs_si (rs_si S 91 11 2) 91 12 (rs_gi S 91 8)) (2, tq_ts T n p) := R
    rw [if_pos h8, if_pos rfl, tq_req0 q11, rv_b1s, if_neg (show ¬ (4 : Int32) ≤ -4 by decide), tq_reqE (tq_rRn R), tq_reqE (tq_rRn R), rv_b1s, if_pos (show (-4 : Int32) < 4 by decide), tq_readsE R, rv_b1s, if_neg (tq_rRp R), ite_self, if_pos h8]
    refine ⟨_, rfl, tq_rF_f g F, tq_rT_f g cT, fun e' h => ?_, fun x h => by cases h⟩
    cases h
    exact R
  · rw [if_neg h8, if_neg (tq_nz hl8), tq_req1, rv_b1s, D.1 16 (by omega), rv_4, rv_le (by omega) (by omega), rv_le (by omega) (by omega), if_neg h8]
    rw [if_neg h8] at hbody
    by_cases hl : tq_li T n p < 4
    · rw [if_neg (show ¬ 4 ≤ tq_li T n p by omega), if_pos hl]
      rw [if_pos hl] at hbody
      by_cases h16 : 4 ≤ a 16
      · obtain ⟨R, g⟩ := tq_setR (x := 5) A8 (by omega) (by omega) (by omega)
        rw [if_pos h16, tq_req0 q11, rv_b1s, rv_lt (by omega) (by omega), if_pos hl, show xf_X5_reads (rs_si (rs_si S 91 11 5) 91 12 (rs_gi S 91 8)) = some _ from tq_readsE R, rv_b1s, if_neg (show ¬ rs_gi (rs_si (rs_si S 91 11 5) 91 12 (rs_gi S 91 8)) 91 11 ≤ 0 from tq_rRp R), if_pos h16]
        refine ⟨_, rfl, tq_rF_f g F, tq_rT_f g cT, fun e' h => ?_, fun x h => by cases h⟩
        cases h
        exact R
      · rw [if_neg h16] at hbody
        rw [if_neg h16, tq_req1, rv_b1s, rv_lt (by omega) (by omega), if_pos hl, if_neg h16]
        have ebod : tq_bd (tq_pl3 T n (tq_te T n p)) (fun x => .inr (rv_pt a (tq_li T n p) x.1 x.2.1 x.2.2.1, m, x.2.2.2)) = tq_bod2 T n (tq_te T n p) (tq_li T n p) a m := by
          unfold tq_bod2
          rw [if_pos hl]
        rw [ebod] at hbody ⊢
        exact tq_rtail cT t3 q7 q11 F D (by omega) (fun _ => by omega) hbody
    · rw [if_pos (show 4 ≤ tq_li T n p by omega), tq_req1, rv_b1s, rv_lt (by omega) (by omega), if_neg hl, if_neg hl, pk_sub (by omega), rv_ckn (by omega) (by omega), nI_clamp (by omega), D.2 _ (by omega)]
      rw [if_neg hl] at hbody
      cases hbi : rv_bi m (tq_li T n p - 4) with
      | true =>
        obtain ⟨R, g⟩ := tq_setR (x := 4) A8 (by omega) (by omega) (by omega)
        have R' : tq_rR (rs_si (rs_si (rs_si S 91 11 (nI 4)) 91 12 (rs_gi S 91 8)) 96 (tq_li T n p - 4) (vp_nar .boolean 1)) (4, tq_ts T n p) := tq_rR_cg (fun j => rv_gsn (by omega)) R
        rw [if_pos rfl, if_neg (show ¬ (1 : Int32) = 0 by decide), tq_req0 q11, rv_b1s, rv_ckm (by omega) (by omega), rv_lts, tq_readsE R', rv_b1s, if_neg (tq_rRp R'), if_pos rfl]
        refine ⟨_, rfl, fun k j h1 h2 h3 => (rv_gsn (by omega)).trans (tq_rF_f g F k j h1 h2 h3), tq_rT_cg (rv_gsn (by omega)) (fun i => rv_gsn (by omega)) (tq_rT_f g cT), fun e' h => ?_, fun x h => by cases h⟩
        cases h
        exact R'
      | false =>
        rw [hbi, if_neg (show ¬ false = true by decide)] at hbody
        rw [if_neg (show ¬ false = true by decide), if_pos rfl, tq_req1, rv_b1s, rv_ckm (by omega) (by omega), rv_lts, if_neg (show ¬ false = true by decide)]
        obtain ⟨u1, u2, u3⟩ := tq_told m hm (tq_li T n p - 4) (by omega) hbi
        have ebod : tq_bd (tq_rule T n (tq_te T n p) (tq_li T n p - 4)) (fun x => .inr (rv_up a (17 + (tq_li T n p - 4)) x.1, m + 2 ^ (tq_li T n p - 4), x.2)) = tq_bod2 T n (tq_te T n p) (tq_li T n p) a (m + 2 ^ (tq_li T n p - 4)) := by
          unfold tq_bod2
          rw [if_neg hl]
        rw [ebod] at hbody ⊢
        refine tq_rtail (tq_rT_cg (rv_gsn (by omega)) (fun i => rv_gsn (by omega)) cT) t3 ((rv_gsn (by omega)).trans q7) ((rv_gsn (by omega)).trans q11) (fun k j h1 h2 h3 => (rv_gsn (by omega)).trans (F k j h1 h2 h3)) ⟨fun j hj => (rv_gsn (by omega)).trans (D.1 j hj), fun v hv => ?_⟩ (by omega) (fun h => absurd h hl) hbody
        rw [u3 v hv]
        by_cases e : v = tq_li T n p - 4
        · rw [e, rv_gss, decide_eq_true rfl, Bool.or_true]
          rfl
        · rw [rv_gsn (by omega), decide_eq_false e, Bool.or_false]
          exact D.2 v hv
theorem tq_rl20 {T : Nat → Nat} {n : Nat} {S0 : rs_St} (K : rs_St → Int32 → Option (Int32 × rs_St)) : ∀ (d p m x fu : Nat) (a : Nat → Nat) (S : rs_St), n - p < d → d + 1 < fu → p ≤ n → tq_dw a → m < 16 → tq_rT T n S → tq_rA T n p S → tq_rF S0 S → tq_rD S a m → ∃ S2 x2, xf_X5_text_l20 K fu S (nI x) = K S2 x2 ∧ tq_rF S0 S2 ∧ (∀ e, tq_loop T n d p a m x = .inl e → tq_rR S2 e) ∧ (∀ y, tq_loop T n d p a m x = .inr y → x2 = nI y.1 ∧ rs_gi S2 91 11 = 0 ∧ (∀ j, j < 51 → rs_gi S2 95 j = nI (y.2 j)) ∧ tq_dw y.2) := by
  intro d
  induction d with
  | zero =>
    intro p m x fu a S h1
    omega
  | succ d ih =>
    intro p m x fu a S h1 hf hp w hm c A F D
    obtain ⟨fz, rfl⟩ : ∃ f, fu = f + 1 + 1 := ⟨fu - 2, by omega⟩
    have hn := c.1
    have hs := tq_ts_b (T := T) hp
    have hk4 := tq_tk4 (T := T) (n := n) (p := p)
    rw [xf_X5_text_l20, tq_loop]
    cases hb : tq_bad T n p with
    | true =>
      have R := tq_rAR hn hp A hb
      rw [if_neg (tq_rRn R), if_pos rfl]
      refine ⟨S, nI x, rfl, F, fun e h => ?_, fun y h => by cases h⟩
      cases h
      exact R
    | false =>
      obtain ⟨q11, q9, q7, -⟩ := A.2.2 hb
      rw [q11, if_pos rfl, q9, if_neg (show ¬ false = true by decide)]
      by_cases hk : tq_tk T n p = 3
      · rw [if_pos ((tq_rk2 hk4).2.2.2.mpr hk), if_pos hk]
        refine ⟨S, nI x, rfl, F, (fun e h => by cases h), fun y h => ?_⟩
        cases h
        exact ⟨rfl, q11, D.1, w⟩
      · rw [if_neg (fun z => hk ((tq_rk2 hk4).2.2.2.mp z)), if_neg hk]
        obtain ⟨S1, e1, F1, c1, i1, o1⟩ := tq_rline c hp A hb hk F D w hm
        have hlt := tq_tkn hk
        rw [e1, rv_b1s, rv_lts, nI_1]
        rcases p1 : tq_line T n p a m with e | y
        · have R := i1 e p1
          refine ⟨S1, nI (x + 1), ?_, F1, fun e' h => ?_, fun y h => by cases h⟩
          · rw [xf_X5_text_l20, if_neg (tq_rRn R)]
          · cases h
            exact R
        · obtain ⟨A1, D1⟩ := o1 y p1
          obtain ⟨w1, m1, b1, b2⟩ := tq_line_b hp hk (tq_bad4 hb).1 w hm p1
          exact ih y.2.2 y.2.1 (x + 1) (fz + 1) y.1 S1 (by omega) (by omega) b2 w1 m1 c1 A1 F1 D1
