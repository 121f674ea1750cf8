/-! the class: lines and the loop over them -/
def tq_dw (a : Nat → Nat) : Prop := rv_wf a ∧ ∀ j, 21 ≤ j → a j = 0
def tq_cF (S0 S : rs_St) : Prop := (∀ k j, ¬ (k = 80 ∧ 2 ≤ j ∧ j ≤ 6) → (k < 19 ∨ 38 ≤ k ∨ (k = 19 ∧ j ≠ 1)) → rs_gi S k j = rs_gi S0 k j) ∧ ∀ l, l < 4 → rs_gi S (19 + 1 + 6 + 3 * l + 2) 0 = 0
def tq_cD (S : rs_St) (a : Nat → Nat) (m : Nat) : Prop := rv_sc S 19 a rv_uu ∧ rs_gi S 80 5 = nI m
theorem tq_cF_f {S0 S S2 : rs_St} (h : tq_f80 S S2) (f : tq_cF S0 S) : tq_cF S0 S2 := ⟨fun k j q1 q2 => (h k j (by omega)).trans (f.1 k j q1 q2), fun l hl => (h _ _ (by omega)).trans (f.2 l hl)⟩
theorem tq_sc_f {S S2 : rs_St} {a : Nat → Nat} {u : Nat → Bool} (hc : a 16 ≤ 4) (h : ∀ k j, k < 80 → rs_gi S2 k j = rs_gi S k j) (d : rv_sc S 19 a u) : rv_sc S2 19 a u := by
  obtain ⟨c1, c2, c3, c4⟩ := d
  exact ⟨(h _ _ (by omega)).trans c1, (h _ _ (by omega)).trans c2, fun j hj => (h _ _ (by omega)).trans (c3 j hj), fun l hl => rv_lm_cg (fun k2 j z => h _ _ (by omega)) (fun _ _ => rfl) rfl (c4 l hl)⟩
theorem tq_cD_f {S S2 : rs_St} {a : Nat → Nat} {m : Nat} (hc : a 16 ≤ 4) (h : tq_f80 S S2) (d : tq_cD S a m) : tq_cD S2 a m := ⟨tq_sc_f hc (fun k j hk => h k j (by omega)) d.1, (h _ _ (by omega)).trans d.2⟩
def tq_pl3 (T : Nat → Nat) (n q : Nat) : Sum (Nat × Nat) (Nat × Nat × Nat × Nat) := tq_bd (tq_pn T n q 1 9) (fun x => tq_bd (tq_pn T n x.2 1 12) (fun y => tq_bd (tq_pn T n y.2 0 11) (fun z => .inr (x.1, y.1, z.1, z.2))))
theorem tq_pl3_b {T : Nat → Nat} {n p : Nat} {x : Nat × Nat × Nat × Nat} (hp : p ≤ n) (h : tq_pl3 T n p = .inr x) : (1 ≤ x.1 ∧ x.1 ≤ 9) ∧ (1 ≤ x.2.1 ∧ x.2.1 ≤ 12) ∧ x.2.2.1 ≤ 11 ∧ p < x.2.2.2 ∧ x.2.2.2 ≤ n := by
  unfold tq_pl3 at h
  rcases p1 : tq_pn T n p 1 9 with e | ⟨v1, q1⟩
  · rw [p1] at h
    cases h
  · rw [p1] at h
    replace h : tq_bd (tq_pn T n q1 1 12) (fun y => tq_bd (tq_pn T n y.2 0 11) (fun z => .inr (v1, y.1, z.1, z.2))) = .inr x := h
    have b1 := tq_pn_b hp p1
    rcases p2 : tq_pn T n q1 1 12 with e | ⟨v2, q2⟩
    · rw [p2] at h
      cases h
    · rw [p2] at h
      replace h : tq_bd (tq_pn T n q2 0 11) (fun z => .inr (v1, v2, z.1, z.2)) = .inr x := h
      have b2 := tq_pn_b (by omega) p2
      rcases p3 : tq_pn T n q2 0 11 with e | ⟨v3, q3⟩
      · rw [p3] at h
        cases h
      · rw [p3] at h
        have b3 := tq_pn_b (by omega) p3
        cases h
        exact ⟨⟨b1.1, b1.2.1⟩, ⟨b2.1, b2.2.1⟩, b3.2.1, (show p < q3 by omega), b3.2.2.2⟩
theorem tq_clamp {T : Nat → Nat} {n q0 m kd : Nat} {a : Nat → Nat} {S0 S : rs_St} (c : tq_cT T n S) (hq : q0 ≤ n) (h4 : rs_gi S 80 4 = nI q0) (h6 : rs_gi S 80 6 = 0) (f : tq_cF S0 S) (d : tq_cD S a m) (h16 : a 16 < 4) (hk : kd ≤ 3) : ∃ S2, xf_X3_readLamp S 19 (nI kd) = some S2 ∧ tq_cF S0 S2 ∧ tq_cT T n S2 ∧ (∀ e, tq_pl3 T n q0 = .inl e → tq_cR S2 e) ∧ (∀ x, tq_pl3 T n q0 = .inr x → rs_gi S2 80 6 = 0 ∧ rs_gi S2 80 4 = nI x.2.2.2 ∧ tq_cD S2 (rv_pt a kd x.1 x.2.1 x.2.2.1) m) := by
  obtain ⟨r1, S1, e1, g1, i1, o1⟩ := tq_cnum (lo := 1) (hi := 9) (by omega) (by omega) c hq h4 h6
  replace e1 : xf_X3_readNumber S (rs_sv 0 1) (rs_sv 1 1) = some (r1, S1) := e1
  have hcnt : rs_gi S 19 1 = nI (a 16) := d.1.1
  unfold xf_X3_readLamp
  rw [hcnt, rv_4, rv_lt (by omega) (by omega), if_pos h16, e1, rv_b2s]
  have c1 := tq_cT_cg g1 c
  have f1 := tq_cF_f g1 f
  have d1 := tq_cD_f (by omega) g1 d
  unfold tq_pl3
  rcases p1 : tq_pn T n q0 1 9 with e | ⟨v1, q1⟩
  · have R := i1 e p1
    refine ⟨S1, ?_, f1, c1, fun e' h => ?_, fun x h => ?_⟩
    · rw [tq_cnumE R, rv_b2s, tq_cnumE R, rv_b2s, if_neg (tq_cRn R)]
    · cases h
      exact R
    · cases h
  · obtain ⟨rfl, h61, h41⟩ := o1 v1 q1 p1
    have b1 := tq_pn_b hq p1
    show ∃ S2, _ ∧ tq_cF S0 S2 ∧ tq_cT T n S2 ∧ (∀ e, tq_bd (tq_pn T n q1 1 12) (fun y => tq_bd (tq_pn T n y.2 0 11) (fun z => .inr (v1, y.1, z.1, z.2))) = .inl e → tq_cR S2 e) ∧ (∀ x, tq_bd (tq_pn T n q1 1 12) (fun y => tq_bd (tq_pn T n y.2 0 11) (fun z => .inr (v1, y.1, z.1, z.2))) = .inr x → rs_gi S2 80 6 = 0 ∧ rs_gi S2 80 4 = nI x.2.2.2 ∧ tq_cD S2 (rv_pt a kd x.1 x.2.1 x.2.2.1) m)
    obtain ⟨r2, S2, e2, g2, i2, o2⟩ := tq_cnum (lo := 1) (hi := 12) (by omega) (by omega) c1 (by omega) h41 h61
    replace e2 : xf_X3_readNumber S1 (rs_sv 0 2) (rs_sv 1 2) = some (r2, S2) := e2
    have c2 := tq_cT_cg g2 c1
    have f2 := tq_cF_f g2 f1
    have d2 := tq_cD_f (by omega) g2 d1
    rw [e2, rv_b2s]
    rcases p2 : tq_pn T n q1 1 12 with e | ⟨v2, q2⟩
    · have R := i2 e p2
      refine ⟨S2, ?_, f2, c2, fun e' h => ?_, fun x h => ?_⟩
      · rw [tq_cnumE R, rv_b2s, if_neg (tq_cRn R)]
      · cases h
        exact R
      · cases h
    · obtain ⟨rfl, h62, h42⟩ := o2 v2 q2 p2
      have b2 := tq_pn_b (by omega) p2
      show ∃ S2, _ ∧ tq_cF S0 S2 ∧ tq_cT T n S2 ∧ (∀ e, tq_bd (tq_pn T n q2 0 11) (fun z => .inr (v1, v2, z.1, z.2)) = .inl e → tq_cR S2 e) ∧ (∀ x, tq_bd (tq_pn T n q2 0 11) (fun z => .inr (v1, v2, z.1, z.2)) = .inr x → rs_gi S2 80 6 = 0 ∧ rs_gi S2 80 4 = nI x.2.2.2 ∧ tq_cD S2 (rv_pt a kd x.1 x.2.1 x.2.2.1) m)
      obtain ⟨r3, S3, e3, g3, i3, o3⟩ := tq_cnum (lo := 0) (hi := 11) (by omega) (by omega) c2 (by omega) h42 h62
      replace e3 : xf_X3_readNumber S2 (rs_sv 0 3) (rs_sv 1 3) = some (r3, S3) := e3
      have c3 := tq_cT_cg g3 c2
      have f3 := tq_cF_f g3 f2
      have d3 := tq_cD_f (by omega) g3 d2
      rw [e3, rv_b2s]
      rcases p3 : tq_pn T n q2 0 11 with e | ⟨v3, q3⟩
      · have R := i3 e p3
        refine ⟨S3, ?_, f3, c3, fun e' h => ?_, fun x h => ?_⟩
        · rw [if_neg (tq_cRn R)]
        · cases h
          exact R
        · cases h
      · obtain ⟨rfl, h63, h43⟩ := o3 v3 q3 p3
        have b3 := tq_pn_b (by omega) p3
        obtain ⟨S4, e4, s4, g4, -, z4, n4⟩ := rv_addLamp (S := S3) (B := 19) (kd := kd) (li := v1) (pe := v2) (ph := v3) d3.1 h16 hk ⟨b1.1, b1.2.1⟩ ⟨b2.1, b2.2.1⟩ b3.2.1 (f3.2 (a 16) h16)
        rw [h63, if_pos rfl, e4, rv_b2s]
        refine ⟨S4, rfl, ⟨fun k j q1 q2 => (g4 k j (by omega) (by omega) (by omega)).trans (f3.1 k j q1 q2), fun l hl => ?_⟩, ⟨c3.1, c3.2.1, (g4 _ _ (by omega) (by omega) (by omega)).trans c3.2.2.1, fun i hi => (g4 _ _ (by omega) (by omega) (by omega)).trans (c3.2.2.2 i hi)⟩, fun e' h => ?_, fun x h => ?_⟩
        · by_cases e : l = a 16
          · rw [e]
            exact z4
          · rw [g4 _ _ (by omega) (by omega) (by omega)]
            exact f3.2 l hl
        · cases h
        · cases h
          exact ⟨(g4 _ _ (by omega) (by omega) (by omega)).trans h63, (g4 _ _ (by omega) (by omega) (by omega)).trans h43, s4, (g4 _ _ (by omega) (by omega) (by omega)).trans d3.2⟩
theorem tq_told : ∀ m, m < 16 → ∀ w, w < 4 → rv_bi m w = false → nI m ||| nI (2 ^ w) = nI (m + 2 ^ w) ∧ m + 2 ^ w < 16 ∧ ∀ c, c < 4 → rv_bi (m + 2 ^ w) c = (rv_bi m c || decide (c = w)) := by decide +kernel
def tq_rule (T : Nat → Nat) (n q w : Nat) : Sum (Nat × Nat) (Nat × Nat) := tq_pn T n q (rv_tl w) (rv_th w)
theorem tq_crule {T : Nat → Nat} {n q0 m w : Nat} {a : Nat → Nat} {S0 S : rs_St} (c : tq_cT T n S) (hq : q0 ≤ n) (h4 : rs_gi S 80 4 = nI q0) (h6 : rs_gi S 80 6 = 0) (f : tq_cF S0 S) (d : tq_cD S a m) (hc : a 16 ≤ 4) (hm : m < 16) (hw : w < 4) (hb : rv_bi m w = false) : ∃ S2, xf_X3_readRule S 19 (nI w) = some S2 ∧ tq_cF S0 S2 ∧ tq_cT T n S2 ∧ (∀ e, tq_rule T n q0 w = .inl e → tq_cR S2 e) ∧ (∀ x, tq_rule T n q0 w = .inr x → rs_gi S2 80 6 = 0 ∧ rs_gi S2 80 4 = nI x.2 ∧ tq_cD S2 (rv_up a (17 + w) x.1) (m + 2 ^ w)) := by
  obtain ⟨t1, t2, -⟩ := tq_told m hm w hw hb
  have hth := @rv_th_le w
  have htl := @rv_tl_le w
  have hS : rs_si S 80 5 (nI (m + 2 ^ w)) = rs_si S 80 5 (nI (m + 2 ^ w)) := rfl
  have c' : tq_cT T n (rs_si S 80 5 (nI (m + 2 ^ w))) := ⟨c.1, c.2.1, (rv_gsn (by omega)).trans c.2.2.1, fun i hi => (rv_gsn (by omega)).trans (c.2.2.2 i hi)⟩
  obtain ⟨r1, S1, e1, g1, i1, o1⟩ := tq_cnum (lo := rv_tl w) (hi := rv_th w) (by omega) (by omega) c' hq ((rv_gsn (by omega)).trans h4) ((rv_gsn (by omega)).trans h6)
  have f1 : tq_cF S0 S1 := tq_cF_f g1 ⟨fun k j q1 q2 => (rv_gsn (by omega)).trans (f.1 k j q1 q2), fun l hl => (rv_gsn (by omega)).trans (f.2 l hl)⟩
  have c1 := tq_cT_cg g1 c'
  have d1 : tq_cD S1 a (m + 2 ^ w) := tq_cD_f hc g1 ⟨tq_sc_f hc (fun k j hk => rv_gsn (by omega)) d.1, rv_gss _ _ _ _⟩
  unfold xf_X3_readRule
  rw [d.2, rv_btn (by omega) (by omega), hb, if_neg (show ¬ false = true by decide), if_neg (show ¬ (0 : Int32) = 1 by decide), rv_shl (by omega), t1, rv_lts, rv_ckn hw (by omega), rv_ckn hw (by omega), nI_clamp (by omega), (rv_sv4 hw).2.2.1, (rv_sv4 hw).2.2.2, e1, rv_b2s]
  unfold tq_rule
  rcases p1 : tq_pn T n q0 (rv_tl w) (rv_th w) with e | ⟨v1, q1⟩
  · have R := i1 e p1
    refine ⟨S1, ?_, f1, c1, fun e' h => ?_, fun x h => ?_⟩
    · rw [if_neg (tq_cRn R)]
    · cases h
      exact R
    · cases h
  · obtain ⟨rfl, h61, h41⟩ := o1 v1 q1 p1
    rw [h61, if_pos rfl, rv_ckm hw (by omega), rv_lts]
    refine ⟨_, rfl, ⟨fun k j q1 q2 => (rv_gsn (by omega)).trans (f1.1 k j q1 q2), fun l hl => (rv_gsn (by omega)).trans (f1.2 l hl)⟩, ⟨c1.1, c1.2.1, (rv_gsn (by omega)).trans c1.2.2.1, fun i hi => (rv_gsn (by omega)).trans (c1.2.2.2 i hi)⟩, fun e' h => ?_, fun x h => ?_⟩
    · cases h
    · cases h
      exact ⟨(rv_gsn (by omega)).trans h61, (rv_gsn (by omega)).trans h41, rv_sct d1.1 hc hw, (rv_gsn (by omega)).trans d1.2⟩
/-- a line, all but its stop; a line -/
def tq_body (T : Nat → Nat) (n p : Nat) (a : Nat → Nat) (m : Nat) : Sum (Nat × Nat) ((Nat → Nat) × Nat × Nat) :=
  if tq_li T n p = 8 then .inl (2, tq_ts T n p)
  else if tq_li T n p < 4 then (if 4 ≤ a 16 then .inl (5, tq_ts T n p) else tq_bd (tq_pl3 T n (tq_te T n p)) (fun x => .inr (rv_pt a (tq_li T n p) x.1 x.2.1 x.2.2.1, m, x.2.2.2)))
  else if rv_bi m (tq_li T n p - 4) then .inl (4, tq_ts T n p) else tq_bd (tq_rule T n (tq_te T n p) (tq_li T n p - 4)) (fun x => .inr (rv_up a (17 + (tq_li T n p - 4)) x.1, m + 2 ^ (tq_li T n p - 4), x.2))
def tq_line (T : Nat → Nat) (n p : Nat) (a : Nat → Nat) (m : Nat) : Sum (Nat × Nat) ((Nat → Nat) × Nat × Nat) := tq_bd (tq_body T n p a m) (fun x => tq_bd (tq_ps T n x.2.2) (fun q => .inr (x.1, x.2.1, q)))
theorem tq_body_b {T : Nat → Nat} {n p m : Nat} {a : Nat → Nat} {x : (Nat → Nat) × Nat × Nat} (hp : p ≤ n) (h3 : ¬ tq_tk T n p = 3) (h4 : ¬ tq_tk T n p = 4) (w : tq_dw a) (hm : m < 16) (h : tq_body T n p a m = .inr x) : tq_dw x.1 ∧ x.2.1 < 16 ∧ p < x.2.2 ∧ x.2.2 ≤ n := by
  obtain ⟨t1, t2, t3⟩ := tq_te_b hp h3 h4
  have hl8 := tq_li8 (T := T) (n := n) (p := p)
  unfold tq_body at h
  by_cases h8 : tq_li T n p = 8
  · rw [if_pos h8] at h
    cases h
  · rw [if_neg h8] at h
    by_cases hl : tq_li T n p < 4
    · rw [if_pos hl] at h
      by_cases h16 : 4 ≤ a 16
      · rw [if_pos h16] at h
        cases h
      · rw [if_neg h16] at h
        rcases e3 : tq_pl3 T n (tq_te T n p) with e | y
        · rw [e3] at h
          cases h
        · rw [e3] at h
          cases h
          have b := tq_pl3_b t3 e3
          refine ⟨⟨rv_pt_wf w.1 (by omega) (by omega) b.1 b.2.1 b.2.2.1, fun j hj => ?_⟩, hm, (show p < y.2.2.2 by omega), b.2.2.2.2⟩
          exact (rv_pt_hi (by omega) (by omega)).trans (w.2 j hj)
    · rw [if_neg hl] at h
      cases hb : rv_bi m (tq_li T n p - 4) with
      | true =>
        rw [hb, if_pos rfl] at h
        cases h
      | false =>
        rw [hb, if_neg (by decide)] at h
        rcases e3 : tq_rule T n (tq_te T n p) (tq_li T n p - 4) with e | ⟨v, q⟩
        · rw [e3] at h
          cases h
        · rw [e3] at h
          cases h
          have b := tq_pn_b t3 e3
          refine ⟨⟨rv_wfrule w.1 (by omega) b.1 b.2.1, fun j hj => ?_⟩, (tq_told m hm _ (by omega) hb).2.1, (show p < q by omega), b.2.2.2⟩
          exact (rv_up_n (by omega)).trans (w.2 j hj)
theorem tq_line_b {T : Nat → Nat} {n p m : Nat} {a : Nat → Nat} {x : (Nat → Nat) × Nat × Nat} (hp : p ≤ n) (h3 : ¬ tq_tk T n p = 3) (h4 : ¬ tq_tk T n p = 4) (w : tq_dw a) (hm : m < 16) (h : tq_line T n p a m = .inr x) : tq_dw x.1 ∧ x.2.1 < 16 ∧ p < x.2.2 ∧ x.2.2 ≤ n := by
  unfold tq_line at h
  rcases e : tq_body T n p a m with y | y
  · rw [e] at h
    cases h
  · rw [e] at h
    have b := tq_body_b hp h3 h4 w hm e
    replace h : tq_bd (tq_ps T n y.2.2) (fun q => .inr (y.1, y.2.1, q)) = .inr x := h
    rcases e2 : tq_ps T n y.2.2 with z | z
    · rw [e2] at h
      cases h
    · rw [e2] at h
      have b2 := tq_ps_b (by omega) e2
      cases h
      exact ⟨b.1, b.2.1, (show p < z by omega), b2.2⟩
/-- a line of the class's up to its stop -/
theorem tq_cbody {T : Nat → Nat} {n p m : Nat} {a : Nat → Nat} {S0 S : rs_St} (c : tq_cT T n S) (hp : p ≤ n) (A : tq_cA T n p S) (hb : tq_bad T n p = false) (h3 : ¬ tq_tk T n p = 3) (f : tq_cF S0 S) (d : tq_cD S a m) (w : tq_dw a) (hm : m < 16) (K : rs_St → Option rs_St) : ∃ S2, (rs_b1 (xf_X3_lineBegun S) (fun r2 => rs_jn K (fun J4 => if 0 ≤ r2 then if 4 ≤ r2 then rs_b1 (xf_X3_readRule S 19 (r2 - 4)) (fun S16 => J4 S16) else rs_b1 (xf_X3_readLamp S 19 r2) (fun S18 => J4 S18) else rs_lt (rs_si S 80 6 2) (fun S19 => J4 S19))) = K S2) ∧ tq_cF S0 S2 ∧ tq_cT T n S2 ∧ (∀ e, tq_body T n p a m = .inl e → tq_cR S2 e) ∧ (∀ x, tq_body T n p a m = .inr x → rs_gi S2 80 6 = 0 ∧ rs_gi S2 80 4 = nI x.2.2 ∧ tq_cD S2 x.1 x.2.1) := by
  have hc16 := w.1.1
  have hn := c.1
  have hs := tq_ts_b (T := T) hp
  obtain ⟨t1, t2, t3⟩ := tq_te_b hp h3 (tq_bad4 hb).1
  have hl8 := tq_li8 (T := T) (n := n) (p := p)
  obtain ⟨A1, -, A2⟩ := id A
  obtain ⟨A3, A4, A5⟩ := A2 hb
  have hset : ∀ x : Nat, 1 ≤ x → x ≤ 5 → tq_cF S0 (rs_si S 80 6 (nI x)) ∧ tq_cT T n (rs_si S 80 6 (nI x)) ∧ tq_cR (rs_si S 80 6 (nI x)) (x, tq_ts T n p) := fun x x1 x5 => by
    have g : tq_f80 S (rs_si S 80 6 (nI x)) := fun k j z => rv_gsn (by omega)
    exact ⟨tq_cF_f g f, tq_cT_cg g c, rv_gss _ _ _ _, (rv_gsn (by omega)).trans A1, x1, x5, (show tq_ts T n p ≤ 160 by omega)⟩
  rw [tq_lb c hp A hb]
  simp only [rv_b1s, rs_jn, rs_lt]
  unfold tq_body
  by_cases h8 : tq_li T n p = 8
  · rw [if_pos h8, if_neg tq_n1, if_pos h8]
    obtain ⟨x1, x2, x3⟩ := hset 2 (by omega) (by omega)
    exact ⟨_, rfl, x1, x2, fun e h => by cases h; exact x3, fun x h => by cases h⟩
  · have h0 : (0 : Int32) ≤ nI (tq_li T n p) := Int32.not_lt.mp (nI_pos (by omega))
    rw [if_neg h8, if_pos h0, if_neg h8, rv_4]
    by_cases hl : tq_li T n p < 4
    · rw [rv_le (by omega) (by omega), if_neg (by omega), if_pos hl]
      by_cases h16 : 4 ≤ a 16
      · rw [if_pos h16]
        obtain ⟨x1, x2, x3⟩ := hset 5 (by omega) (by omega)
        refine ⟨_, ?_, x1, x2, fun e h => by cases h; exact x3, fun x h => by cases h⟩
        unfold xf_X3_readLamp
        rw [show rs_gi S 19 1 = nI (a 16) from d.1.1, rv_4, rv_lt (by omega) (by omega), if_neg (by omega), rv_lts, rv_b1s]
        rfl
      · rw [if_neg h16]
        obtain ⟨S2, e2, y1, y2, y3, y4⟩ := tq_clamp (kd := tq_li T n p) c t3 A5 A3 f d (by omega) (by omega)
        refine ⟨S2, by rw [e2, rv_b1s], y1, y2, fun e h => ?_, fun x h => ?_⟩
        · rcases e3 : tq_pl3 T n (tq_te T n p) with z | z
          · rw [e3] at h
            cases h
            exact y3 _ e3
          · rw [e3] at h
            cases h
        · rcases e3 : tq_pl3 T n (tq_te T n p) with z | z
          · rw [e3] at h
            cases h
          · rw [e3] at h
            cases h
            exact y4 _ e3
    · rw [rv_le (by omega) (by omega), if_pos (by omega), if_neg hl, pk_sub (by omega)]
      cases hbi : rv_bi m (tq_li T n p - 4) with
      | true =>
        obtain ⟨x1, x2, x3⟩ := hset 4 (by omega) (by omega)
        rw [if_pos rfl]
        refine ⟨_, ?_, x1, x2, fun e h => by cases h; exact x3, fun x h => by cases h⟩
        unfold xf_X3_readRule
        rw [d.2, rv_btn (by omega) (by omega), hbi, if_pos rfl, if_pos rfl, rv_lts, rv_b1s]
        rfl
      | false =>
        rw [if_neg (by decide)]
        obtain ⟨S2, e2, y1, y2, y3, y4⟩ := tq_crule (w := tq_li T n p - 4) c t3 A5 A3 f d hc16 hm (by omega) hbi
        refine ⟨S2, by rw [e2, rv_b1s], y1, y2, fun e h => ?_, fun x h => ?_⟩
        · rcases e3 : tq_rule T n (tq_te T n p) (tq_li T n p - 4) with z | z
          · rw [e3] at h
            cases h
            exact y3 _ e3
          · rw [e3] at h
            cases h
        · rcases e3 : tq_rule T n (tq_te T n p) (tq_li T n p - 4) with z | z
          · rw [e3] at h
            cases h
          · rw [e3] at h
            cases h
            exact y4 _ e3
