def xf_J7_fill_53178_l5 (a1 : Nat) (a2 : Int32) (x1 : Int32) (K5 : rs_St → Int32 → Option rs_St) : Nat → rs_St → Int32 → Option rs_St
  | 0, _, _ => none
  | n5 + 1, S2, x3 => if x1 ≤ x3 then K5 S2 x3 else if x3 < 0 ∨ (rs_ln a1) ≤ x3.toNatClampNeg then none else rs_lt (rs_si S2 a1 x3.toNatClampNeg a2) (fun S5 => rs_lt (x3 + 1) (fun x7 => xf_J7_fill_53178_l5 a1 a2 x1 K5 n5 S5 x7))
def xf_J7_fill_53178 (S : rs_St) (a1 : Nat) (a2 : Int32) : Option rs_St := rs_lt (Int32.ofNat (rs_ln a1)) (fun x1 => xf_J7_fill_53178_l5 a1 a2 x1 (fun (S8 : rs_St) (x9 : Int32) => some S8) rs_fu S 0)
set_option maxRecDepth 100000 in
theorem c_J7_fill_53178 (l : Launch) (G : rs_G) (hG : rs_ok G) (S : rs_St) (a1 : Nat) (a2 : Int32) (hk1 : rs_kd a1 = 6) (o : rs_St) (h : xf_J7_fill_53178 S a1 a2 = some o) : Met l yJ7_fill_53178 (rs_wz yJ7_fill_53178 cJ7_fill_53178 4 none) (rs_rm 2) (va_Pc [.ref (rs_ad G a1), .int a2] (rs_pre G S)) (va_Qv (fun S2 => S2 = o) (rs_post G) (rs_A G)) 0 0 (rs_A G) := by
  refine rs_met hG (by decide) (Nat.le_of_ble_eq_true rfl) ?_
  intro p e s m args below meth c C hr hlk
  rw [xf_J7_fill_53178] at h
  refine rs_iconst (v := 0) C dJ7_fill_53178_0 (by decide) rfl ?_
  refine rs_istore_n (i := 2) C dJ7_fill_53178_1 rfl (by decide) rfl ?_
  refine rs_aload_n (i := 0) C dJ7_fill_53178_2 rfl rfl rfl ?_
  refine rs_alenc C hk1 rfl rfl dJ7_fill_53178_3 rfl ?_
  refine rs_nmi h (fun x1 h => ?_)
  refine rs_istore_n (i := 3) C dJ7_fill_53178_4 rfl (by decide) rfl ?_
  refine rs_kw (F := fun K => xf_J7_fill_53178_l5 a1 a2 x1 K rs_fu S 0) (P := fun K => ∀ (S8 : rs_St) (x9 : Int32), K S8 x9 = some o → rs_Xv G 4 p l e (rs_rm 2) s m args below meth c o S8 20 [(0, .ref (rs_ad G a1)), (1, .int a2), (2, .int x9), (3, .int x1)] []) h (fun S8 x9 h => ?_) (fun K5 hK5 h => ?_)
  · exact rs_vret C hr hlk h dJ7_fill_53178_20
  · have L5 : ∀ (n5 : Nat) (S2 : rs_St) (x3 : Int32), xf_J7_fill_53178_l5 a1 a2 x1 K5 n5 S2 x3 = some o → rs_Xv G 4 p l e (rs_rm 2) s m args below meth c o S2 5 [(0, .ref (rs_ad G a1)), (1, .int a2), (2, .int x3), (3, .int x1)] [] := by
      intro n5
      induction n5 with
      | zero => intro S2 x3 h; exact (rs_no h).elim
      | succ n5 ih5 =>
        intro S2 x3 h
        rw [xf_J7_fill_53178_l5] at h
        refine rs_iload_n (i := 2) C dJ7_fill_53178_5 rfl rfl rfl ?_
        refine rs_iload_n (i := 3) C dJ7_fill_53178_6 rfl rfl rfl ?_
        refine rs_icmp_ge (tgt := 20) C dJ7_fill_53178_7 (by decide) rfl (fun z4 => ?_) (fun z4 => ?_)
        · replace h := rs_it z4 h
          exact rs_subk (hK5 _ _ h) (rs_ac rfl (rs_ac rfl (rs_ac rfl (rs_ac rfl rs_a0))))
        · replace h := rs_if z4 h
          refine rs_aload_n (i := 0) C dJ7_fill_53178_10 rfl rfl rfl ?_
          refine rs_iload_n (i := 2) C dJ7_fill_53178_11 rfl rfl rfl ?_
          refine rs_iload_n (i := 1) C dJ7_fill_53178_12 rfl rfl rfl ?_
          obtain ⟨z6, h⟩ := rs_ck h
          refine rs_iastn C hk1 rfl z6 dJ7_fill_53178_13 rfl h (fun S5 h => ?_)
          refine rs_iincn (v := 1) C dJ7_fill_53178_14 rfl (by decide) (by decide) rfl h (fun x7 h => ?_)
          refine rs_goto (tgt := 5) C dJ7_fill_53178_17 (by decide) ?_
          exact rs_subk (ih5 _ _ h) (rs_ac rfl (rs_ac rfl (rs_ac rfl (rs_ac rfl rs_a0))))
    exact rs_subk (L5 rs_fu _ _ h) (rs_ac rfl (rs_ac rfl (rs_ac rfl (rs_ac rfl rs_a0))))
def xf_X4_isPart (S : rs_St) (a1 : Int32) (a2 : Int32) : Option Int32 := if a1 < 0 then some 0 else if 4 ≤ a1 then some 0 else if a1 < 0 ∨ 4 ≤ a1.toNatClampNeg then none else if a2 < (rs_sv 0 a1.toNatClampNeg) then some 0 else if a1 < 0 ∨ 4 ≤ a1.toNatClampNeg then none else if (rs_sv 1 a1.toNatClampNeg) < a2 then some 0 else some 1
set_option maxRecDepth 100000 in
theorem c_X4_isPart (l : Launch) (G : rs_G) (hG : rs_ok G) (S : rs_St) (a1 : Int32) (a2 : Int32)  (o : Int32) (h : xf_X4_isPart S a1 a2 = some o) : Met l yX4_isPart (rs_wz yX4_isPart cX4_isPart 2 (some FieldType.boolean)) (rs_rm 2) (va_Pc [.int a1, .int a2] (rs_pre G S)) (va_Qi (fun r S2 => (r, S2) = (o, S)) (rs_post G) (rs_A G)) 0 0 (rs_A G) := by
  refine rs_met hG (by decide) (Nat.le_of_ble_eq_true rfl) ?_
  intro p e s m args below meth c C hr hlk
  rw [xf_X4_isPart] at h
  refine rs_iload_n (i := 0) C dX4_isPart_0 rfl rfl rfl ?_
  refine rs_if_lt (tgt := 31) C dX4_isPart_1 (by decide) rfl (fun z1 => ?_) (fun z1 => ?_)
  · replace h := rs_it z1 h
    refine rs_iconst (v := 0) C dX4_isPart_31 (by decide) rfl ?_
    exact rs_zret C hr hlk (Or.inl rfl) (rs_pr h) dX4_isPart_32
  · replace h := rs_if z1 h
    refine rs_iload_n (i := 0) C dX4_isPart_4 rfl rfl rfl ?_
    refine rs_iconst (v := 4) C dX4_isPart_5 (by decide) rfl ?_
    refine rs_icmp_ge (tgt := 31) C dX4_isPart_6 (by decide) rfl (fun z2 => ?_) (fun z2 => ?_)
    · replace h := rs_it z2 h
      refine rs_iconst (v := 0) C dX4_isPart_31 (by decide) rfl ?_
      exact rs_zret C hr hlk (Or.inl rfl) (rs_pr h) dX4_isPart_32
    · replace h := rs_if z2 h
      refine rs_iload_n (i := 1) C dX4_isPart_9 rfl rfl rfl ?_
      refine rs_gets C 0 (by decide) wl_X4_237 dX4_isPart_10 rfl ?_
      refine rs_iload_n (i := 0) C dX4_isPart_13 rfl rfl rfl ?_
      obtain ⟨z3, h⟩ := rs_ck h
      refine rs_sald C 0 (by decide) z3 dX4_isPart_14 rfl ?_
      refine rs_icmp_lt (tgt := 31) C dX4_isPart_15 (by decide) rfl (fun z4 => ?_) (fun z4 => ?_)
      · replace h := rs_it z4 h
        refine rs_iconst (v := 0) C dX4_isPart_31 (by decide) rfl ?_
        exact rs_zret C hr hlk (Or.inl rfl) (rs_pr h) dX4_isPart_32
      · replace h := rs_if z4 h
        refine rs_iload_n (i := 1) C dX4_isPart_18 rfl rfl rfl ?_
        refine rs_gets C 1 (by decide) wl_X4_240 dX4_isPart_19 rfl ?_
        refine rs_iload_n (i := 0) C dX4_isPart_22 rfl rfl rfl ?_
        obtain ⟨z5, h⟩ := rs_ck h
        refine rs_sald C 1 (by decide) z5 dX4_isPart_23 rfl ?_
        refine rs_icmp_gt (tgt := 31) C dX4_isPart_24 (by decide) rfl (fun z6 => ?_) (fun z6 => ?_)
        · replace h := rs_it z6 h
          refine rs_iconst (v := 0) C dX4_isPart_31 (by decide) rfl ?_
          exact rs_zret C hr hlk (Or.inl rfl) (rs_pr h) dX4_isPart_32
        · replace h := rs_if z6 h
          refine rs_iconst (v := 1) C dX4_isPart_27 (by decide) rfl ?_
          refine rs_goto (tgt := 32) C dX4_isPart_28 (by decide) ?_
          exact rs_zret C hr hlk (Or.inr rfl) (rs_pr h) dX4_isPart_32
def xf_X0_copyFrom (S : rs_St) (k : Nat) (a1 : Nat) : Option rs_St := rs_lt (rs_sa S (k + 1) (va_cpy (S.1 (a1 + 1)) (S.1 (k + 1)) 0 0 4)) (fun S1 => rs_lt (rs_sa S1 (k + 2) (va_cpy (S1.1 (a1 + 2)) (S1.1 (k + 2)) 0 0 13)) (fun S2 => some S2))
set_option maxRecDepth 100000 in
theorem c_X0_copyFrom (l : Launch) (G : rs_G) (hG : rs_ok G) (S : rs_St) (k : Nat) (a1 : Nat) (hk : rs_kd k = 0) (hk1 : rs_kd a1 = 0) (o : rs_St) (h : xf_X0_copyFrom S k a1 = some o) : Met l yX0_copyFrom (rs_wz yX0_copyFrom cX0_copyFrom 2 none) (rs_rm 2) (va_Pc [.ref (rs_ad G k), .ref (rs_ad G a1)] (rs_pre G S)) (va_Qv (fun S2 => S2 = o) (rs_post G) (rs_A G)) 0 0 (rs_A G) := by
  refine rs_met hG (by decide) (Nat.le_of_ble_eq_true rfl) ?_
  intro p e s m args below meth c C hr hlk
  rw [xf_X0_copyFrom] at h
  refine rs_aload_n (i := 1) C dX0_copyFrom_0 rfl rfl rfl ?_
  refine rg_X0_0 C hk1 wl_X0_9 dX0_copyFrom_1 rfl ?_
  refine rs_iconst (v := 0) C dX0_copyFrom_4 (by decide) rfl ?_
  refine rs_aload_n (i := 0) C dX0_copyFrom_5 rfl rfl rfl ?_
  refine rg_X0_0 C hk wl_X0_9 dX0_copyFrom_6 rfl ?_
  refine rs_iconst (v := 0) C dX0_copyFrom_9 (by decide) rfl ?_
  refine rs_iconst (v := 4) C dX0_copyFrom_10 (by decide) rfl ?_
  refine rs_copyc C wl_X0_18 (by decide) (Nat.le_of_ble_eq_true rfl) (rs_k0a hk1) (rs_k0a hk) (rs_l0a hk1) (rs_l0a hk) 0 0 4 (by decide) (by decide) (by decide) (by decide) dX0_copyFrom_11 rfl h (fun S1 h => ?_)
  refine rs_aload_n (i := 1) C dX0_copyFrom_14 rfl rfl rfl ?_
  refine rg_X0_1 C hk1 wl_X0_15 dX0_copyFrom_15 rfl ?_
  refine rs_iconst (v := 0) C dX0_copyFrom_18 (by decide) rfl ?_
  refine rs_aload_n (i := 0) C dX0_copyFrom_19 rfl rfl rfl ?_
  refine rg_X0_1 C hk wl_X0_15 dX0_copyFrom_20 rfl ?_
  refine rs_iconst (v := 0) C dX0_copyFrom_23 (by decide) rfl ?_
  refine rs_aload_n (i := 0) C dX0_copyFrom_24 rfl rfl rfl ?_
  refine rg_X0_1 C hk wl_X0_15 dX0_copyFrom_25 rfl ?_
  refine rs_alenc (v := 13) C (rs_k0b hk) (rs_l0b hk) (by decide) dX0_copyFrom_28 rfl ?_
  refine rs_copyc C wl_X0_18 (by decide) (Nat.le_of_ble_eq_true rfl) (rs_k0b hk1) (rs_k0b hk) (rs_l0b hk1) (rs_l0b hk) 0 0 13 (by decide) (by decide) (by decide) (by decide) dX0_copyFrom_29 rfl h (fun S2 h => ?_)
  exact rs_vret C hr hlk h dX0_copyFrom_32
def xf_X0_givesAt (S : rs_St) (k : Nat) (a1 : Int32) : Option Int32 := rs_lt (rs_gi S (k + 1) 1) (fun x1 => rs_lt (rs_gi S (k + 1) 2) (fun x2 => rs_jn (fun (x3 : Int32) => if (rs_gi S (k + 1) 0) = 1 then if x3 = 0 then some 0 else some x1 else if (rs_gi S (k + 1) 0) = 2 then if 1 ≤ x2 then if x2 = 0 then none else some ((x1 * a1) / x2) else some 0 else if (rs_gi S (k + 1) 0) = 3 then if x3 = 0 then some (x1 / 2) else some x1 else some x1) (fun J4 => if x2 ≤ (2 * a1) then J4 0 else J4 1)))
set_option maxRecDepth 100000 in
theorem c_X0_givesAt (l : Launch) (G : rs_G) (hG : rs_ok G) (S : rs_St) (k : Nat) (a1 : Int32) (hk : rs_kd k = 0) (o : Int32) (h : xf_X0_givesAt S k a1 = some o) : Met l yX0_givesAt (rs_wz yX0_givesAt cX0_givesAt 5 (some FieldType.int)) (rs_rm 2) (va_Pc [.ref (rs_ad G k), .int a1] (rs_pre G S)) (va_Qi (fun r S2 => (r, S2) = (o, S)) (rs_post G) (rs_A G)) 0 0 (rs_A G) := by
  refine rs_met hG (by decide) (Nat.le_of_ble_eq_true rfl) ?_
  intro p e s m args below meth c C hr hlk
  rw [xf_X0_givesAt] at h
  refine rs_aload_n (i := 0) C dX0_givesAt_0 rfl rfl rfl ?_
  refine rg_X0_0 C hk wl_X0_9 dX0_givesAt_1 rfl ?_
  refine rs_iconst (v := 1) C dX0_givesAt_4 (by decide) rfl ?_
  refine rs_ialdc C (rs_k0a hk) (rs_l0a hk) 1 (by decide) (by decide) dX0_givesAt_5 rfl ?_
  refine rs_nmi h (fun x1 h => ?_)
  refine rs_istore_n (i := 2) C dX0_givesAt_6 rfl (by decide) rfl ?_
  refine rs_aload_n (i := 0) C dX0_givesAt_7 rfl rfl rfl ?_
  refine rg_X0_0 C hk wl_X0_9 dX0_givesAt_8 rfl ?_
  refine rs_iconst (v := 2) C dX0_givesAt_11 (by decide) rfl ?_
  refine rs_ialdc C (rs_k0a hk) (rs_l0a hk) 2 (by decide) (by decide) dX0_givesAt_12 rfl ?_
  refine rs_nmi h (fun x2 h => ?_)
  refine rs_istore_n (i := 3) C dX0_givesAt_13 rfl (by decide) rfl ?_
  refine rs_iconst (v := 2) C dX0_givesAt_14 (by decide) rfl ?_
  refine rs_iload_n (i := 1) C dX0_givesAt_15 rfl rfl rfl ?_
  refine rs_imul C dX0_givesAt_16 rfl ?_
  refine rs_iload_n (i := 3) C dX0_givesAt_17 rfl rfl rfl ?_
  refine rs_jw (P := fun J => ∀ (x3 : Int32), J x3 = some o → rs_Xi G 5 p l e (rs_rm 2) s m args below meth c (o, S) S 26 [(0, .ref (rs_ad G k)), (1, .int a1), (2, .int x1), (3, .int x2)] [.int x3]) h (fun x3 h => ?_) (fun J4 KJ4 h => ?_)
  · refine rs_istore C dX0_givesAt_26 (by decide) rfl ?_
    refine rs_aload_n (i := 0) C dX0_givesAt_28 rfl rfl rfl ?_
    refine rg_X0_0 C hk wl_X0_9 dX0_givesAt_29 rfl ?_
    refine rs_iconst (v := 0) C dX0_givesAt_32 (by decide) rfl ?_
    refine rs_ialdc C (rs_k0a hk) (rs_l0a hk) 0 (by decide) (by decide) dX0_givesAt_33 rfl ?_
    by_cases z6 : (rs_gi S (k + 1) 0) = 1
    · replace h := rs_it z6 h
      refine rs_tabIn (tgt := 60) C (26) dX0_givesAt_34 1 z6 (by decide) (by decide) rfl (by decide) ?_
      refine rs_iload C dX0_givesAt_60 rfl rfl ?_
      refine rs_if_eq (tgt := 69) C dX0_givesAt_62 (by decide) rfl (fun z7 => ?_) (fun z7 => ?_)
      · replace h := rs_it z7 h
        refine rs_iconst (v := 0) C dX0_givesAt_69 (by decide) rfl ?_
        exact rs_iret C hr hlk (rs_pr h) dX0_givesAt_70
      · replace h := rs_if z7 h
        refine rs_iload_n (i := 2) C dX0_givesAt_65 rfl rfl rfl ?_
        refine rs_goto (tgt := 70) C dX0_givesAt_66 (by decide) ?_
        exact rs_iret C hr hlk (rs_pr h) dX0_givesAt_70
    · replace h := rs_if z6 h
      by_cases z8 : (rs_gi S (k + 1) 0) = 2
      · replace h := rs_it z8 h
        refine rs_tabIn (tgt := 71) C (37) dX0_givesAt_34 2 z8 (by decide) (by decide) rfl (by decide) ?_
        refine rs_iload_n (i := 3) C dX0_givesAt_71 rfl rfl rfl ?_
        refine rs_iconst (v := 1) C dX0_givesAt_72 (by decide) rfl ?_
        refine rs_icmp_ge (tgt := 80) C dX0_givesAt_73 (by decide) rfl (fun z9 => ?_) (fun z9 => ?_)
        · replace h := rs_it z9 h
          refine rs_iload_n (i := 2) C dX0_givesAt_80 rfl rfl rfl ?_
          refine rs_iload_n (i := 1) C dX0_givesAt_81 rfl rfl rfl ?_
          refine rs_imul C dX0_givesAt_82 rfl ?_
          refine rs_iload_n (i := 3) C dX0_givesAt_83 rfl rfl rfl ?_
          obtain ⟨z10, h⟩ := rs_ck h
          refine rs_idiv C dX0_givesAt_84 z10 rfl ?_
          exact rs_iret C hr hlk (rs_pr h) dX0_givesAt_85
        · replace h := rs_if z9 h
          refine rs_iconst (v := 0) C dX0_givesAt_76 (by decide) rfl ?_
          refine rs_goto (tgt := 85) C dX0_givesAt_77 (by decide) ?_
          exact rs_iret C hr hlk (rs_pr h) dX0_givesAt_85
      · replace h := rs_if z8 h
        by_cases z11 : (rs_gi S (k + 1) 0) = 3
        · replace h := rs_it z11 h
          refine rs_tabIn (tgt := 86) C (52) dX0_givesAt_34 3 z11 (by decide) (by decide) rfl (by decide) ?_
          refine rs_iload C dX0_givesAt_86 rfl rfl ?_
          refine rs_if_eq (tgt := 95) C dX0_givesAt_88 (by decide) rfl (fun z12 => ?_) (fun z12 => ?_)
          · replace h := rs_it z12 h
            refine rs_iload_n (i := 2) C dX0_givesAt_95 rfl rfl rfl ?_
            refine rs_iconst (v := 2) C dX0_givesAt_96 (by decide) rfl ?_
            refine rs_idiv C dX0_givesAt_97 (by decide) rfl ?_
            exact rs_iret C hr hlk (rs_pr h) dX0_givesAt_98
          · replace h := rs_if z12 h
            refine rs_iload_n (i := 2) C dX0_givesAt_91 rfl rfl rfl ?_
            refine rs_goto (tgt := 98) C dX0_givesAt_92 (by decide) ?_
            exact rs_iret C hr hlk (rs_pr h) dX0_givesAt_98
        · replace h := rs_if z11 h
          refine rs_tabOut (tgt := 99) C dX0_givesAt_34 (by have e0 := rs_nev z6 (1) (by decide); have e1 := rs_nev z8 (2) (by decide); have e2 := rs_nev z11 (3) (by decide); omega) (by decide) ?_
          refine rs_iload_n (i := 2) C dX0_givesAt_99 rfl rfl rfl ?_
          exact rs_iret C hr hlk (rs_pr h) dX0_givesAt_100
  · refine rs_icmp_ge (tgt := 25) C dX0_givesAt_18 (by decide) rfl (fun z13 => ?_) (fun z13 => ?_)
    · replace h := rs_it z13 h
      refine rs_iconst (v := 0) C dX0_givesAt_25 (by decide) rfl ?_
      exact rs_subk (KJ4 _ h) (rs_ac rfl (rs_ac rfl (rs_ac rfl (rs_ac rfl rs_a0))))
    · replace h := rs_if z13 h
      refine rs_iconst (v := 1) C dX0_givesAt_21 (by decide) rfl ?_
      refine rs_goto (tgt := 26) C dX0_givesAt_22 (by decide) ?_
      exact rs_subk (KJ4 _ h) (rs_ac rfl (rs_ac rfl (rs_ac rfl (rs_ac rfl rs_a0))))
def xf_X0_sumUp_l2 (k : Nat) (K2 : rs_St → Int32 → Option rs_St) : Nat → rs_St → Int32 → Option rs_St
  | 0, _, _ => none
  | n2 + 1, S1, x2 => if (rs_gi S1 (k + 1) 2) ≤ x2 then K2 S1 x2 else if 12 ≤ x2 then K2 S1 x2 else if x2 < 0 ∨ 13 ≤ x2.toNatClampNeg then none else rs_b1 (xf_X0_givesAt S1 k x2) (fun r7 => if (x2 + 1) < 0 ∨ 13 ≤ (x2 + 1).toNatClampNeg then none else rs_lt (rs_si S1 (k + 2) (x2 + 1).toNatClampNeg ((rs_gi S1 (k + 2) x2.toNatClampNeg) + r7)) (fun S8 => rs_lt (x2 + 1) (fun x10 => xf_X0_sumUp_l2 k K2 n2 S8 x10)))
def xf_X0_sumUp (S : rs_St) (k : Nat) : Option rs_St := xf_X0_sumUp_l2 k (fun (S11 : rs_St) (x12 : Int32) => some S11) rs_fu S 0
set_option maxRecDepth 100000 in
theorem c_X0_sumUp (l : Launch) (G : rs_G) (hG : rs_ok G) (S : rs_St) (k : Nat) (hk : rs_kd k = 0) (o : rs_St) (h : xf_X0_sumUp S k = some o) : Met l yX0_sumUp (rs_wz yX0_sumUp cX0_sumUp 2 none) (rs_rm 3) (va_Pc [.ref (rs_ad G k)] (rs_pre G S)) (va_Qv (fun S2 => S2 = o) (rs_post G) (rs_A G)) 0 0 (rs_A G) := by
  refine rs_met hG (by decide) (Nat.le_of_ble_eq_true rfl) ?_
  intro p e s m args below meth c C hr hlk
  rw [xf_X0_sumUp] at h
  refine rs_iconst (v := 0) C dX0_sumUp_0 (by decide) rfl ?_
  refine rs_istore_n (i := 1) C dX0_sumUp_1 rfl (by decide) rfl ?_
  refine rs_kw (F := fun K => xf_X0_sumUp_l2 k K rs_fu S 0) (P := fun K => ∀ (S11 : rs_St) (x12 : Int32), K S11 x12 = some o → rs_Xv G 2 p l e (rs_rm 3) s m args below meth c o S11 44 [(0, .ref (rs_ad G k)), (1, .int x12)] []) h (fun S11 x12 h => ?_) (fun K2 hK2 h => ?_)
  · exact rs_vret C hr hlk h dX0_sumUp_44
  · have L2 : ∀ (n2 : Nat) (S1 : rs_St) (x2 : Int32), xf_X0_sumUp_l2 k K2 n2 S1 x2 = some o → rs_Xv G 2 p l e (rs_rm 3) s m args below meth c o S1 2 [(0, .ref (rs_ad G k)), (1, .int x2)] [] := by
      intro n2
      induction n2 with
      | zero => intro S1 x2 h; exact (rs_no h).elim
      | succ n2 ih2 =>
        intro S1 x2 h
        rw [xf_X0_sumUp_l2] at h
        refine rs_iload_n (i := 1) C dX0_sumUp_2 rfl rfl rfl ?_
        refine rs_aload_n (i := 0) C dX0_sumUp_3 rfl rfl rfl ?_
        refine rg_X0_0 C hk wl_X0_9 dX0_sumUp_4 rfl ?_
        refine rs_iconst (v := 2) C dX0_sumUp_7 (by decide) rfl ?_
        refine rs_ialdc C (rs_k0a hk) (rs_l0a hk) 2 (by decide) (by decide) dX0_sumUp_8 rfl ?_
        refine rs_icmp_ge (tgt := 44) C dX0_sumUp_9 (by decide) rfl (fun z3 => ?_) (fun z3 => ?_)
        · replace h := rs_it z3 h
          exact rs_subk (hK2 _ _ h) (rs_ac rfl (rs_ac rfl rs_a0))
        · replace h := rs_if z3 h
          refine rs_iload_n (i := 1) C dX0_sumUp_12 rfl rfl rfl ?_
          refine rs_bipush (v := 12) C dX0_sumUp_13 (by decide) rfl ?_
          refine rs_icmp_ge (tgt := 44) C dX0_sumUp_15 (by decide) rfl (fun z4 => ?_) (fun z4 => ?_)
          · replace h := rs_it z4 h
            exact rs_subk (hK2 _ _ h) (rs_ac rfl (rs_ac rfl rs_a0))
          · replace h := rs_if z4 h
            refine rs_aload_n (i := 0) C dX0_sumUp_18 rfl rfl rfl ?_
            refine rg_X0_1 C hk wl_X0_15 dX0_sumUp_19 rfl ?_
            refine rs_iload_n (i := 1) C dX0_sumUp_22 rfl rfl rfl ?_
            refine rs_iconst (v := 1) C dX0_sumUp_23 (by decide) rfl ?_
            refine rs_iadd C dX0_sumUp_24 rfl ?_
            refine rs_aload_n (i := 0) C dX0_sumUp_25 rfl rfl rfl ?_
            refine rg_X0_1 C hk wl_X0_15 dX0_sumUp_26 rfl ?_
            refine rs_iload_n (i := 1) C dX0_sumUp_29 rfl rfl rfl ?_
            obtain ⟨z5, h⟩ := rs_ck h
            refine rs_ialdn C (rs_k0b hk) (rs_l0b hk) z5 dX0_sumUp_30 rfl ?_
            refine rs_aload_n (i := 0) C dX0_sumUp_31 rfl rfl rfl ?_
            refine rs_iload_n (i := 1) C dX0_sumUp_32 rfl rfl rfl ?_
            obtain ⟨r7, h6, h⟩ := rs_b1e h
            refine rs_callVi (r0 := r7) (S0 := S1) C (rs_kd_lt hk (by decide)) (rs_e0 hk) rfl (c_X0_givesAt l G hG S1 k x2 hk _ h6) ⟨wl_X0_37, wi_yX0_givesAt, wx_yX0_givesAt, wn_X0, wc_yX0_givesAt⟩ wy_yX0_givesAt (by decide) ⟨rfl, rfl⟩ rfl rfl (Nat.le_of_ble_eq_true rfl) dX0_sumUp_33 rfl ?_
            refine rs_iadd C dX0_sumUp_36 rfl ?_
            obtain ⟨z9, h⟩ := rs_ck h
            refine rs_iastn C (rs_k0b hk) (rs_l0b hk) z9 dX0_sumUp_37 rfl h (fun S8 h => ?_)
            refine rs_iincn (v := 1) C dX0_sumUp_38 rfl (by decide) (by decide) rfl h (fun x10 h => ?_)
            refine rs_goto (tgt := 2) C dX0_sumUp_41 (by decide) ?_
            exact rs_subk (ih2 _ _ h) (rs_ac rfl (rs_ac rfl rs_a0))
    exact rs_subk (L2 rs_fu _ _ h) (rs_ac rfl (rs_ac rfl rs_a0))
def xf_X0_become (S : rs_St) (k : Nat) (a1 : Int32) (a2 : Int32) : Option rs_St := rs_b1 (xf_X4_isPart S a1 a2) (fun r2 => if r2 = 0 then some S else if a1 < 0 ∨ 4 ≤ a1.toNatClampNeg then none else rs_lt (rs_si S (k + 1) a1.toNatClampNeg a2) (fun S4 => if a1 = 3 then some S4 else rs_b1 (xf_X0_sumUp S4 k) (fun S8 => some S8)))
set_option maxRecDepth 100000 in
theorem c_X0_become (l : Launch) (G : rs_G) (hG : rs_ok G) (S : rs_St) (k : Nat) (a1 : Int32) (a2 : Int32) (hk : rs_kd k = 0) (o : rs_St) (h : xf_X0_become S k a1 a2 = some o) : Met l yX0_become (rs_wz yX0_become cX0_become 3 none) (rs_rm 4) (va_Pc [.ref (rs_ad G k), .int a1, .int a2] (rs_pre G S)) (va_Qv (fun S2 => S2 = o) (rs_post G) (rs_A G)) 0 0 (rs_A G) := by
  refine rs_met hG (by decide) (Nat.le_of_ble_eq_true rfl) ?_
  intro p e s m args below meth c C hr hlk
  rw [xf_X0_become] at h
  refine rs_iload_n (i := 1) C dX0_become_0 rfl rfl rfl ?_
  refine rs_iload_n (i := 2) C dX0_become_1 rfl rfl rfl ?_
  obtain ⟨r2, h1, h⟩ := rs_b1e h
  refine rs_callNi (r0 := r2) (S0 := S) C (c_X4_isPart l G hG S a1 a2 _ h1) ⟨(by decide +kernel), ws_yX4_isPart, wn_X4, wc_yX4_isPart⟩ wy_yX4_isPart (by decide) ⟨rfl, rfl⟩ rfl rfl (Nat.le_of_ble_eq_true rfl) dX0_become_2 rfl ?_
  refine rs_if_ne (tgt := 9) C dX0_become_5 (by decide) rfl (fun z3 => ?_) (fun z3 => ?_)
  · replace h := rs_if z3 h
    refine rs_aload_n (i := 0) C dX0_become_9 rfl rfl rfl ?_
    refine rg_X0_0 C hk wl_X0_9 dX0_become_10 rfl ?_
    refine rs_iload_n (i := 1) C dX0_become_13 rfl rfl rfl ?_
    refine rs_iload_n (i := 2) C dX0_become_14 rfl rfl rfl ?_
    obtain ⟨z5, h⟩ := rs_ck h
    refine rs_iastn C (rs_k0a hk) (rs_l0a hk) z5 dX0_become_15 rfl h (fun S4 h => ?_)
    refine rs_iload_n (i := 1) C dX0_become_16 rfl rfl rfl ?_
    refine rs_iconst (v := 3) C dX0_become_17 (by decide) rfl ?_
    refine rs_icmp_eq (tgt := 25) C dX0_become_18 (by decide) rfl (fun z6 => ?_) (fun z6 => ?_)
    · replace h := rs_it z6 h
      exact rs_vret C hr hlk h dX0_become_25
    · replace h := rs_if z6 h
      refine rs_aload_n (i := 0) C dX0_become_21 rfl rfl rfl ?_
      obtain ⟨S8, h7, h⟩ := rs_b1e h
      refine rs_callVv (S0 := S8) C (rs_kd_lt hk (by decide)) (rs_e0 hk) rfl (c_X0_sumUp l G hG S4 k hk _ h7) ⟨wl_X0_28, wi_yX0_sumUp, wx_yX0_sumUp, wn_X0, wc_yX0_sumUp⟩ wy_yX0_sumUp (by decide) ⟨rfl, rfl⟩ rfl rfl (Nat.le_of_ble_eq_true rfl) dX0_become_22 rfl ?_
      exact rs_vret C hr hlk h dX0_become_25
  · replace h := rs_it z3 h
    exact rs_vret C hr hlk h dX0_become_8
def xf_X0_putOut (S : rs_St) (k : Nat) : Option rs_St := rs_b1 (xf_J7_fill_53178 S (k + 2) 0) (fun S2 => some S2)
set_option maxRecDepth 100000 in
theorem c_X0_putOut (l : Launch) (G : rs_G) (hG : rs_ok G) (S : rs_St) (k : Nat) (hk : rs_kd k = 0) (o : rs_St) (h : xf_X0_putOut S k = some o) : Met l yX0_putOut (rs_wz yX0_putOut cX0_putOut 1 none) (rs_rm 3) (va_Pc [.ref (rs_ad G k)] (rs_pre G S)) (va_Qv (fun S2 => S2 = o) (rs_post G) (rs_A G)) 0 0 (rs_A G) := by
  refine rs_met hG (by decide) (Nat.le_of_ble_eq_true rfl) ?_
  intro p e s m args below meth c C hr hlk
  rw [xf_X0_putOut] at h
  refine rs_aload_n (i := 0) C dX0_putOut_0 rfl rfl rfl ?_
  refine rg_X0_1 C hk wl_X0_15 dX0_putOut_1 rfl ?_
  refine rs_iconst (v := 0) C dX0_putOut_4 (by decide) rfl ?_
  obtain ⟨S2, h1, h⟩ := rs_b1e h
  refine rs_callSv (S0 := S2) C (c_J7_fill_53178 l G hG S (k + 2) 0 (rs_k0b hk) _ h1) ⟨wl_X0_31, ws_yJ7_fill_53178, wn_J7, wc_yJ7_fill_53178⟩ wy_yJ7_fill_53178 (by decide) ⟨rfl, rfl⟩ rfl rfl (Nat.le_of_ble_eq_true rfl) dX0_putOut_5 rfl ?_
  exact rs_vret C hr hlk h dX0_putOut_8
def xf_X0_gives (S : rs_St) (k : Nat) (a1 : Int32) (a2 : Int32) : Option Int32 := rs_lt (rs_gi S (k + 1) 2) (fun x1 => if x1 < 1 then some 0 else if 12 < x1 then some 0 else if a1 < 0 then some 0 else if 0 ≤ a2 then if x1 = 0 then none else rs_lt ((a1 + (rs_gi S (k + 1) 3)) - (a1 + (rs_gi S (k + 1) 3)) / x1 * x1) (fun x7 => if x1 = 0 then none else rs_lt (x7 + (a2 - a2 / x1 * x1)) (fun x9 => if x1 = 0 then none else rs_lt (a2 / x1) (fun x11 => rs_jn (fun (x12 : Int32) (x13 : Int32) => if x1 < 0 ∨ 13 ≤ x1.toNatClampNeg then none else if x12 < 0 ∨ 13 ≤ x12.toNatClampNeg then none else if x7 < 0 ∨ 13 ≤ x7.toNatClampNeg then none else some (((x13 * (rs_gi S (k + 2) x1.toNatClampNeg)) + (rs_gi S (k + 2) x12.toNatClampNeg)) - (rs_gi S (k + 2) x7.toNatClampNeg))) (fun J14 => if x9 < x1 then J14 x9 x11 else rs_lt (x9 - x1) (fun x19 => rs_lt (x11 + 1) (fun x20 => J14 x19 x20)))))) else some 0)
set_option maxRecDepth 100000 in
theorem c_X0_gives (l : Launch) (G : rs_G) (hG : rs_ok G) (S : rs_St) (k : Nat) (a1 : Int32) (a2 : Int32) (hk : rs_kd k = 0) (o : Int32) (h : xf_X0_gives S k a1 a2 = some o) : Met l yX0_gives (rs_wz yX0_gives cX0_gives 7 (some FieldType.int)) (rs_rm 2) (va_Pc [.ref (rs_ad G k), .int a1, .int a2] (rs_pre G S)) (va_Qi (fun r S2 => (r, S2) = (o, S)) (rs_post G) (rs_A G)) 0 0 (rs_A G) := by
  refine rs_met hG (by decide) (Nat.le_of_ble_eq_true rfl) ?_
  intro p e s m args below meth c C hr hlk
  rw [xf_X0_gives] at h
  refine rs_aload_n (i := 0) C dX0_gives_0 rfl rfl rfl ?_
  refine rg_X0_0 C hk wl_X0_9 dX0_gives_1 rfl ?_
  refine rs_iconst (v := 2) C dX0_gives_4 (by decide) rfl ?_
  refine rs_ialdc C (rs_k0a hk) (rs_l0a hk) 2 (by decide) (by decide) dX0_gives_5 rfl ?_
  refine rs_nmi h (fun x1 h => ?_)
  refine rs_istore_n (i := 3) C dX0_gives_6 rfl (by decide) rfl ?_
  refine rs_iload_n (i := 3) C dX0_gives_7 rfl rfl rfl ?_
  refine rs_iconst (v := 1) C dX0_gives_8 (by decide) rfl ?_
  refine rs_icmp_lt (tgt := 26) C dX0_gives_9 (by decide) rfl (fun z2 => ?_) (fun z2 => ?_)
  · replace h := rs_it z2 h
    refine rs_iconst (v := 0) C dX0_gives_26 (by decide) rfl ?_
    exact rs_iret C hr hlk (rs_pr h) dX0_gives_27
  · replace h := rs_if z2 h
    refine rs_iload_n (i := 3) C dX0_gives_12 rfl rfl rfl ?_
    refine rs_bipush (v := 12) C dX0_gives_13 (by decide) rfl ?_
    refine rs_icmp_gt (tgt := 26) C dX0_gives_15 (by decide) rfl (fun z3 => ?_) (fun z3 => ?_)
    · replace h := rs_it z3 h
      refine rs_iconst (v := 0) C dX0_gives_26 (by decide) rfl ?_
      exact rs_iret C hr hlk (rs_pr h) dX0_gives_27
    · replace h := rs_if z3 h
      refine rs_iload_n (i := 1) C dX0_gives_18 rfl rfl rfl ?_
      refine rs_if_lt (tgt := 26) C dX0_gives_19 (by decide) rfl (fun z4 => ?_) (fun z4 => ?_)
      · replace h := rs_it z4 h
        refine rs_iconst (v := 0) C dX0_gives_26 (by decide) rfl ?_
        exact rs_iret C hr hlk (rs_pr h) dX0_gives_27
      · replace h := rs_if z4 h
        refine rs_iload_n (i := 2) C dX0_gives_22 rfl rfl rfl ?_
        refine rs_if_ge (tgt := 28) C dX0_gives_23 (by decide) rfl (fun z5 => ?_) (fun z5 => ?_)
        · replace h := rs_it z5 h
          refine rs_iload_n (i := 1) C dX0_gives_28 rfl rfl rfl ?_
          refine rs_aload_n (i := 0) C dX0_gives_29 rfl rfl rfl ?_
          refine rg_X0_0 C hk wl_X0_9 dX0_gives_30 rfl ?_
          refine rs_iconst (v := 3) C dX0_gives_33 (by decide) rfl ?_
          refine rs_ialdc C (rs_k0a hk) (rs_l0a hk) 3 (by decide) (by decide) dX0_gives_34 rfl ?_
          refine rs_iadd C dX0_gives_35 rfl ?_
          refine rs_iload_n (i := 3) C dX0_gives_36 rfl rfl rfl ?_
          obtain ⟨z6, h⟩ := rs_ck h
          refine rs_irem C dX0_gives_37 z6 rfl ?_
          refine rs_nmi h (fun x7 h => ?_)
          refine rs_istore C dX0_gives_38 (by decide) rfl ?_
          refine rs_iload C dX0_gives_40 rfl rfl ?_
          refine rs_iload_n (i := 2) C dX0_gives_42 rfl rfl rfl ?_
          refine rs_iload_n (i := 3) C dX0_gives_43 rfl rfl rfl ?_
          obtain ⟨z8, h⟩ := rs_ck h
          refine rs_irem C dX0_gives_44 z8 rfl ?_
          refine rs_iadd C dX0_gives_45 rfl ?_
          refine rs_nmi h (fun x9 h => ?_)
          refine rs_istore C dX0_gives_46 (by decide) rfl ?_
          refine rs_iload_n (i := 2) C dX0_gives_48 rfl rfl rfl ?_
          refine rs_iload_n (i := 3) C dX0_gives_49 rfl rfl rfl ?_
          obtain ⟨z10, h⟩ := rs_ck h
          refine rs_idiv C dX0_gives_50 z10 rfl ?_
          refine rs_nmi h (fun x11 h => ?_)
          refine rs_istore C dX0_gives_51 (by decide) rfl ?_
          refine rs_iload C dX0_gives_53 rfl rfl ?_
          refine rs_iload_n (i := 3) C dX0_gives_55 rfl rfl rfl ?_
          refine rs_jw (P := fun J => ∀ (x12 : Int32) (x13 : Int32), J x12 x13 = some o → rs_Xi G 7 p l e (rs_rm 2) s m args below meth c (o, S) S 68 [(0, .ref (rs_ad G k)), (1, .int a1), (2, .int a2), (3, .int x1), (4, .int x7), (5, .int x12), (6, .int x13)] []) h (fun x12 x13 h => ?_) (fun J14 KJ14 h => ?_)
          · refine rs_iload C dX0_gives_68 rfl rfl ?_
            refine rs_aload_n (i := 0) C dX0_gives_70 rfl rfl rfl ?_
            refine rg_X0_1 C hk wl_X0_15 dX0_gives_71 rfl ?_
            refine rs_iload_n (i := 3) C dX0_gives_74 rfl rfl rfl ?_
            obtain ⟨z15, h⟩ := rs_ck h
            refine rs_ialdn C (rs_k0b hk) (rs_l0b hk) z15 dX0_gives_75 rfl ?_
            refine rs_imul C dX0_gives_76 rfl ?_
            refine rs_aload_n (i := 0) C dX0_gives_77 rfl rfl rfl ?_
            refine rg_X0_1 C hk wl_X0_15 dX0_gives_78 rfl ?_
            refine rs_iload C dX0_gives_81 rfl rfl ?_
            obtain ⟨z16, h⟩ := rs_ck h
            refine rs_ialdn C (rs_k0b hk) (rs_l0b hk) z16 dX0_gives_83 rfl ?_
            refine rs_iadd C dX0_gives_84 rfl ?_
            refine rs_aload_n (i := 0) C dX0_gives_85 rfl rfl rfl ?_
            refine rg_X0_1 C hk wl_X0_15 dX0_gives_86 rfl ?_
            refine rs_iload C dX0_gives_89 rfl rfl ?_
            obtain ⟨z17, h⟩ := rs_ck h
            refine rs_ialdn C (rs_k0b hk) (rs_l0b hk) z17 dX0_gives_91 rfl ?_
            refine rs_isub C dX0_gives_92 rfl ?_
            exact rs_iret C hr hlk (rs_pr h) dX0_gives_93
          · refine rs_icmp_lt (tgt := 68) C dX0_gives_56 (by decide) rfl (fun z18 => ?_) (fun z18 => ?_)
            · replace h := rs_it z18 h
              exact rs_subk (KJ14 _ _ h) (rs_ac rfl (rs_ac rfl (rs_ac rfl (rs_ac rfl (rs_ac rfl (rs_ac rfl (rs_ac rfl rs_a0)))))))
            · replace h := rs_if z18 h
              refine rs_iload C dX0_gives_59 rfl rfl ?_
              refine rs_iload_n (i := 3) C dX0_gives_61 rfl rfl rfl ?_
              refine rs_isub C dX0_gives_62 rfl ?_
              refine rs_nmi h (fun x19 h => ?_)
              refine rs_istore C dX0_gives_63 (by decide) rfl ?_
              refine rs_iincn (v := 1) C dX0_gives_65 rfl (by decide) (by decide) rfl h (fun x20 h => ?_)
              exact rs_subk (KJ14 _ _ h) (rs_ac rfl (rs_ac rfl (rs_ac rfl (rs_ac rfl (rs_ac rfl (rs_ac rfl (rs_ac rfl rs_a0)))))))
        · replace h := rs_if z5 h
          refine rs_iconst (v := 0) C dX0_gives_26 (by decide) rfl ?_
          exact rs_iret C hr hlk (rs_pr h) dX0_gives_27
def xf_X1_clear (S : rs_St) (k : Nat) : Option rs_St := rs_lt (rs_si S k 1 0) (fun S1 => rs_lt (rs_sa S1 (k + 2) (va_cpy (rs_sv 4) (S1.1 (k + 2)) 0 0 4)) (fun S2 => rs_lt (rs_si S2 k 3 0) (fun S3 => rs_lt (rs_si S3 k 4 0) (fun S4 => rs_lt (rs_si S4 k 6 0) (fun S5 => rs_lt (rs_si S5 k 10 0) (fun S6 => some S6))))))
set_option maxRecDepth 100000 in
theorem c_X1_clear (l : Launch) (G : rs_G) (hG : rs_ok G) (S : rs_St) (k : Nat) (hk : rs_kd k = 1) (o : rs_St) (h : xf_X1_clear S k = some o) : Met l yX1_clear (rs_wz yX1_clear cX1_clear 1 none) (rs_rm 2) (va_Pc [.ref (rs_ad G k)] (rs_pre G S)) (va_Qv (fun S2 => S2 = o) (rs_post G) (rs_A G)) 0 0 (rs_A G) := by
  refine rs_met hG (by decide) (Nat.le_of_ble_eq_true rfl) ?_
  intro p e s m args below meth c C hr hlk
  rw [xf_X1_clear] at h
  refine rs_aload_n (i := 0) C dX1_clear_0 rfl rfl rfl ?_
  refine rs_iconst (v := 0) C dX1_clear_1 (by decide) rfl ?_
  refine rp_X1_1 C hk wl_X1_43 dX1_clear_2 rfl h (fun S1 h => ?_)
  refine rs_getsN C 4 (by decide) (by decide +kernel) dX1_clear_5 rfl ?_
  refine rs_iconst (v := 0) C dX1_clear_8 (by decide) rfl ?_
  refine rs_aload_n (i := 0) C dX1_clear_9 rfl rfl rfl ?_
  refine rg_X1_2 C hk wl_X1_17 dX1_clear_10 rfl ?_
  refine rs_iconst (v := 0) C dX1_clear_13 (by decide) rfl ?_
  refine rs_iconst (v := 4) C dX1_clear_14 (by decide) rfl ?_
  refine rs_copyTc C wl_X1_37 (by decide) (Nat.le_of_ble_eq_true rfl) (by decide) (rs_k1b hk) (rs_l1b hk) 0 0 4 (by decide) (by decide) (by decide) (by decide) dX1_clear_15 rfl h (fun S2 h => ?_)
  refine rs_aload_n (i := 0) C dX1_clear_18 rfl rfl rfl ?_
  refine rs_iconst (v := 0) C dX1_clear_19 (by decide) rfl ?_
  refine rp_X1_3 C hk wl_X1_47 dX1_clear_20 rfl h (fun S3 h => ?_)
  refine rs_aload_n (i := 0) C dX1_clear_23 rfl rfl rfl ?_
  refine rs_iconst (v := 0) C dX1_clear_24 (by decide) rfl ?_
  refine rp_X1_4 C hk wl_X1_50 dX1_clear_25 rfl h (fun S4 h => ?_)
  refine rs_aload_n (i := 0) C dX1_clear_28 rfl rfl rfl ?_
  refine rs_iconst (v := 0) C dX1_clear_29 (by decide) rfl ?_
  refine rp_X1_6 C hk wl_X1_53 dX1_clear_30 rfl h (fun S5 h => ?_)
  refine rs_aload_n (i := 0) C dX1_clear_33 rfl rfl rfl ?_
  refine rs_iconst (v := 0) C dX1_clear_34 (by decide) rfl ?_
  refine rp_X1_10 C hk wl_X1_56 dX1_clear_35 rfl h (fun S6 h => ?_)
  exact rs_vret C hr hlk h dX1_clear_38
def xf_X1_copyFrom_l2 (k : Nat) (a1 : Nat) (K2 : rs_St → Int32 → Option rs_St) : Nat → rs_St → Int32 → Option rs_St
  | 0, _, _ => none
  | n2 + 1, S1, x2 => if (rs_gi S1 a1 1) ≤ x2 then K2 S1 x2 else if x2 < 0 ∨ 4 ≤ x2.toNatClampNeg then none else if x2 < 0 ∨ 4 ≤ x2.toNatClampNeg then none else rs_b1 (xf_X0_copyFrom S1 ((k + 1) + 6 + 3 * x2.toNatClampNeg) ((a1 + 1) + 6 + 3 * x2.toNatClampNeg)) (fun S7 => rs_lt (x2 + 1) (fun x8 => xf_X1_copyFrom_l2 k a1 K2 n2 S7 x8))
def xf_X1_copyFrom (S : rs_St) (k : Nat) (a1 : Nat) : Option rs_St := xf_X1_copyFrom_l2 k a1 (fun (S9 : rs_St) (x10 : Int32) => rs_lt (rs_si S9 k 1 (rs_gi S9 a1 1)) (fun S11 => rs_lt (rs_sa S11 (k + 2) (va_cpy (S11.1 (a1 + 2)) (S11.1 (k + 2)) 0 0 4)) (fun S12 => rs_lt (rs_si S12 k 3 (rs_gi S12 a1 3)) (fun S13 => rs_lt (rs_si S13 k 4 (rs_gi S13 a1 4)) (fun S14 => rs_lt (rs_sa S14 (k + 3) (va_cpy (S14.1 (a1 + 3)) (S14.1 (k + 3)) 0 0 8)) (fun S15 => rs_lt (rs_si S15 k 6 (rs_gi S15 a1 6)) (fun S16 => rs_lt (rs_sa S16 (k + 4) (va_cpy (S16.1 (a1 + 4)) (S16.1 (k + 4)) 0 0 6)) (fun S17 => rs_lt (rs_sa S17 (k + 5) (va_cpy (S17.1 (a1 + 5)) (S17.1 (k + 5)) 0 0 6)) (fun S18 => rs_lt (rs_sa S18 (k + 6) (va_cpy (S18.1 (a1 + 6)) (S18.1 (k + 6)) 0 0 6)) (fun S19 => rs_lt (rs_si S19 k 10 (rs_gi S19 a1 10)) (fun S20 => some S20))))))))))) rs_fu S 0
set_option maxRecDepth 100000 in
theorem c_X1_copyFrom (l : Launch) (G : rs_G) (hG : rs_ok G) (S : rs_St) (k : Nat) (a1 : Nat) (hk : rs_kd k = 1) (hk1 : rs_kd a1 = 1) (o : rs_St) (h : xf_X1_copyFrom S k a1 = some o) : Met l yX1_copyFrom (rs_wz yX1_copyFrom cX1_copyFrom 3 none) (rs_rm 3) (va_Pc [.ref (rs_ad G k), .ref (rs_ad G a1)] (rs_pre G S)) (va_Qv (fun S2 => S2 = o) (rs_post G) (rs_A G)) 0 0 (rs_A G) := by
  refine rs_met hG (by decide) (Nat.le_of_ble_eq_true rfl) ?_
  intro p e s m args below meth c C hr hlk
  rw [xf_X1_copyFrom] at h
  refine rs_iconst (v := 0) C dX1_copyFrom_0 (by decide) rfl ?_
  refine rs_istore_n (i := 2) C dX1_copyFrom_1 rfl (by decide) rfl ?_
  refine rs_kw (F := fun K => xf_X1_copyFrom_l2 k a1 K rs_fu S 0) (P := fun K => ∀ (S9 : rs_St) (x10 : Int32), K S9 x10 = some o → rs_Xv G 3 p l e (rs_rm 3) s m args below meth c o S9 31 [(0, .ref (rs_ad G k)), (1, .ref (rs_ad G a1)), (2, .int x10)] []) h (fun S9 x10 h => ?_) (fun K2 hK2 h => ?_)
  · refine rs_aload_n (i := 0) C dX1_copyFrom_31 rfl rfl rfl ?_
    refine rs_aload_n (i := 1) C dX1_copyFrom_32 rfl rfl rfl ?_
    refine rg_X1_1 C hk1 wl_X1_43 dX1_copyFrom_33 rfl ?_
    refine rp_X1_1 C hk wl_X1_43 dX1_copyFrom_36 rfl h (fun S11 h => ?_)
    refine rs_aload_n (i := 1) C dX1_copyFrom_39 rfl rfl rfl ?_
    refine rg_X1_2 C hk1 wl_X1_17 dX1_copyFrom_40 rfl ?_
    refine rs_iconst (v := 0) C dX1_copyFrom_43 (by decide) rfl ?_
    refine rs_aload_n (i := 0) C dX1_copyFrom_44 rfl rfl rfl ?_
    refine rg_X1_2 C hk wl_X1_17 dX1_copyFrom_45 rfl ?_
    refine rs_iconst (v := 0) C dX1_copyFrom_48 (by decide) rfl ?_
    refine rs_iconst (v := 4) C dX1_copyFrom_49 (by decide) rfl ?_
    refine rs_copyc C wl_X1_37 (by decide) (Nat.le_of_ble_eq_true rfl) (rs_k1b hk1) (rs_k1b hk) (rs_l1b hk1) (rs_l1b hk) 0 0 4 (by decide) (by decide) (by decide) (by decide) dX1_copyFrom_50 rfl h (fun S12 h => ?_)
    refine rs_aload_n (i := 0) C dX1_copyFrom_53 rfl rfl rfl ?_
    refine rs_aload_n (i := 1) C dX1_copyFrom_54 rfl rfl rfl ?_
    refine rg_X1_3 C hk1 wl_X1_47 dX1_copyFrom_55 rfl ?_
    refine rp_X1_3 C hk wl_X1_47 dX1_copyFrom_58 rfl h (fun S13 h => ?_)
    refine rs_aload_n (i := 0) C dX1_copyFrom_61 rfl rfl rfl ?_
    refine rs_aload_n (i := 1) C dX1_copyFrom_62 rfl rfl rfl ?_
    refine rg_X1_4 C hk1 wl_X1_50 dX1_copyFrom_63 rfl ?_
    refine rp_X1_4 C hk wl_X1_50 dX1_copyFrom_66 rfl h (fun S14 h => ?_)
    refine rs_aload_n (i := 1) C dX1_copyFrom_69 rfl rfl rfl ?_
    refine rg_X1_5 C hk1 wl_X1_21 dX1_copyFrom_70 rfl ?_
    refine rs_iconst (v := 0) C dX1_copyFrom_73 (by decide) rfl ?_
    refine rs_aload_n (i := 0) C dX1_copyFrom_74 rfl rfl rfl ?_
    refine rg_X1_5 C hk wl_X1_21 dX1_copyFrom_75 rfl ?_
    refine rs_iconst (v := 0) C dX1_copyFrom_78 (by decide) rfl ?_
    refine rs_bipush (v := 8) C dX1_copyFrom_79 (by decide) rfl ?_
    refine rs_copyc C wl_X1_37 (by decide) (Nat.le_of_ble_eq_true rfl) (rs_k1c hk1) (rs_k1c hk) (rs_l1c hk1) (rs_l1c hk) 0 0 8 (by decide) (by decide) (by decide) (by decide) dX1_copyFrom_81 rfl h (fun S15 h => ?_)
    refine rs_aload_n (i := 0) C dX1_copyFrom_84 rfl rfl rfl ?_
    refine rs_aload_n (i := 1) C dX1_copyFrom_85 rfl rfl rfl ?_
    refine rg_X1_6 C hk1 wl_X1_53 dX1_copyFrom_86 rfl ?_
    refine rp_X1_6 C hk wl_X1_53 dX1_copyFrom_89 rfl h (fun S16 h => ?_)
    refine rs_aload_n (i := 1) C dX1_copyFrom_92 rfl rfl rfl ?_
    refine rg_X1_7 C hk1 wl_X1_24 dX1_copyFrom_93 rfl ?_
    refine rs_iconst (v := 0) C dX1_copyFrom_96 (by decide) rfl ?_
    refine rs_aload_n (i := 0) C dX1_copyFrom_97 rfl rfl rfl ?_
    refine rg_X1_7 C hk wl_X1_24 dX1_copyFrom_98 rfl ?_
    refine rs_iconst (v := 0) C dX1_copyFrom_101 (by decide) rfl ?_
    refine rs_bipush (v := 6) C dX1_copyFrom_102 (by decide) rfl ?_
    refine rs_copyc C wl_X1_37 (by decide) (Nat.le_of_ble_eq_true rfl) (rs_k1d hk1) (rs_k1d hk) (rs_l1d hk1) (rs_l1d hk) 0 0 6 (by decide) (by decide) (by decide) (by decide) dX1_copyFrom_104 rfl h (fun S17 h => ?_)
    refine rs_aload_n (i := 1) C dX1_copyFrom_107 rfl rfl rfl ?_
    refine rg_X1_8 C hk1 wl_X1_27 dX1_copyFrom_108 rfl ?_
    refine rs_iconst (v := 0) C dX1_copyFrom_111 (by decide) rfl ?_
    refine rs_aload_n (i := 0) C dX1_copyFrom_112 rfl rfl rfl ?_
    refine rg_X1_8 C hk wl_X1_27 dX1_copyFrom_113 rfl ?_
    refine rs_iconst (v := 0) C dX1_copyFrom_116 (by decide) rfl ?_
    refine rs_bipush (v := 6) C dX1_copyFrom_117 (by decide) rfl ?_
    refine rs_copyc C wl_X1_37 (by decide) (Nat.le_of_ble_eq_true rfl) (rs_k1e hk1) (rs_k1e hk) (rs_l1e hk1) (rs_l1e hk) 0 0 6 (by decide) (by decide) (by decide) (by decide) dX1_copyFrom_119 rfl h (fun S18 h => ?_)
    refine rs_aload_n (i := 1) C dX1_copyFrom_122 rfl rfl rfl ?_
    refine rg_X1_9 C hk1 wl_X1_30 dX1_copyFrom_123 rfl ?_
    refine rs_iconst (v := 0) C dX1_copyFrom_126 (by decide) rfl ?_
    refine rs_aload_n (i := 0) C dX1_copyFrom_127 rfl rfl rfl ?_
    refine rg_X1_9 C hk wl_X1_30 dX1_copyFrom_128 rfl ?_
    refine rs_iconst (v := 0) C dX1_copyFrom_131 (by decide) rfl ?_
    refine rs_bipush (v := 6) C dX1_copyFrom_132 (by decide) rfl ?_
    refine rs_copyc C wl_X1_37 (by decide) (Nat.le_of_ble_eq_true rfl) (rs_k1f hk1) (rs_k1f hk) (rs_l1f hk1) (rs_l1f hk) 0 0 6 (by decide) (by decide) (by decide) (by decide) dX1_copyFrom_134 rfl h (fun S19 h => ?_)
    refine rs_aload_n (i := 0) C dX1_copyFrom_137 rfl rfl rfl ?_
    refine rs_aload_n (i := 1) C dX1_copyFrom_138 rfl rfl rfl ?_
    refine rg_X1_10 C hk1 wl_X1_56 dX1_copyFrom_139 rfl ?_
    refine rp_X1_10 C hk wl_X1_56 dX1_copyFrom_142 rfl h (fun S20 h => ?_)
    exact rs_vret C hr hlk h dX1_copyFrom_145
  · have L2 : ∀ (n2 : Nat) (S1 : rs_St) (x2 : Int32), xf_X1_copyFrom_l2 k a1 K2 n2 S1 x2 = some o → rs_Xv G 3 p l e (rs_rm 3) s m args below meth c o S1 2 [(0, .ref (rs_ad G k)), (1, .ref (rs_ad G a1)), (2, .int x2)] [] := by
      intro n2
      induction n2 with
      | zero => intro S1 x2 h; exact (rs_no h).elim
      | succ n2 ih2 =>
        intro S1 x2 h
        rw [xf_X1_copyFrom_l2] at h
        refine rs_iload_n (i := 2) C dX1_copyFrom_2 rfl rfl rfl ?_
        refine rs_aload_n (i := 1) C dX1_copyFrom_3 rfl rfl rfl ?_
        refine rg_X1_1 C hk1 wl_X1_43 dX1_copyFrom_4 rfl ?_
        refine rs_icmp_ge (tgt := 31) C dX1_copyFrom_7 (by decide) rfl (fun z3 => ?_) (fun z3 => ?_)
        · replace h := rs_it z3 h
          exact rs_subk (hK2 _ _ h) (rs_ac rfl (rs_ac rfl (rs_ac rfl rs_a0)))
        · replace h := rs_if z3 h
          refine rs_aload_n (i := 0) C dX1_copyFrom_10 rfl rfl rfl ?_
          refine rg_X1_0 C hk wl_X1_11 dX1_copyFrom_11 rfl ?_
          refine rs_iload_n (i := 2) C dX1_copyFrom_14 rfl rfl rfl ?_
          obtain ⟨z4, h⟩ := rs_ck h
          refine rs_aald9 C (rs_k1a hk) z4 dX1_copyFrom_15 rfl ?_
          refine rs_aload_n (i := 1) C dX1_copyFrom_16 rfl rfl rfl ?_
          refine rg_X1_0 C hk1 wl_X1_11 dX1_copyFrom_17 rfl ?_
          refine rs_iload_n (i := 2) C dX1_copyFrom_20 rfl rfl rfl ?_
          obtain ⟨z5, h⟩ := rs_ck h
          refine rs_aald9 C (rs_k1a hk1) z5 dX1_copyFrom_21 rfl ?_
          obtain ⟨S7, h6, h⟩ := rs_b1e h
          refine rs_callVv (S0 := S7) C (rs_kd_lt (rs_k9i (rs_k1a hk) z4) (by decide)) (rs_e0 (rs_k9i (rs_k1a hk) z4)) rfl (c_X0_copyFrom l G hG S1 ((k + 1) + 6 + 3 * x2.toNatClampNeg) ((a1 + 1) + 6 + 3 * x2.toNatClampNeg) (rs_k9i (rs_k1a hk) z4) (rs_k9i (rs_k1a hk1) z5) _ h6) ⟨wl_X1_59, wi_yX0_copyFrom, wx_yX0_copyFrom, wn_X0, wc_yX0_copyFrom⟩ wy_yX0_copyFrom (by decide) ⟨rfl, rfl⟩ rfl rfl (Nat.le_of_ble_eq_true rfl) dX1_copyFrom_22 rfl ?_
          refine rs_iincn (v := 1) C dX1_copyFrom_25 rfl (by decide) (by decide) rfl h (fun x8 h => ?_)
          refine rs_goto (tgt := 2) C dX1_copyFrom_28 (by decide) ?_
          exact rs_subk (ih2 _ _ h) (rs_ac rfl (rs_ac rfl (rs_ac rfl rs_a0)))
    exact rs_subk (L2 rs_fu _ _ h) (rs_ac rfl (rs_ac rfl (rs_ac rfl rs_a0)))
def xf_X1_lampAt (S : rs_St) (k : Nat) (a1 : Int32) : Option (Option Nat) := if a1 < 0 then some (none) else if (rs_gi S k 1) ≤ a1 then some (none) else if a1 < 0 ∨ 4 ≤ a1.toNatClampNeg then none else some (some ((k + 1) + 6 + 3 * a1.toNatClampNeg))
set_option maxRecDepth 100000 in
theorem c_X1_lampAt (l : Launch) (G : rs_G) (hG : rs_ok G) (S : rs_St) (k : Nat) (a1 : Int32) (hk : rs_kd k = 1) (o : (Option Nat)) (h : xf_X1_lampAt S k a1 = some o) : Met l yX1_lampAt (rs_wz yX1_lampAt cX1_lampAt 2 (some (FieldType.object "RowShutter$Lamp"))) (rs_rm 2) (va_Pc [.ref (rs_ad G k), .int a1] (rs_pre G S)) (va_Qq (fun r S2 => (r, S2) = (o.map (rs_ad G), S)) (rs_post G) (rs_A G)) 0 0 (rs_A G) := by
  refine rs_met hG (by decide) (Nat.le_of_ble_eq_true rfl) ?_
  intro p e s m args below meth c C hr hlk
  rw [xf_X1_lampAt] at h
  refine rs_iload_n (i := 1) C dX1_lampAt_0 rfl rfl rfl ?_
  refine rs_if_lt (tgt := 21) C dX1_lampAt_1 (by decide) rfl (fun z1 => ?_) (fun z1 => ?_)
  · replace h := rs_it z1 h
    refine rs_null C dX1_lampAt_21 rfl ?_
    exact rs_aret (v := none) (mp := rs_ad G) C hr (Or.inl ⟨_, rfl⟩) hlk (rs_pr h) dX1_lampAt_22
  · replace h := rs_if z1 h
    refine rs_iload_n (i := 1) C dX1_lampAt_4 rfl rfl rfl ?_
    refine rs_aload_n (i := 0) C dX1_lampAt_5 rfl rfl rfl ?_
    refine rg_X1_1 C hk wl_X1_43 dX1_lampAt_6 rfl ?_
    refine rs_icmp_ge (tgt := 21) C dX1_lampAt_9 (by decide) rfl (fun z2 => ?_) (fun z2 => ?_)
    · replace h := rs_it z2 h
      refine rs_null C dX1_lampAt_21 rfl ?_
      exact rs_aret (v := none) (mp := rs_ad G) C hr (Or.inl ⟨_, rfl⟩) hlk (rs_pr h) dX1_lampAt_22
    · replace h := rs_if z2 h
      refine rs_aload_n (i := 0) C dX1_lampAt_12 rfl rfl rfl ?_
      refine rg_X1_0 C hk wl_X1_11 dX1_lampAt_13 rfl ?_
      refine rs_iload_n (i := 1) C dX1_lampAt_16 rfl rfl rfl ?_
      obtain ⟨z3, h⟩ := rs_ck h
      refine rs_aald9 C (rs_k1a hk) z3 dX1_lampAt_17 rfl ?_
      refine rs_goto (tgt := 22) C dX1_lampAt_18 (by decide) ?_
      exact rs_aret (v := (some ((k + 1) + 6 + 3 * a1.toNatClampNeg))) (mp := rs_ad G) C hr (Or.inl ⟨_, rfl⟩) hlk (rs_pr h) dX1_lampAt_22
def xf_X1_addLamp (S : rs_St) (k : Nat) (a1 : Int32) (a2 : Int32) (a3 : Int32) (a4 : Int32) : Option (Int32 × rs_St) := if (rs_gi S k 1) < 4 then if (rs_gi S k 1) < 0 ∨ 4 ≤ (rs_gi S k 1).toNatClampNeg then none else rs_b1 (xf_X0_become S ((k + 1) + 6 + 3 * (rs_gi S k 1).toNatClampNeg) 0 a1) (fun S4 => rs_b1 (xf_X0_become S4 ((k + 1) + 6 + 3 * (rs_gi S k 1).toNatClampNeg) 1 a2) (fun S6 => rs_b1 (xf_X0_become S6 ((k + 1) + 6 + 3 * (rs_gi S k 1).toNatClampNeg) 2 a3) (fun S8 => rs_b1 (xf_X0_become S8 ((k + 1) + 6 + 3 * (rs_gi S k 1).toNatClampNeg) 3 a4) (fun S10 => rs_lt (rs_si S10 k 1 ((rs_gi S10 k 1) + 1)) (fun S11 => some (1, S11)))))) else some (0, S)
set_option maxRecDepth 100000 in
theorem c_X1_addLamp (l : Launch) (G : rs_G) (hG : rs_ok G) (S : rs_St) (k : Nat) (a1 : Int32) (a2 : Int32) (a3 : Int32) (a4 : Int32) (hk : rs_kd k = 1) (o : (Int32 × rs_St)) (h : xf_X1_addLamp S k a1 a2 a3 a4 = some o) : Met l yX1_addLamp (rs_wz yX1_addLamp cX1_addLamp 6 (some FieldType.boolean)) (rs_rm 5) (va_Pc [.ref (rs_ad G k), .int a1, .int a2, .int a3, .int a4] (rs_pre G S)) (va_Qi (fun r S2 => (r, S2) = o) (rs_post G) (rs_A G)) 0 0 (rs_A G) := by
  refine rs_met hG (by decide) (Nat.le_of_ble_eq_true rfl) ?_
  intro p e s m args below meth c C hr hlk
  rw [xf_X1_addLamp] at h
  refine rs_aload_n (i := 0) C dX1_addLamp_0 rfl rfl rfl ?_
  refine rg_X1_1 C hk wl_X1_43 dX1_addLamp_1 rfl ?_
  refine rs_iconst (v := 4) C dX1_addLamp_4 (by decide) rfl ?_
  refine rs_icmp_lt (tgt := 10) C dX1_addLamp_5 (by decide) rfl (fun z1 => ?_) (fun z1 => ?_)
  · replace h := rs_it z1 h
    refine rs_aload_n (i := 0) C dX1_addLamp_10 rfl rfl rfl ?_
    refine rg_X1_0 C hk wl_X1_11 dX1_addLamp_11 rfl ?_
    refine rs_aload_n (i := 0) C dX1_addLamp_14 rfl rfl rfl ?_
    refine rg_X1_1 C hk wl_X1_43 dX1_addLamp_15 rfl ?_
    obtain ⟨z2, h⟩ := rs_ck h
    refine rs_aald9 C (rs_k1a hk) z2 dX1_addLamp_18 rfl ?_
    refine rs_astore C dX1_addLamp_19 (by decide) rfl ?_
    refine rs_aload C dX1_addLamp_21 rfl rfl ?_
    refine rs_iconst (v := 0) C dX1_addLamp_23 (by decide) rfl ?_
    refine rs_iload_n (i := 1) C dX1_addLamp_24 rfl rfl rfl ?_
    obtain ⟨S4, h3, h⟩ := rs_b1e h
    refine rs_callVv (S0 := S4) C (rs_kd_lt (rs_k9i (rs_k1a hk) z2) (by decide)) (rs_e0 (rs_k9i (rs_k1a hk) z2)) rfl (c_X0_become l G hG S ((k + 1) + 6 + 3 * (rs_gi S k 1).toNatClampNeg) 0 a1 (rs_k9i (rs_k1a hk) z2) _ h3) ⟨wl_X1_63, wi_yX0_become, wx_yX0_become, wn_X0, wc_yX0_become⟩ wy_yX0_become (by decide) ⟨rfl, rfl⟩ rfl rfl (Nat.le_of_ble_eq_true rfl) dX1_addLamp_25 rfl ?_
    refine rs_aload C dX1_addLamp_28 rfl rfl ?_
    refine rs_iconst (v := 1) C dX1_addLamp_30 (by decide) rfl ?_
    refine rs_iload_n (i := 2) C dX1_addLamp_31 rfl rfl rfl ?_
    obtain ⟨S6, h5, h⟩ := rs_b1e h
    refine rs_callVv (S0 := S6) C (rs_kd_lt (rs_k9i (rs_k1a hk) z2) (by decide)) (rs_e0 (rs_k9i (rs_k1a hk) z2)) rfl (c_X0_become l G hG S4 ((k + 1) + 6 + 3 * (rs_gi S k 1).toNatClampNeg) 1 a2 (rs_k9i (rs_k1a hk) z2) _ h5) ⟨wl_X1_63, wi_yX0_become, wx_yX0_become, wn_X0, wc_yX0_become⟩ wy_yX0_become (by decide) ⟨rfl, rfl⟩ rfl rfl (Nat.le_of_ble_eq_true rfl) dX1_addLamp_32 rfl ?_
    refine rs_aload C dX1_addLamp_35 rfl rfl ?_
    refine rs_iconst (v := 2) C dX1_addLamp_37 (by decide) rfl ?_
    refine rs_iload_n (i := 3) C dX1_addLamp_38 rfl rfl rfl ?_
    obtain ⟨S8, h7, h⟩ := rs_b1e h
    refine rs_callVv (S0 := S8) C (rs_kd_lt (rs_k9i (rs_k1a hk) z2) (by decide)) (rs_e0 (rs_k9i (rs_k1a hk) z2)) rfl (c_X0_become l G hG S6 ((k + 1) + 6 + 3 * (rs_gi S k 1).toNatClampNeg) 2 a3 (rs_k9i (rs_k1a hk) z2) _ h7) ⟨wl_X1_63, wi_yX0_become, wx_yX0_become, wn_X0, wc_yX0_become⟩ wy_yX0_become (by decide) ⟨rfl, rfl⟩ rfl rfl (Nat.le_of_ble_eq_true rfl) dX1_addLamp_39 rfl ?_
    refine rs_aload C dX1_addLamp_42 rfl rfl ?_
    refine rs_iconst (v := 3) C dX1_addLamp_44 (by decide) rfl ?_
    refine rs_iload C dX1_addLamp_45 rfl rfl ?_
    obtain ⟨S10, h9, h⟩ := rs_b1e h
    refine rs_callVv (S0 := S10) C (rs_kd_lt (rs_k9i (rs_k1a hk) z2) (by decide)) (rs_e0 (rs_k9i (rs_k1a hk) z2)) rfl (c_X0_become l G hG S8 ((k + 1) + 6 + 3 * (rs_gi S k 1).toNatClampNeg) 3 a4 (rs_k9i (rs_k1a hk) z2) _ h9) ⟨wl_X1_63, wi_yX0_become, wx_yX0_become, wn_X0, wc_yX0_become⟩ wy_yX0_become (by decide) ⟨rfl, rfl⟩ rfl rfl (Nat.le_of_ble_eq_true rfl) dX1_addLamp_47 rfl ?_
    refine rs_aload_n (i := 0) C dX1_addLamp_50 rfl rfl rfl ?_
    refine rs_dup C dX1_addLamp_51 rfl rfl ?_
    refine rg_X1_1 C hk wl_X1_43 dX1_addLamp_52 rfl ?_
    refine rs_iconst (v := 1) C dX1_addLamp_55 (by decide) rfl ?_
    refine rs_iadd C dX1_addLamp_56 rfl ?_
    refine rp_X1_1 C hk wl_X1_43 dX1_addLamp_57 rfl h (fun S11 h => ?_)
    refine rs_iconst (v := 1) C dX1_addLamp_60 (by decide) rfl ?_
    exact rs_zret C hr hlk (Or.inr rfl) h dX1_addLamp_61
  · replace h := rs_if z1 h
    refine rs_iconst (v := 0) C dX1_addLamp_8 (by decide) rfl ?_
    exact rs_zret C hr hlk (Or.inl rfl) h dX1_addLamp_9
def xf_X1_addSeen (S : rs_St) (k : Nat) (a1 : Int32) (a2 : Int32) (a3 : Int32) : Option (Int32 × rs_St) := if (rs_gi S k 10) < 6 then if (rs_gi S k 10) < 0 ∨ 6 ≤ (rs_gi S k 10).toNatClampNeg then none else rs_lt (rs_si S (k + 4) (rs_gi S k 10).toNatClampNeg a1) (fun S2 => if (rs_gi S2 k 10) < 0 ∨ 6 ≤ (rs_gi S2 k 10).toNatClampNeg then none else rs_lt (rs_si S2 (k + 5) (rs_gi S2 k 10).toNatClampNeg a2) (fun S4 => if (rs_gi S4 k 10) < 0 ∨ 6 ≤ (rs_gi S4 k 10).toNatClampNeg then none else rs_lt (rs_si S4 (k + 6) (rs_gi S4 k 10).toNatClampNeg a3) (fun S6 => rs_lt (rs_si S6 k 10 ((rs_gi S6 k 10) + 1)) (fun S8 => some (1, S8))))) else some (0, S)
set_option maxRecDepth 100000 in
theorem c_X1_addSeen (l : Launch) (G : rs_G) (hG : rs_ok G) (S : rs_St) (k : Nat) (a1 : Int32) (a2 : Int32) (a3 : Int32) (hk : rs_kd k = 1) (o : (Int32 × rs_St)) (h : xf_X1_addSeen S k a1 a2 a3 = some o) : Met l yX1_addSeen (rs_wz yX1_addSeen cX1_addSeen 4 (some FieldType.boolean)) (rs_rm 2) (va_Pc [.ref (rs_ad G k), .int a1, .int a2, .int a3] (rs_pre G S)) (va_Qi (fun r S2 => (r, S2) = o) (rs_post G) (rs_A G)) 0 0 (rs_A G) := by
  refine rs_met hG (by decide) (Nat.le_of_ble_eq_true rfl) ?_
  intro p e s m args below meth c C hr hlk
  rw [xf_X1_addSeen] at h
  refine rs_aload_n (i := 0) C dX1_addSeen_0 rfl rfl rfl ?_
  refine rg_X1_10 C hk wl_X1_56 dX1_addSeen_1 rfl ?_
  refine rs_bipush (v := 6) C dX1_addSeen_4 (by decide) rfl ?_
  refine rs_icmp_lt (tgt := 11) C dX1_addSeen_6 (by decide) rfl (fun z1 => ?_) (fun z1 => ?_)
  · replace h := rs_it z1 h
    refine rs_aload_n (i := 0) C dX1_addSeen_11 rfl rfl rfl ?_
    refine rg_X1_7 C hk wl_X1_24 dX1_addSeen_12 rfl ?_
    refine rs_aload_n (i := 0) C dX1_addSeen_15 rfl rfl rfl ?_
    refine rg_X1_10 C hk wl_X1_56 dX1_addSeen_16 rfl ?_
    refine rs_iload_n (i := 1) C dX1_addSeen_19 rfl rfl rfl ?_
    obtain ⟨z3, h⟩ := rs_ck h
    refine rs_iastn C (rs_k1d hk) (rs_l1d hk) z3 dX1_addSeen_20 rfl h (fun S2 h => ?_)
    refine rs_aload_n (i := 0) C dX1_addSeen_21 rfl rfl rfl ?_
    refine rg_X1_8 C hk wl_X1_27 dX1_addSeen_22 rfl ?_
    refine rs_aload_n (i := 0) C dX1_addSeen_25 rfl rfl rfl ?_
    refine rg_X1_10 C hk wl_X1_56 dX1_addSeen_26 rfl ?_
    refine rs_iload_n (i := 2) C dX1_addSeen_29 rfl rfl rfl ?_
    obtain ⟨z5, h⟩ := rs_ck h
    refine rs_iastn C (rs_k1e hk) (rs_l1e hk) z5 dX1_addSeen_30 rfl h (fun S4 h => ?_)
    refine rs_aload_n (i := 0) C dX1_addSeen_31 rfl rfl rfl ?_
    refine rg_X1_9 C hk wl_X1_30 dX1_addSeen_32 rfl ?_
    refine rs_aload_n (i := 0) C dX1_addSeen_35 rfl rfl rfl ?_
    refine rg_X1_10 C hk wl_X1_56 dX1_addSeen_36 rfl ?_
    refine rs_iload_n (i := 3) C dX1_addSeen_39 rfl rfl rfl ?_
    obtain ⟨z7, h⟩ := rs_ck h
    refine rs_iastn C (rs_k1f hk) (rs_l1f hk) z7 dX1_addSeen_40 rfl h (fun S6 h => ?_)
    refine rs_aload_n (i := 0) C dX1_addSeen_41 rfl rfl rfl ?_
    refine rs_dup C dX1_addSeen_42 rfl rfl ?_
    refine rg_X1_10 C hk wl_X1_56 dX1_addSeen_43 rfl ?_
    refine rs_iconst (v := 1) C dX1_addSeen_46 (by decide) rfl ?_
    refine rs_iadd C dX1_addSeen_47 rfl ?_
    refine rp_X1_10 C hk wl_X1_56 dX1_addSeen_48 rfl h (fun S8 h => ?_)
    refine rs_iconst (v := 1) C dX1_addSeen_51 (by decide) rfl ?_
    exact rs_zret C hr hlk (Or.inr rfl) h dX1_addSeen_52
  · replace h := rs_if z1 h
    refine rs_iconst (v := 0) C dX1_addSeen_9 (by decide) rfl ?_
    exact rs_zret C hr hlk (Or.inl rfl) h dX1_addSeen_10
def xf_X1_sumOfPart_l4 (S : rs_St) (k : Nat) (a1 : Int32) (K4 : Int32 → Int32 → Option Int32) : Nat → Int32 → Int32 → Option Int32
  | 0, _, _ => none
  | n4 + 1, x1, x2 => if (rs_gi S k 1) ≤ x2 then K4 x1 x2 else if x2 < 0 ∨ 4 ≤ x2.toNatClampNeg then none else if a1 < 0 ∨ 4 ≤ a1.toNatClampNeg then none else rs_lt (x1 + (rs_gi S (((k + 1) + 6 + 3 * x2.toNatClampNeg) + 1) a1.toNatClampNeg)) (fun x6 => rs_lt (x2 + 1) (fun x7 => xf_X1_sumOfPart_l4 S k a1 K4 n4 x6 x7))
def xf_X1_sumOfPart (S : rs_St) (k : Nat) (a1 : Int32) : Option Int32 := xf_X1_sumOfPart_l4 S k a1 (fun (x8 : Int32) (x9 : Int32) => some x8) rs_fu 0 0
set_option maxRecDepth 100000 in
theorem c_X1_sumOfPart (l : Launch) (G : rs_G) (hG : rs_ok G) (S : rs_St) (k : Nat) (a1 : Int32) (hk : rs_kd k = 1) (o : Int32) (h : xf_X1_sumOfPart S k a1 = some o) : Met l yX1_sumOfPart (rs_wz yX1_sumOfPart cX1_sumOfPart 4 (some FieldType.int)) (rs_rm 2) (va_Pc [.ref (rs_ad G k), .int a1] (rs_pre G S)) (va_Qi (fun r S2 => (r, S2) = (o, S)) (rs_post G) (rs_A G)) 0 0 (rs_A G) := by
  refine rs_met hG (by decide) (Nat.le_of_ble_eq_true rfl) ?_
  intro p e s m args below meth c C hr hlk
  rw [xf_X1_sumOfPart] at h
  refine rs_iconst (v := 0) C dX1_sumOfPart_0 (by decide) rfl ?_
  refine rs_istore_n (i := 2) C dX1_sumOfPart_1 rfl (by decide) rfl ?_
  refine rs_iconst (v := 0) C dX1_sumOfPart_2 (by decide) rfl ?_
  refine rs_istore_n (i := 3) C dX1_sumOfPart_3 rfl (by decide) rfl ?_
  refine rs_kw (F := fun K => xf_X1_sumOfPart_l4 S k a1 K rs_fu 0 0) (P := fun K => ∀ (x8 : Int32) (x9 : Int32), K x8 x9 = some o → rs_Xi G 4 p l e (rs_rm 2) s m args below meth c (o, S) S 32 [(0, .ref (rs_ad G k)), (1, .int a1), (2, .int x8), (3, .int x9)] []) h (fun x8 x9 h => ?_) (fun K4 hK4 h => ?_)
  · refine rs_iload_n (i := 2) C dX1_sumOfPart_32 rfl rfl rfl ?_
    exact rs_iret C hr hlk (rs_pr h) dX1_sumOfPart_33
  · have L4 : ∀ (n4 : Nat) (x1 : Int32) (x2 : Int32), xf_X1_sumOfPart_l4 S k a1 K4 n4 x1 x2 = some o → rs_Xi G 4 p l e (rs_rm 2) s m args below meth c (o, S) S 4 [(0, .ref (rs_ad G k)), (1, .int a1), (2, .int x1), (3, .int x2)] [] := by
      intro n4
      induction n4 with
      | zero => intro x1 x2 h; exact (rs_no h).elim
      | succ n4 ih4 =>
        intro x1 x2 h
        rw [xf_X1_sumOfPart_l4] at h
        refine rs_iload_n (i := 3) C dX1_sumOfPart_4 rfl rfl rfl ?_
        refine rs_aload_n (i := 0) C dX1_sumOfPart_5 rfl rfl rfl ?_
        refine rg_X1_1 C hk wl_X1_43 dX1_sumOfPart_6 rfl ?_
        refine rs_icmp_ge (tgt := 32) C dX1_sumOfPart_9 (by decide) rfl (fun z3 => ?_) (fun z3 => ?_)
        · replace h := rs_it z3 h
          exact rs_subk (hK4 _ _ h) (rs_ac rfl (rs_ac rfl (rs_ac rfl (rs_ac rfl rs_a0))))
        · replace h := rs_if z3 h
          refine rs_iload_n (i := 2) C dX1_sumOfPart_12 rfl rfl rfl ?_
          refine rs_aload_n (i := 0) C dX1_sumOfPart_13 rfl rfl rfl ?_
          refine rg_X1_0 C hk wl_X1_11 dX1_sumOfPart_14 rfl ?_
          refine rs_iload_n (i := 3) C dX1_sumOfPart_17 rfl rfl rfl ?_
          obtain ⟨z4, h⟩ := rs_ck h
          refine rs_aald9 C (rs_k1a hk) z4 dX1_sumOfPart_18 rfl ?_
          refine rg_X0_0 C (rs_k9i (rs_k1a hk) z4) wl_X1_67 dX1_sumOfPart_19 rfl ?_
          refine rs_iload_n (i := 1) C dX1_sumOfPart_22 rfl rfl rfl ?_
          obtain ⟨z5, h⟩ := rs_ck h
          refine rs_ialdn C (rs_k0a (rs_k9i (rs_k1a hk) z4)) (rs_l0a (rs_k9i (rs_k1a hk) z4)) z5 dX1_sumOfPart_23 rfl ?_
          refine rs_iadd C dX1_sumOfPart_24 rfl ?_
          refine rs_nmi h (fun x6 h => ?_)
          refine rs_istore_n (i := 2) C dX1_sumOfPart_25 rfl (by decide) rfl ?_
          refine rs_iincn (v := 1) C dX1_sumOfPart_26 rfl (by decide) (by decide) rfl h (fun x7 h => ?_)
          refine rs_goto (tgt := 4) C dX1_sumOfPart_29 (by decide) ?_
          exact rs_subk (ih4 _ _ h) (rs_ac rfl (rs_ac rfl (rs_ac rfl (rs_ac rfl rs_a0))))
    exact rs_subk (L4 rs_fu _ _ h) (rs_ac rfl (rs_ac rfl (rs_ac rfl (rs_ac rfl rs_a0))))
def xf_X1_lightIn_l5 (S : rs_St) (k : Nat) (a1 : Int32) (a2 : Int32) (K5 : Int32 → Int32 → Option Int32) : Nat → Int32 → Int32 → Option Int32
  | 0, _, _ => none
  | n5 + 1, x1, x2 => if (rs_gi S k 1) ≤ x2 then K5 x1 x2 else if x2 < 0 ∨ 4 ≤ x2.toNatClampNeg then none else rs_b1 (xf_X0_gives S ((k + 1) + 6 + 3 * x2.toNatClampNeg) a1 a2) (fun r6 => rs_lt (x1 + r6) (fun x7 => rs_lt (x2 + 1) (fun x8 => xf_X1_lightIn_l5 S k a1 a2 K5 n5 x7 x8)))
def xf_X1_lightIn (S : rs_St) (k : Nat) (a1 : Int32) (a2 : Int32) : Option Int32 := xf_X1_lightIn_l5 S k a1 a2 (fun (x9 : Int32) (x10 : Int32) => some x9) rs_fu 0 0
set_option maxRecDepth 100000 in
theorem c_X1_lightIn (l : Launch) (G : rs_G) (hG : rs_ok G) (S : rs_St) (k : Nat) (a1 : Int32) (a2 : Int32) (hk : rs_kd k = 1) (o : Int32) (h : xf_X1_lightIn S k a1 a2 = some o) : Met l yX1_lightIn (rs_wz yX1_lightIn cX1_lightIn 5 (some FieldType.int)) (rs_rm 3) (va_Pc [.ref (rs_ad G k), .int a1, .int a2] (rs_pre G S)) (va_Qi (fun r S2 => (r, S2) = (o, S)) (rs_post G) (rs_A G)) 0 0 (rs_A G) := by
  refine rs_met hG (by decide) (Nat.le_of_ble_eq_true rfl) ?_
  intro p e s m args below meth c C hr hlk
  rw [xf_X1_lightIn] at h
  refine rs_iconst (v := 0) C dX1_lightIn_0 (by decide) rfl ?_
  refine rs_istore_n (i := 3) C dX1_lightIn_1 rfl (by decide) rfl ?_
  refine rs_iconst (v := 0) C dX1_lightIn_2 (by decide) rfl ?_
  refine rs_istore C dX1_lightIn_3 (by decide) rfl ?_
  refine rs_kw (F := fun K => xf_X1_lightIn_l5 S k a1 a2 K rs_fu 0 0) (P := fun K => ∀ (x9 : Int32) (x10 : Int32), K x9 x10 = some o → rs_Xi G 5 p l e (rs_rm 3) s m args below meth c (o, S) S 35 [(0, .ref (rs_ad G k)), (1, .int a1), (2, .int a2), (3, .int x9), (4, .int x10)] []) h (fun x9 x10 h => ?_) (fun K5 hK5 h => ?_)
  · refine rs_iload_n (i := 3) C dX1_lightIn_35 rfl rfl rfl ?_
    exact rs_iret C hr hlk (rs_pr h) dX1_lightIn_36
  · have L5 : ∀ (n5 : Nat) (x1 : Int32) (x2 : Int32), xf_X1_lightIn_l5 S k a1 a2 K5 n5 x1 x2 = some o → rs_Xi G 5 p l e (rs_rm 3) s m args below meth c (o, S) S 5 [(0, .ref (rs_ad G k)), (1, .int a1), (2, .int a2), (3, .int x1), (4, .int x2)] [] := by
      intro n5
      induction n5 with
      | zero => intro x1 x2 h; exact (rs_no h).elim
      | succ n5 ih5 =>
        intro x1 x2 h
        rw [xf_X1_lightIn_l5] at h
        refine rs_iload C dX1_lightIn_5 rfl rfl ?_
        refine rs_aload_n (i := 0) C dX1_lightIn_7 rfl rfl rfl ?_
        refine rg_X1_1 C hk wl_X1_43 dX1_lightIn_8 rfl ?_
        refine rs_icmp_ge (tgt := 35) C dX1_lightIn_11 (by decide) rfl (fun z3 => ?_) (fun z3 => ?_)
        · replace h := rs_it z3 h
          exact rs_subk (hK5 _ _ h) (rs_ac rfl (rs_ac rfl (rs_ac rfl (rs_ac rfl (rs_ac rfl rs_a0)))))
        · replace h := rs_if z3 h
          refine rs_iload_n (i := 3) C dX1_lightIn_14 rfl rfl rfl ?_
          refine rs_aload_n (i := 0) C dX1_lightIn_15 rfl rfl rfl ?_
          refine rg_X1_0 C hk wl_X1_11 dX1_lightIn_16 rfl ?_
          refine rs_iload C dX1_lightIn_19 rfl rfl ?_
          obtain ⟨z4, h⟩ := rs_ck h
          refine rs_aald9 C (rs_k1a hk) z4 dX1_lightIn_21 rfl ?_
          refine rs_iload_n (i := 1) C dX1_lightIn_22 rfl rfl rfl ?_
          refine rs_iload_n (i := 2) C dX1_lightIn_23 rfl rfl rfl ?_
          obtain ⟨r6, h5, h⟩ := rs_b1e h
          refine rs_callVi (r0 := r6) (S0 := S) C (rs_kd_lt (rs_k9i (rs_k1a hk) z4) (by decide)) (rs_e0 (rs_k9i (rs_k1a hk) z4)) rfl (c_X0_gives l G hG S ((k + 1) + 6 + 3 * x2.toNatClampNeg) a1 a2 (rs_k9i (rs_k1a hk) z4) _ h5) ⟨wl_X1_74, wi_yX0_gives, wx_yX0_gives, wn_X0, wc_yX0_gives⟩ wy_yX0_gives (by decide) ⟨rfl, rfl⟩ rfl rfl (Nat.le_of_ble_eq_true rfl) dX1_lightIn_24 rfl ?_
          refine rs_iadd C dX1_lightIn_27 rfl ?_
          refine rs_nmi h (fun x7 h => ?_)
          refine rs_istore_n (i := 3) C dX1_lightIn_28 rfl (by decide) rfl ?_
          refine rs_iincn (v := 1) C dX1_lightIn_29 rfl (by decide) (by decide) rfl h (fun x8 h => ?_)
          refine rs_goto (tgt := 5) C dX1_lightIn_32 (by decide) ?_
          exact rs_subk (ih5 _ _ h) (rs_ac rfl (rs_ac rfl (rs_ac rfl (rs_ac rfl (rs_ac rfl rs_a0)))))
    exact rs_subk (L5 rs_fu _ _ h) (rs_ac rfl (rs_ac rfl (rs_ac rfl (rs_ac rfl (rs_ac rfl rs_a0)))))
def xf_X1_shine (S : rs_St) (k : Nat) : Option Int32 := rs_b1 (xf_X1_lightIn S k (rs_gi S k 3) 1) (fun r2 => some r2)
set_option maxRecDepth 100000 in
theorem c_X1_shine (l : Launch) (G : rs_G) (hG : rs_ok G) (S : rs_St) (k : Nat) (hk : rs_kd k = 1) (o : Int32) (h : xf_X1_shine S k = some o) : Met l yX1_shine (rs_wz yX1_shine cX1_shine 1 (some FieldType.int)) (rs_rm 4) (va_Pc [.ref (rs_ad G k)] (rs_pre G S)) (va_Qi (fun r S2 => (r, S2) = (o, S)) (rs_post G) (rs_A G)) 0 0 (rs_A G) := by
  refine rs_met hG (by decide) (Nat.le_of_ble_eq_true rfl) ?_
  intro p e s m args below meth c C hr hlk
  rw [xf_X1_shine] at h
  refine rs_aload_n (i := 0) C dX1_shine_0 rfl rfl rfl ?_
  refine rs_aload_n (i := 0) C dX1_shine_1 rfl rfl rfl ?_
  refine rg_X1_3 C hk wl_X1_47 dX1_shine_2 rfl ?_
  refine rs_iconst (v := 1) C dX1_shine_5 (by decide) rfl ?_
  obtain ⟨r2, h1, h⟩ := rs_b1e h
  refine rs_callVi (r0 := r2) (S0 := S) C (rs_kd_lt hk (by decide)) (rs_e1 hk) rfl (c_X1_lightIn l G hG S k (rs_gi S k 3) 1 hk _ h1) ⟨wl_X1_70, wi_yX1_lightIn, wx_yX1_lightIn, wn_X1, wc_yX1_lightIn⟩ wy_yX1_lightIn (by decide) ⟨rfl, rfl⟩ rfl rfl (Nat.le_of_ble_eq_true rfl) dX1_shine_6 rfl ?_
  exact rs_iret C hr hlk (rs_pr h) dX1_shine_9
def xf_X1_startOf (S : rs_St) (k : Nat) (a1 : Int32) : Option Int32 := some ((rs_gi S k 3) + (a1 * (rs_gi S (k + 2) 3)))
set_option maxRecDepth 100000 in
theorem c_X1_startOf (l : Launch) (G : rs_G) (hG : rs_ok G) (S : rs_St) (k : Nat) (a1 : Int32) (hk : rs_kd k = 1) (o : Int32) (h : xf_X1_startOf S k a1 = some o) : Met l yX1_startOf (rs_wz yX1_startOf cX1_startOf 2 (some FieldType.int)) (rs_rm 2) (va_Pc [.ref (rs_ad G k), .int a1] (rs_pre G S)) (va_Qi (fun r S2 => (r, S2) = (o, S)) (rs_post G) (rs_A G)) 0 0 (rs_A G) := by
  refine rs_met hG (by decide) (Nat.le_of_ble_eq_true rfl) ?_
  intro p e s m args below meth c C hr hlk
  rw [xf_X1_startOf] at h
  refine rs_aload_n (i := 0) C dX1_startOf_0 rfl rfl rfl ?_
  refine rg_X1_3 C hk wl_X1_47 dX1_startOf_1 rfl ?_
  refine rs_iload_n (i := 1) C dX1_startOf_4 rfl rfl rfl ?_
  refine rs_aload_n (i := 0) C dX1_startOf_5 rfl rfl rfl ?_
  refine rg_X1_2 C hk wl_X1_17 dX1_startOf_6 rfl ?_
  refine rs_iconst (v := 3) C dX1_startOf_9 (by decide) rfl ?_
  refine rs_ialdc C (rs_k1b hk) (rs_l1b hk) 3 (by decide) (by decide) dX1_startOf_10 rfl ?_
  refine rs_imul C dX1_startOf_11 rfl ?_
  refine rs_iadd C dX1_startOf_12 rfl ?_
  exact rs_iret C hr hlk (rs_pr h) dX1_startOf_13
def xf_X1_bright (S : rs_St) (k : Nat) (a1 : Int32) (a2 : Int32) : Option Int32 := rs_b1 (xf_X1_startOf S k a1) (fun r2 => rs_b1 (xf_X1_lightIn S k (r2 + ((rs_gi S (k + 2) 1) * a2)) (rs_gi S (k + 2) 2)) (fun r4 => some (if r4 < 255 then r4 else 255)))
set_option maxRecDepth 100000 in
theorem c_X1_bright (l : Launch) (G : rs_G) (hG : rs_ok G) (S : rs_St) (k : Nat) (a1 : Int32) (a2 : Int32) (hk : rs_kd k = 1) (o : Int32) (h : xf_X1_bright S k a1 a2 = some o) : Met l yX1_bright (rs_wz yX1_bright cX1_bright 3 (some FieldType.int)) (rs_rm 4) (va_Pc [.ref (rs_ad G k), .int a1, .int a2] (rs_pre G S)) (va_Qi (fun r S2 => (r, S2) = (o, S)) (rs_post G) (rs_A G)) 0 0 (rs_A G) := by
  refine rs_met hG (by decide) (Nat.le_of_ble_eq_true rfl) ?_
  intro p e s m args below meth c C hr hlk
  rw [xf_X1_bright] at h
  refine rs_sipush (v := 255) C dX1_bright_0 (by decide) rfl ?_
  refine rs_aload_n (i := 0) C dX1_bright_3 rfl rfl rfl ?_
  refine rs_aload_n (i := 0) C dX1_bright_4 rfl rfl rfl ?_
  refine rs_iload_n (i := 1) C dX1_bright_5 rfl rfl rfl ?_
  obtain ⟨r2, h1, h⟩ := rs_b1e h
  refine rs_callVi (r0 := r2) (S0 := S) C (rs_kd_lt hk (by decide)) (rs_e1 hk) rfl (c_X1_startOf l G hG S k a1 hk _ h1) ⟨wl_X1_77, wi_yX1_startOf, wx_yX1_startOf, wn_X1, wc_yX1_startOf⟩ wy_yX1_startOf (by decide) ⟨rfl, rfl⟩ rfl rfl (Nat.le_of_ble_eq_true rfl) dX1_bright_6 rfl ?_
  refine rs_aload_n (i := 0) C dX1_bright_9 rfl rfl rfl ?_
  refine rg_X1_2 C hk wl_X1_17 dX1_bright_10 rfl ?_
  refine rs_iconst (v := 1) C dX1_bright_13 (by decide) rfl ?_
  refine rs_ialdc C (rs_k1b hk) (rs_l1b hk) 1 (by decide) (by decide) dX1_bright_14 rfl ?_
  refine rs_iload_n (i := 2) C dX1_bright_15 rfl rfl rfl ?_
  refine rs_imul C dX1_bright_16 rfl ?_
  refine rs_iadd C dX1_bright_17 rfl ?_
  refine rs_aload_n (i := 0) C dX1_bright_18 rfl rfl rfl ?_
  refine rg_X1_2 C hk wl_X1_17 dX1_bright_19 rfl ?_
  refine rs_iconst (v := 2) C dX1_bright_22 (by decide) rfl ?_
  refine rs_ialdc C (rs_k1b hk) (rs_l1b hk) 2 (by decide) (by decide) dX1_bright_23 rfl ?_
  obtain ⟨r4, h3, h⟩ := rs_b1e h
  refine rs_callVi (r0 := r4) (S0 := S) C (rs_kd_lt hk (by decide)) (rs_e1 hk) rfl (c_X1_lightIn l G hG S k (r2 + ((rs_gi S (k + 2) 1) * a2)) (rs_gi S (k + 2) 2) hk _ h3) ⟨wl_X1_70, wi_yX1_lightIn, wx_yX1_lightIn, wn_X1, wc_yX1_lightIn⟩ wy_yX1_lightIn (by decide) ⟨rfl, rfl⟩ rfl rfl (Nat.le_of_ble_eq_true rfl) dX1_bright_24 rfl ?_
  refine rs_mminn C wl_X1_81 (by decide) (Nat.le_of_ble_eq_true rfl) dX1_bright_27 rfl ?_
  exact rs_iret C hr hlk (rs_pr h) dX1_bright_30
def xf_X1_bands_l9 (S : rs_St) (k : Nat) (a1 : Int32) (K9 : Int32 → Int32 → Int32 → Option Int32) : Nat → Int32 → Int32 → Int32 → Option Int32
  | 0, _, _, _ => none
  | n9 + 1, x1, x2, x3 => if (rs_gi S (k + 2) 0) ≤ x3 then K9 x1 x2 x3 else rs_b1 (xf_X1_bright S k a1 x3) (fun r6 => rs_lt (if x1 < r6 then r6 else x1) (fun x7 => rs_lt (if r6 < x2 then r6 else x2) (fun x8 => rs_lt (x3 + 1) (fun x9 => xf_X1_bands_l9 S k a1 K9 n9 x7 x8 x9))))
def xf_X1_bands (S : rs_St) (k : Nat) (a1 : Int32) : Option Int32 := xf_X1_bands_l9 S k a1 (fun (x10 : Int32) (x11 : Int32) (x12 : Int32) => some (x10 - x11)) rs_fu 0 255 0
set_option maxRecDepth 100000 in
theorem c_X1_bands (l : Launch) (G : rs_G) (hG : rs_ok G) (S : rs_St) (k : Nat) (a1 : Int32) (hk : rs_kd k = 1) (o : Int32) (h : xf_X1_bands S k a1 = some o) : Met l yX1_bands (rs_wz yX1_bands cX1_bands 6 (some FieldType.int)) (rs_rm 5) (va_Pc [.ref (rs_ad G k), .int a1] (rs_pre G S)) (va_Qi (fun r S2 => (r, S2) = (o, S)) (rs_post G) (rs_A G)) 0 0 (rs_A G) := by
  refine rs_met hG (by decide) (Nat.le_of_ble_eq_true rfl) ?_
  intro p e s m args below meth c C hr hlk
  rw [xf_X1_bands] at h
  refine rs_iconst (v := 0) C dX1_bands_0 (by decide) rfl ?_
  refine rs_istore_n (i := 2) C dX1_bands_1 rfl (by decide) rfl ?_
  refine rs_sipush (v := 255) C dX1_bands_2 (by decide) rfl ?_
  refine rs_istore_n (i := 3) C dX1_bands_5 rfl (by decide) rfl ?_
  refine rs_iconst (v := 0) C dX1_bands_6 (by decide) rfl ?_
  refine rs_istore C dX1_bands_7 (by decide) rfl ?_
  refine rs_kw (F := fun K => xf_X1_bands_l9 S k a1 K rs_fu 0 255 0) (P := fun K => ∀ (x10 : Int32) (x11 : Int32) (x12 : Int32), K x10 x11 x12 = some o → rs_Xi G 6 p l e (rs_rm 5) s m args below meth c (o, S) S 49 [(0, .ref (rs_ad G k)), (1, .int a1), (2, .int x10), (3, .int x11), (4, .int x12)] []) h (fun x10 x11 x12 h => ?_) (fun K9 hK9 h => ?_)
  · refine rs_iload_n (i := 2) C dX1_bands_49 rfl rfl rfl ?_
    refine rs_iload_n (i := 3) C dX1_bands_50 rfl rfl rfl ?_
    refine rs_isub C dX1_bands_51 rfl ?_
    exact rs_iret C hr hlk (rs_pr h) dX1_bands_52
  · have L9 : ∀ (n9 : Nat) (x1 : Int32) (x2 : Int32) (x3 : Int32), xf_X1_bands_l9 S k a1 K9 n9 x1 x2 x3 = some o → rs_Xi G 6 p l e (rs_rm 5) s m args below meth c (o, S) S 9 [(0, .ref (rs_ad G k)), (1, .int a1), (2, .int x1), (3, .int x2), (4, .int x3)] [] := by
      intro n9
      induction n9 with
      | zero => intro x1 x2 x3 h; exact (rs_no h).elim
      | succ n9 ih9 =>
        intro x1 x2 x3 h
        rw [xf_X1_bands_l9] at h
        refine rs_iload C dX1_bands_9 rfl rfl ?_
        refine rs_aload_n (i := 0) C dX1_bands_11 rfl rfl rfl ?_
        refine rg_X1_2 C hk wl_X1_17 dX1_bands_12 rfl ?_
        refine rs_iconst (v := 0) C dX1_bands_15 (by decide) rfl ?_
        refine rs_ialdc C (rs_k1b hk) (rs_l1b hk) 0 (by decide) (by decide) dX1_bands_16 rfl ?_
        refine rs_icmp_ge (tgt := 49) C dX1_bands_17 (by decide) rfl (fun z4 => ?_) (fun z4 => ?_)
        · replace h := rs_it z4 h
          exact rs_subk (hK9 _ _ _ h) (rs_ac rfl (rs_ac rfl (rs_ac rfl (rs_ac rfl (rs_ac rfl rs_a0)))))
        · replace h := rs_if z4 h
          refine rs_aload_n (i := 0) C dX1_bands_20 rfl rfl rfl ?_
          refine rs_iload_n (i := 1) C dX1_bands_21 rfl rfl rfl ?_
          refine rs_iload C dX1_bands_22 rfl rfl ?_
          obtain ⟨r6, h5, h⟩ := rs_b1e h
          refine rs_callVi (r0 := r6) (S0 := S) C (rs_kd_lt hk (by decide)) (rs_e1 hk) rfl (c_X1_bright l G hG S k a1 x3 hk _ h5) ⟨wl_X1_86, wi_yX1_bright, wx_yX1_bright, wn_X1, wc_yX1_bright⟩ wy_yX1_bright (by decide) ⟨rfl, rfl⟩ rfl rfl (Nat.le_of_ble_eq_true rfl) dX1_bands_24 rfl ?_
          refine rs_istore C dX1_bands_27 (by decide) rfl ?_
          refine rs_iload_n (i := 2) C dX1_bands_29 rfl rfl rfl ?_
          refine rs_iload C dX1_bands_30 rfl rfl ?_
          refine rs_mmaxn C wl_X1_89 (by decide) (Nat.le_of_ble_eq_true rfl) dX1_bands_32 rfl ?_
          refine rs_nmi h (fun x7 h => ?_)
          refine rs_istore_n (i := 2) C dX1_bands_35 rfl (by decide) rfl ?_
          refine rs_iload_n (i := 3) C dX1_bands_36 rfl rfl rfl ?_
          refine rs_iload C dX1_bands_37 rfl rfl ?_
          refine rs_mminn C wl_X1_81 (by decide) (Nat.le_of_ble_eq_true rfl) dX1_bands_39 rfl ?_
          refine rs_nmi h (fun x8 h => ?_)
          refine rs_istore_n (i := 3) C dX1_bands_42 rfl (by decide) rfl ?_
          refine rs_iincn (v := 1) C dX1_bands_43 rfl (by decide) (by decide) rfl h (fun x9 h => ?_)
          refine rs_goto (tgt := 9) C dX1_bands_46 (by decide) ?_
          exact rs_subk (ih9 _ _ _ h) (rs_ac rfl (rs_ac rfl (rs_ac rfl (rs_ac rfl (rs_ac rfl rs_a0)))))
    exact rs_subk (L9 rs_fu _ _ _ h) (rs_ac rfl (rs_ac rfl (rs_ac rfl (rs_ac rfl (rs_ac rfl rs_a0)))))
def xf_X1_lightOf_l4 (S : rs_St) (k : Nat) (a1 : Int32) (K4 : Int32 → Int32 → Option Int32) : Nat → Int32 → Int32 → Option Int32
  | 0, _, _ => none
  | n4 + 1, x1, x2 => if (rs_gi S (k + 2) 0) ≤ x2 then K4 x1 x2 else rs_b1 (xf_X1_bright S k a1 x2) (fun r5 => rs_lt (x1 + r5) (fun x6 => rs_lt (x2 + 1) (fun x7 => xf_X1_lightOf_l4 S k a1 K4 n4 x6 x7)))
def xf_X1_lightOf (S : rs_St) (k : Nat) (a1 : Int32) : Option Int32 := xf_X1_lightOf_l4 S k a1 (fun (x8 : Int32) (x9 : Int32) => some x8) rs_fu 0 0
set_option maxRecDepth 100000 in
theorem c_X1_lightOf (l : Launch) (G : rs_G) (hG : rs_ok G) (S : rs_St) (k : Nat) (a1 : Int32) (hk : rs_kd k = 1) (o : Int32) (h : xf_X1_lightOf S k a1 = some o) : Met l yX1_lightOf (rs_wz yX1_lightOf cX1_lightOf 4 (some FieldType.int)) (rs_rm 5) (va_Pc [.ref (rs_ad G k), .int a1] (rs_pre G S)) (va_Qi (fun r S2 => (r, S2) = (o, S)) (rs_post G) (rs_A G)) 0 0 (rs_A G) := by
  refine rs_met hG (by decide) (Nat.le_of_ble_eq_true rfl) ?_
  intro p e s m args below meth c C hr hlk
  rw [xf_X1_lightOf] at h
  refine rs_iconst (v := 0) C dX1_lightOf_0 (by decide) rfl ?_
  refine rs_istore_n (i := 2) C dX1_lightOf_1 rfl (by decide) rfl ?_
  refine rs_iconst (v := 0) C dX1_lightOf_2 (by decide) rfl ?_
  refine rs_istore_n (i := 3) C dX1_lightOf_3 rfl (by decide) rfl ?_
  refine rs_kw (F := fun K => xf_X1_lightOf_l4 S k a1 K rs_fu 0 0) (P := fun K => ∀ (x8 : Int32) (x9 : Int32), K x8 x9 = some o → rs_Xi G 4 p l e (rs_rm 5) s m args below meth c (o, S) S 29 [(0, .ref (rs_ad G k)), (1, .int a1), (2, .int x8), (3, .int x9)] []) h (fun x8 x9 h => ?_) (fun K4 hK4 h => ?_)
  · refine rs_iload_n (i := 2) C dX1_lightOf_29 rfl rfl rfl ?_
    exact rs_iret C hr hlk (rs_pr h) dX1_lightOf_30
  · have L4 : ∀ (n4 : Nat) (x1 : Int32) (x2 : Int32), xf_X1_lightOf_l4 S k a1 K4 n4 x1 x2 = some o → rs_Xi G 4 p l e (rs_rm 5) s m args below meth c (o, S) S 4 [(0, .ref (rs_ad G k)), (1, .int a1), (2, .int x1), (3, .int x2)] [] := by
      intro n4
      induction n4 with
      | zero => intro x1 x2 h; exact (rs_no h).elim
      | succ n4 ih4 =>
        intro x1 x2 h
        rw [xf_X1_lightOf_l4] at h
        refine rs_iload_n (i := 3) C dX1_lightOf_4 rfl rfl rfl ?_
        refine rs_aload_n (i := 0) C dX1_lightOf_5 rfl rfl rfl ?_
        refine rg_X1_2 C hk wl_X1_17 dX1_lightOf_6 rfl ?_
        refine rs_iconst (v := 0) C dX1_lightOf_9 (by decide) rfl ?_
        refine rs_ialdc C (rs_k1b hk) (rs_l1b hk) 0 (by decide) (by decide) dX1_lightOf_10 rfl ?_
        refine rs_icmp_ge (tgt := 29) C dX1_lightOf_11 (by decide) rfl (fun z3 => ?_) (fun z3 => ?_)
        · replace h := rs_it z3 h
          exact rs_subk (hK4 _ _ h) (rs_ac rfl (rs_ac rfl (rs_ac rfl (rs_ac rfl rs_a0))))
        · replace h := rs_if z3 h
          refine rs_iload_n (i := 2) C dX1_lightOf_14 rfl rfl rfl ?_
          refine rs_aload_n (i := 0) C dX1_lightOf_15 rfl rfl rfl ?_
          refine rs_iload_n (i := 1) C dX1_lightOf_16 rfl rfl rfl ?_
          refine rs_iload_n (i := 3) C dX1_lightOf_17 rfl rfl rfl ?_
          obtain ⟨r5, h4, h⟩ := rs_b1e h
          refine rs_callVi (r0 := r5) (S0 := S) C (rs_kd_lt hk (by decide)) (rs_e1 hk) rfl (c_X1_bright l G hG S k a1 x2 hk _ h4) ⟨wl_X1_86, wi_yX1_bright, wx_yX1_bright, wn_X1, wc_yX1_bright⟩ wy_yX1_bright (by decide) ⟨rfl, rfl⟩ rfl rfl (Nat.le_of_ble_eq_true rfl) dX1_lightOf_18 rfl ?_
          refine rs_iadd C dX1_lightOf_21 rfl ?_
          refine rs_nmi h (fun x6 h => ?_)
          refine rs_istore_n (i := 2) C dX1_lightOf_22 rfl (by decide) rfl ?_
          refine rs_iincn (v := 1) C dX1_lightOf_23 rfl (by decide) (by decide) rfl h (fun x7 h => ?_)
          refine rs_goto (tgt := 4) C dX1_lightOf_26 (by decide) ?_
          exact rs_subk (ih4 _ _ h) (rs_ac rfl (rs_ac rfl (rs_ac rfl (rs_ac rfl rs_a0))))
    exact rs_subk (L4 rs_fu _ _ h) (rs_ac rfl (rs_ac rfl (rs_ac rfl (rs_ac rfl rs_a0))))
def xf_X1_isLikeFirst_l2 (S : rs_St) (k : Nat) (a1 : Int32) (K2 : Int32 → Option Int32) : Nat → Int32 → Option Int32
  | 0, _ => none
  | n2 + 1, x1 => if (rs_gi S (k + 2) 0) ≤ x1 then K2 x1 else rs_b1 (xf_X1_bright S k a1 x1) (fun r4 => rs_b1 (xf_X1_bright S k 0 x1) (fun r6 => if r4 = r6 then rs_lt (x1 + 1) (fun x8 => xf_X1_isLikeFirst_l2 S k a1 K2 n2 x8) else some 0))
def xf_X1_isLikeFirst (S : rs_St) (k : Nat) (a1 : Int32) : Option Int32 := xf_X1_isLikeFirst_l2 S k a1 (fun (x9 : Int32) => some 1) rs_fu 0
set_option maxRecDepth 100000 in
theorem c_X1_isLikeFirst (l : Launch) (G : rs_G) (hG : rs_ok G) (S : rs_St) (k : Nat) (a1 : Int32) (hk : rs_kd k = 1) (o : Int32) (h : xf_X1_isLikeFirst S k a1 = some o) : Met l yX1_isLikeFirst (rs_wz yX1_isLikeFirst cX1_isLikeFirst 3 (some FieldType.boolean)) (rs_rm 5) (va_Pc [.ref (rs_ad G k), .int a1] (rs_pre G S)) (va_Qi (fun r S2 => (r, S2) = (o, S)) (rs_post G) (rs_A G)) 0 0 (rs_A G) := by
  refine rs_met hG (by decide) (Nat.le_of_ble_eq_true rfl) ?_
  intro p e s m args below meth c C hr hlk
  rw [xf_X1_isLikeFirst] at h
  refine rs_iconst (v := 0) C dX1_isLikeFirst_0 (by decide) rfl ?_
  refine rs_istore_n (i := 2) C dX1_isLikeFirst_1 rfl (by decide) rfl ?_
  refine rs_kw (F := fun K => xf_X1_isLikeFirst_l2 S k a1 K rs_fu 0) (P := fun K => ∀ (x9 : Int32), K x9 = some o → rs_Xi G 3 p l e (rs_rm 5) s m args below meth c (o, S) S 35 [(0, .ref (rs_ad G k)), (1, .int a1), (2, .int x9)] []) h (fun x9 h => ?_) (fun K2 hK2 h => ?_)
  · refine rs_iconst (v := 1) C dX1_isLikeFirst_35 (by decide) rfl ?_
    exact rs_zret C hr hlk (Or.inr rfl) (rs_pr h) dX1_isLikeFirst_36
  · have L2 : ∀ (n2 : Nat) (x1 : Int32), xf_X1_isLikeFirst_l2 S k a1 K2 n2 x1 = some o → rs_Xi G 3 p l e (rs_rm 5) s m args below meth c (o, S) S 2 [(0, .ref (rs_ad G k)), (1, .int a1), (2, .int x1)] [] := by
      intro n2
      induction n2 with
      | zero => intro x1 h; exact (rs_no h).elim
      | succ n2 ih2 =>
        intro x1 h
        rw [xf_X1_isLikeFirst_l2] at h
        refine rs_iload_n (i := 2) C dX1_isLikeFirst_2 rfl rfl rfl ?_
        refine rs_aload_n (i := 0) C dX1_isLikeFirst_3 rfl rfl rfl ?_
        refine rg_X1_2 C hk wl_X1_17 dX1_isLikeFirst_4 rfl ?_
        refine rs_iconst (v := 0) C dX1_isLikeFirst_7 (by decide) rfl ?_
        refine rs_ialdc C (rs_k1b hk) (rs_l1b hk) 0 (by decide) (by decide) dX1_isLikeFirst_8 rfl ?_
        refine rs_icmp_ge (tgt := 35) C dX1_isLikeFirst_9 (by decide) rfl (fun z2 => ?_) (fun z2 => ?_)
        · replace h := rs_it z2 h
          exact rs_subk (hK2 _ h) (rs_ac rfl (rs_ac rfl (rs_ac rfl rs_a0)))
        · replace h := rs_if z2 h
          refine rs_aload_n (i := 0) C dX1_isLikeFirst_12 rfl rfl rfl ?_
          refine rs_iload_n (i := 1) C dX1_isLikeFirst_13 rfl rfl rfl ?_
          refine rs_iload_n (i := 2) C dX1_isLikeFirst_14 rfl rfl rfl ?_
          obtain ⟨r4, h3, h⟩ := rs_b1e h
          refine rs_callVi (r0 := r4) (S0 := S) C (rs_kd_lt hk (by decide)) (rs_e1 hk) rfl (c_X1_bright l G hG S k a1 x1 hk _ h3) ⟨wl_X1_86, wi_yX1_bright, wx_yX1_bright, wn_X1, wc_yX1_bright⟩ wy_yX1_bright (by decide) ⟨rfl, rfl⟩ rfl rfl (Nat.le_of_ble_eq_true rfl) dX1_isLikeFirst_15 rfl ?_
          refine rs_aload_n (i := 0) C dX1_isLikeFirst_18 rfl rfl rfl ?_
          refine rs_iconst (v := 0) C dX1_isLikeFirst_19 (by decide) rfl ?_
          refine rs_iload_n (i := 2) C dX1_isLikeFirst_20 rfl rfl rfl ?_
          obtain ⟨r6, h5, h⟩ := rs_b1e h
          refine rs_callVi (r0 := r6) (S0 := S) C (rs_kd_lt hk (by decide)) (rs_e1 hk) rfl (c_X1_bright l G hG S k 0 x1 hk _ h5) ⟨wl_X1_86, wi_yX1_bright, wx_yX1_bright, wn_X1, wc_yX1_bright⟩ wy_yX1_bright (by decide) ⟨rfl, rfl⟩ rfl rfl (Nat.le_of_ble_eq_true rfl) dX1_isLikeFirst_21 rfl ?_
          refine rs_icmp_eq (tgt := 29) C dX1_isLikeFirst_24 (by decide) rfl (fun z7 => ?_) (fun z7 => ?_)
          · replace h := rs_it z7 h
            refine rs_iincn (v := 1) C dX1_isLikeFirst_29 rfl (by decide) (by decide) rfl h (fun x8 h => ?_)
            refine rs_goto (tgt := 2) C dX1_isLikeFirst_32 (by decide) ?_
            exact rs_subk (ih2 _ h) (rs_ac rfl (rs_ac rfl (rs_ac rfl rs_a0)))
          · replace h := rs_if z7 h
            refine rs_iconst (v := 0) C dX1_isLikeFirst_27 (by decide) rfl ?_
            exact rs_zret C hr hlk (Or.inl rfl) (rs_pr h) dX1_isLikeFirst_28
    exact rs_subk (L2 rs_fu _ h) (rs_ac rfl (rs_ac rfl (rs_ac rfl rs_a0)))
def xf_X1_greatestBands_l4 (S : rs_St) (k : Nat) (a1 : Int32) (K4 : Int32 → Int32 → Option Int32) : Nat → Int32 → Int32 → Option Int32
  | 0, _, _ => none
  | n4 + 1, x1, x2 => if a1 ≤ x2 then K4 x1 x2 else rs_b1 (xf_X1_bands S k x2) (fun r5 => rs_lt (if x1 < r5 then r5 else x1) (fun x6 => rs_lt (x2 + 1) (fun x7 => xf_X1_greatestBands_l4 S k a1 K4 n4 x6 x7)))
def xf_X1_greatestBands (S : rs_St) (k : Nat) (a1 : Int32) : Option Int32 := xf_X1_greatestBands_l4 S k a1 (fun (x8 : Int32) (x9 : Int32) => some x8) rs_fu 0 0
set_option maxRecDepth 100000 in
theorem c_X1_greatestBands (l : Launch) (G : rs_G) (hG : rs_ok G) (S : rs_St) (k : Nat) (a1 : Int32) (hk : rs_kd k = 1) (o : Int32) (h : xf_X1_greatestBands S k a1 = some o) : Met l yX1_greatestBands (rs_wz yX1_greatestBands cX1_greatestBands 4 (some FieldType.int)) (rs_rm 6) (va_Pc [.ref (rs_ad G k), .int a1] (rs_pre G S)) (va_Qi (fun r S2 => (r, S2) = (o, S)) (rs_post G) (rs_A G)) 0 0 (rs_A G) := by
  refine rs_met hG (by decide) (Nat.le_of_ble_eq_true rfl) ?_
  intro p e s m args below meth c C hr hlk
  rw [xf_X1_greatestBands] at h
  refine rs_iconst (v := 0) C dX1_greatestBands_0 (by decide) rfl ?_
  refine rs_istore_n (i := 2) C dX1_greatestBands_1 rfl (by decide) rfl ?_
  refine rs_iconst (v := 0) C dX1_greatestBands_2 (by decide) rfl ?_
  refine rs_istore_n (i := 3) C dX1_greatestBands_3 rfl (by decide) rfl ?_
  refine rs_kw (F := fun K => xf_X1_greatestBands_l4 S k a1 K rs_fu 0 0) (P := fun K => ∀ (x8 : Int32) (x9 : Int32), K x8 x9 = some o → rs_Xi G 4 p l e (rs_rm 6) s m args below meth c (o, S) S 25 [(0, .ref (rs_ad G k)), (1, .int a1), (2, .int x8), (3, .int x9)] []) h (fun x8 x9 h => ?_) (fun K4 hK4 h => ?_)
  · refine rs_iload_n (i := 2) C dX1_greatestBands_25 rfl rfl rfl ?_
    exact rs_iret C hr hlk (rs_pr h) dX1_greatestBands_26
  · have L4 : ∀ (n4 : Nat) (x1 : Int32) (x2 : Int32), xf_X1_greatestBands_l4 S k a1 K4 n4 x1 x2 = some o → rs_Xi G 4 p l e (rs_rm 6) s m args below meth c (o, S) S 4 [(0, .ref (rs_ad G k)), (1, .int a1), (2, .int x1), (3, .int x2)] [] := by
      intro n4
      induction n4 with
      | zero => intro x1 x2 h; exact (rs_no h).elim
      | succ n4 ih4 =>
        intro x1 x2 h
        rw [xf_X1_greatestBands_l4] at h
        refine rs_iload_n (i := 3) C dX1_greatestBands_4 rfl rfl rfl ?_
        refine rs_iload_n (i := 1) C dX1_greatestBands_5 rfl rfl rfl ?_
        refine rs_icmp_ge (tgt := 25) C dX1_greatestBands_6 (by decide) rfl (fun z3 => ?_) (fun z3 => ?_)
        · replace h := rs_it z3 h
          exact rs_subk (hK4 _ _ h) (rs_ac rfl (rs_ac rfl (rs_ac rfl (rs_ac rfl rs_a0))))
        · replace h := rs_if z3 h
          refine rs_iload_n (i := 2) C dX1_greatestBands_9 rfl rfl rfl ?_
          refine rs_aload_n (i := 0) C dX1_greatestBands_10 rfl rfl rfl ?_
          refine rs_iload_n (i := 3) C dX1_greatestBands_11 rfl rfl rfl ?_
          obtain ⟨r5, h4, h⟩ := rs_b1e h
          refine rs_callVi (r0 := r5) (S0 := S) C (rs_kd_lt hk (by decide)) (rs_e1 hk) rfl (c_X1_bands l G hG S k x2 hk _ h4) ⟨wl_X1_92, wi_yX1_bands, wx_yX1_bands, wn_X1, wc_yX1_bands⟩ wy_yX1_bands (by decide) ⟨rfl, rfl⟩ rfl rfl (Nat.le_of_ble_eq_true rfl) dX1_greatestBands_12 rfl ?_
          refine rs_mmaxn C wl_X1_89 (by decide) (Nat.le_of_ble_eq_true rfl) dX1_greatestBands_15 rfl ?_
          refine rs_nmi h (fun x6 h => ?_)
          refine rs_istore_n (i := 2) C dX1_greatestBands_18 rfl (by decide) rfl ?_
          refine rs_iincn (v := 1) C dX1_greatestBands_19 rfl (by decide) (by decide) rfl h (fun x7 h => ?_)
          refine rs_goto (tgt := 4) C dX1_greatestBands_22 (by decide) ?_
          exact rs_subk (ih4 _ _ h) (rs_ac rfl (rs_ac rfl (rs_ac rfl (rs_ac rfl rs_a0))))
    exact rs_subk (L4 rs_fu _ _ h) (rs_ac rfl (rs_ac rfl (rs_ac rfl (rs_ac rfl rs_a0))))
def xf_X1_leastBands_l14 (S : rs_St) (k : Nat) (a1 : Int32) (K14 : Int32 → Int32 → Option Int32) : Nat → Int32 → Int32 → Option Int32
  | 0, _, _ => none
  | n14 + 1, x2, x3 => if a1 ≤ x3 then K14 x2 x3 else rs_b1 (xf_X1_bands S k x3) (fun r6 => rs_lt (if r6 < x2 then r6 else x2) (fun x7 => rs_lt (x3 + 1) (fun x8 => xf_X1_leastBands_l14 S k a1 K14 n14 x7 x8)))
def xf_X1_leastBands (S : rs_St) (k : Nat) (a1 : Int32) : Option Int32 := if 1 ≤ a1 then xf_X1_leastBands_l14 S k a1 (fun (x9 : Int32) (x10 : Int32) => some x9) rs_fu 255 0 else some (-4)
set_option maxRecDepth 100000 in
theorem c_X1_leastBands (l : Launch) (G : rs_G) (hG : rs_ok G) (S : rs_St) (k : Nat) (a1 : Int32) (hk : rs_kd k = 1) (o : Int32) (h : xf_X1_leastBands S k a1 = some o) : Met l yX1_leastBands (rs_wz yX1_leastBands cX1_leastBands 4 (some FieldType.int)) (rs_rm 6) (va_Pc [.ref (rs_ad G k), .int a1] (rs_pre G S)) (va_Qi (fun r S2 => (r, S2) = (o, S)) (rs_post G) (rs_A G)) 0 0 (rs_A G) := by
  refine rs_met hG (by decide) (Nat.le_of_ble_eq_true rfl) ?_
  intro p e s m args below meth c C hr hlk
  rw [xf_X1_leastBands] at h
  refine rs_iload_n (i := 1) C dX1_leastBands_0 rfl rfl rfl ?_
  refine rs_iconst (v := 1) C dX1_leastBands_1 (by decide) rfl ?_
  refine rs_icmp_ge (tgt := 8) C dX1_leastBands_2 (by decide) rfl (fun z1 => ?_) (fun z1 => ?_)
  · replace h := rs_it z1 h
    refine rs_sipush (v := 255) C dX1_leastBands_8 (by decide) rfl ?_
    refine rs_istore_n (i := 2) C dX1_leastBands_11 rfl (by decide) rfl ?_
    refine rs_iconst (v := 0) C dX1_leastBands_12 (by decide) rfl ?_
    refine rs_istore_n (i := 3) C dX1_leastBands_13 rfl (by decide) rfl ?_
    refine rs_kw (F := fun K => xf_X1_leastBands_l14 S k a1 K rs_fu 255 0) (P := fun K => ∀ (x9 : Int32) (x10 : Int32), K x9 x10 = some o → rs_Xi G 4 p l e (rs_rm 6) s m args below meth c (o, S) S 35 [(0, .ref (rs_ad G k)), (1, .int a1), (2, .int x9), (3, .int x10)] []) h (fun x9 x10 h => ?_) (fun K14 hK14 h => ?_)
    · refine rs_iload_n (i := 2) C dX1_leastBands_35 rfl rfl rfl ?_
      exact rs_iret C hr hlk (rs_pr h) dX1_leastBands_36
    · have L14 : ∀ (n14 : Nat) (x2 : Int32) (x3 : Int32), xf_X1_leastBands_l14 S k a1 K14 n14 x2 x3 = some o → rs_Xi G 4 p l e (rs_rm 6) s m args below meth c (o, S) S 14 [(0, .ref (rs_ad G k)), (1, .int a1), (2, .int x2), (3, .int x3)] [] := by
        intro n14
        induction n14 with
        | zero => intro x2 x3 h; exact (rs_no h).elim
        | succ n14 ih14 =>
          intro x2 x3 h
          rw [xf_X1_leastBands_l14] at h
          refine rs_iload_n (i := 3) C dX1_leastBands_14 rfl rfl rfl ?_
          refine rs_iload_n (i := 1) C dX1_leastBands_15 rfl rfl rfl ?_
          refine rs_icmp_ge (tgt := 35) C dX1_leastBands_16 (by decide) rfl (fun z4 => ?_) (fun z4 => ?_)
          · replace h := rs_it z4 h
            exact rs_subk (hK14 _ _ h) (rs_ac rfl (rs_ac rfl (rs_ac rfl (rs_ac rfl rs_a0))))
          · replace h := rs_if z4 h
            refine rs_iload_n (i := 2) C dX1_leastBands_19 rfl rfl rfl ?_
            refine rs_aload_n (i := 0) C dX1_leastBands_20 rfl rfl rfl ?_
            refine rs_iload_n (i := 3) C dX1_leastBands_21 rfl rfl rfl ?_
            obtain ⟨r6, h5, h⟩ := rs_b1e h
            refine rs_callVi (r0 := r6) (S0 := S) C (rs_kd_lt hk (by decide)) (rs_e1 hk) rfl (c_X1_bands l G hG S k x3 hk _ h5) ⟨wl_X1_92, wi_yX1_bands, wx_yX1_bands, wn_X1, wc_yX1_bands⟩ wy_yX1_bands (by decide) ⟨rfl, rfl⟩ rfl rfl (Nat.le_of_ble_eq_true rfl) dX1_leastBands_22 rfl ?_
            refine rs_mminn C wl_X1_81 (by decide) (Nat.le_of_ble_eq_true rfl) dX1_leastBands_25 rfl ?_
            refine rs_nmi h (fun x7 h => ?_)
            refine rs_istore_n (i := 2) C dX1_leastBands_28 rfl (by decide) rfl ?_
            refine rs_iincn (v := 1) C dX1_leastBands_29 rfl (by decide) (by decide) rfl h (fun x8 h => ?_)
            refine rs_goto (tgt := 14) C dX1_leastBands_32 (by decide) ?_
            exact rs_subk (ih14 _ _ h) (rs_ac rfl (rs_ac rfl (rs_ac rfl (rs_ac rfl rs_a0))))
      exact rs_subk (L14 rs_fu _ _ h) (rs_ac rfl (rs_ac rfl (rs_ac rfl (rs_ac rfl rs_a0))))
  · replace h := rs_if z1 h
    refine rs_bipush (v := (-4)) C dX1_leastBands_5 (by decide) rfl ?_
    exact rs_iret C hr hlk (rs_pr h) dX1_leastBands_7
def xf_X1_lightOfShots_l4 (S : rs_St) (k : Nat) (a1 : Int32) (K4 : Int32 → Int32 → Option Int32) : Nat → Int32 → Int32 → Option Int32
  | 0, _, _ => none
  | n4 + 1, x1, x2 => if a1 ≤ x2 then K4 x1 x2 else rs_b1 (xf_X1_lightOf S k x2) (fun r5 => rs_lt (x1 + r5) (fun x6 => rs_lt (x2 + 1) (fun x7 => xf_X1_lightOfShots_l4 S k a1 K4 n4 x6 x7)))
def xf_X1_lightOfShots (S : rs_St) (k : Nat) (a1 : Int32) : Option Int32 := xf_X1_lightOfShots_l4 S k a1 (fun (x8 : Int32) (x9 : Int32) => some x8) rs_fu 0 0
set_option maxRecDepth 100000 in
theorem c_X1_lightOfShots (l : Launch) (G : rs_G) (hG : rs_ok G) (S : rs_St) (k : Nat) (a1 : Int32) (hk : rs_kd k = 1) (o : Int32) (h : xf_X1_lightOfShots S k a1 = some o) : Met l yX1_lightOfShots (rs_wz yX1_lightOfShots cX1_lightOfShots 4 (some FieldType.int)) (rs_rm 6) (va_Pc [.ref (rs_ad G k), .int a1] (rs_pre G S)) (va_Qi (fun r S2 => (r, S2) = (o, S)) (rs_post G) (rs_A G)) 0 0 (rs_A G) := by
  refine rs_met hG (by decide) (Nat.le_of_ble_eq_true rfl) ?_
  intro p e s m args below meth c C hr hlk
  rw [xf_X1_lightOfShots] at h
  refine rs_iconst (v := 0) C dX1_lightOfShots_0 (by decide) rfl ?_
  refine rs_istore_n (i := 2) C dX1_lightOfShots_1 rfl (by decide) rfl ?_
  refine rs_iconst (v := 0) C dX1_lightOfShots_2 (by decide) rfl ?_
  refine rs_istore_n (i := 3) C dX1_lightOfShots_3 rfl (by decide) rfl ?_
  refine rs_kw (F := fun K => xf_X1_lightOfShots_l4 S k a1 K rs_fu 0 0) (P := fun K => ∀ (x8 : Int32) (x9 : Int32), K x8 x9 = some o → rs_Xi G 4 p l e (rs_rm 6) s m args below meth c (o, S) S 23 [(0, .ref (rs_ad G k)), (1, .int a1), (2, .int x8), (3, .int x9)] []) h (fun x8 x9 h => ?_) (fun K4 hK4 h => ?_)
  · refine rs_iload_n (i := 2) C dX1_lightOfShots_23 rfl rfl rfl ?_
    exact rs_iret C hr hlk (rs_pr h) dX1_lightOfShots_24
  · have L4 : ∀ (n4 : Nat) (x1 : Int32) (x2 : Int32), xf_X1_lightOfShots_l4 S k a1 K4 n4 x1 x2 = some o → rs_Xi G 4 p l e (rs_rm 6) s m args below meth c (o, S) S 4 [(0, .ref (rs_ad G k)), (1, .int a1), (2, .int x1), (3, .int x2)] [] := by
      intro n4
      induction n4 with
      | zero => intro x1 x2 h; exact (rs_no h).elim
      | succ n4 ih4 =>
        intro x1 x2 h
        rw [xf_X1_lightOfShots_l4] at h
        refine rs_iload_n (i := 3) C dX1_lightOfShots_4 rfl rfl rfl ?_
        refine rs_iload_n (i := 1) C dX1_lightOfShots_5 rfl rfl rfl ?_
        refine rs_icmp_ge (tgt := 23) C dX1_lightOfShots_6 (by decide) rfl (fun z3 => ?_) (fun z3 => ?_)
        · replace h := rs_it z3 h
          exact rs_subk (hK4 _ _ h) (rs_ac rfl (rs_ac rfl (rs_ac rfl (rs_ac rfl rs_a0))))
        · replace h := rs_if z3 h
          refine rs_iload_n (i := 2) C dX1_lightOfShots_9 rfl rfl rfl ?_
          refine rs_aload_n (i := 0) C dX1_lightOfShots_10 rfl rfl rfl ?_
          refine rs_iload_n (i := 3) C dX1_lightOfShots_11 rfl rfl rfl ?_
          obtain ⟨r5, h4, h⟩ := rs_b1e h
          refine rs_callVi (r0 := r5) (S0 := S) C (rs_kd_lt hk (by decide)) (rs_e1 hk) rfl (c_X1_lightOf l G hG S k x2 hk _ h4) ⟨wl_X1_95, wi_yX1_lightOf, wx_yX1_lightOf, wn_X1, wc_yX1_lightOf⟩ wy_yX1_lightOf (by decide) ⟨rfl, rfl⟩ rfl rfl (Nat.le_of_ble_eq_true rfl) dX1_lightOfShots_12 rfl ?_
          refine rs_iadd C dX1_lightOfShots_15 rfl ?_
          refine rs_nmi h (fun x6 h => ?_)
          refine rs_istore_n (i := 2) C dX1_lightOfShots_16 rfl (by decide) rfl ?_
          refine rs_iincn (v := 1) C dX1_lightOfShots_17 rfl (by decide) (by decide) rfl h (fun x7 h => ?_)
          refine rs_goto (tgt := 4) C dX1_lightOfShots_20 (by decide) ?_
          exact rs_subk (ih4 _ _ h) (rs_ac rfl (rs_ac rfl (rs_ac rfl (rs_ac rfl rs_a0))))
    exact rs_subk (L4 rs_fu _ _ h) (rs_ac rfl (rs_ac rfl (rs_ac rfl (rs_ac rfl rs_a0))))
def xf_X1_fullRows_l12 (S : rs_St) (k : Nat) (x2 : Int32) (K12 : Int32 → Int32 → Option Int32) : Nat → Int32 → Int32 → Option Int32
  | 0, _, _ => none
  | n12 + 1, x4, x5 => if (rs_gi S (k + 2) 0) ≤ x5 then K12 x4 x5 else rs_b1 (xf_X1_bright S k x2 x5) (fun r8 => rs_jn (fun (x9 : Int32) => rs_lt (x4 + x9) (fun x11 => rs_lt (x5 + 1) (fun x12 => xf_X1_fullRows_l12 S k x2 K12 n12 x11 x12))) (fun J10 => if r8 = 255 then J10 1 else J10 0))
def xf_X1_fullRows_l4 (S : rs_St) (k : Nat) (a1 : Int32) (K4 : Int32 → Int32 → Option Int32) : Nat → Int32 → Int32 → Option Int32
  | 0, _, _ => none
  | n4 + 1, x1, x2 => if a1 ≤ x2 then K4 x1 x2 else xf_X1_fullRows_l12 S k x2 (fun (x14 : Int32) (x15 : Int32) => rs_lt (x2 + 1) (fun x16 => xf_X1_fullRows_l4 S k a1 K4 n4 x14 x16)) rs_fu x1 0
def xf_X1_fullRows (S : rs_St) (k : Nat) (a1 : Int32) : Option Int32 := xf_X1_fullRows_l4 S k a1 (fun (x17 : Int32) (x18 : Int32) => some x17) rs_fu 0 0
set_option maxRecDepth 100000 in
theorem c_X1_fullRows (l : Launch) (G : rs_G) (hG : rs_ok G) (S : rs_St) (k : Nat) (a1 : Int32) (hk : rs_kd k = 1) (o : Int32) (h : xf_X1_fullRows S k a1 = some o) : Met l yX1_fullRows (rs_wz yX1_fullRows cX1_fullRows 5 (some FieldType.int)) (rs_rm 5) (va_Pc [.ref (rs_ad G k), .int a1] (rs_pre G S)) (va_Qi (fun r S2 => (r, S2) = (o, S)) (rs_post G) (rs_A G)) 0 0 (rs_A G) := by
  refine rs_met hG (by decide) (Nat.le_of_ble_eq_true rfl) ?_
  intro p e s m args below meth c C hr hlk
  rw [xf_X1_fullRows] at h
  refine rs_iconst (v := 0) C dX1_fullRows_0 (by decide) rfl ?_
  refine rs_istore_n (i := 2) C dX1_fullRows_1 rfl (by decide) rfl ?_
  refine rs_iconst (v := 0) C dX1_fullRows_2 (by decide) rfl ?_
  refine rs_istore_n (i := 3) C dX1_fullRows_3 rfl (by decide) rfl ?_
  refine rs_kw (F := fun K => xf_X1_fullRows_l4 S k a1 K rs_fu 0 0) (P := fun K => ∀ (x17 : Int32) (x18 : Int32), K x17 x18 = some o → rs_Xi G 5 p l e (rs_rm 5) s m args below meth c (o, S) S 56 [(0, .ref (rs_ad G k)), (1, .int a1), (2, .int x17), (3, .int x18)] []) h (fun x17 x18 h => ?_) (fun K4 hK4 h => ?_)
  · refine rs_iload_n (i := 2) C dX1_fullRows_56 rfl rfl rfl ?_
    exact rs_iret C hr hlk (rs_pr h) dX1_fullRows_57
  · have L4 : ∀ (n4 : Nat) (x1 : Int32) (x2 : Int32), xf_X1_fullRows_l4 S k a1 K4 n4 x1 x2 = some o → rs_Xi G 5 p l e (rs_rm 5) s m args below meth c (o, S) S 4 [(0, .ref (rs_ad G k)), (1, .int a1), (2, .int x1), (3, .int x2)] [] := by
      intro n4
      induction n4 with
      | zero => intro x1 x2 h; exact (rs_no h).elim
      | succ n4 ih4 =>
        intro x1 x2 h
        rw [xf_X1_fullRows_l4] at h
        refine rs_iload_n (i := 3) C dX1_fullRows_4 rfl rfl rfl ?_
        refine rs_iload_n (i := 1) C dX1_fullRows_5 rfl rfl rfl ?_
        refine rs_icmp_ge (tgt := 56) C dX1_fullRows_6 (by decide) rfl (fun z3 => ?_) (fun z3 => ?_)
        · replace h := rs_it z3 h
          exact rs_subk (hK4 _ _ h) (rs_ac rfl (rs_ac rfl (rs_ac rfl (rs_ac rfl rs_a0))))
        · replace h := rs_if z3 h
          refine rs_iconst (v := 0) C dX1_fullRows_9 (by decide) rfl ?_
          refine rs_istore C dX1_fullRows_10 (by decide) rfl ?_
          refine rs_kw (F := fun K => xf_X1_fullRows_l12 S k x2 K rs_fu x1 0) (P := fun K => ∀ (x14 : Int32) (x15 : Int32), K x14 x15 = some o → rs_Xi G 5 p l e (rs_rm 5) s m args below meth c (o, S) S 50 [(0, .ref (rs_ad G k)), (1, .int a1), (2, .int x14), (3, .int x2), (4, .int x15)] []) h (fun x14 x15 h => ?_) (fun K12 hK12 h => ?_)
          · refine rs_iincn (v := 1) C dX1_fullRows_50 rfl (by decide) (by decide) rfl h (fun x16 h => ?_)
            refine rs_goto (tgt := 4) C dX1_fullRows_53 (by decide) ?_
            exact rs_subk (ih4 _ _ h) (rs_ac rfl (rs_ac rfl (rs_ac rfl (rs_ac rfl rs_a0))))
          · have L12 : ∀ (n12 : Nat) (x4 : Int32) (x5 : Int32), xf_X1_fullRows_l12 S k x2 K12 n12 x4 x5 = some o → rs_Xi G 5 p l e (rs_rm 5) s m args below meth c (o, S) S 12 [(0, .ref (rs_ad G k)), (1, .int a1), (2, .int x4), (3, .int x2), (4, .int x5)] [] := by
              intro n12
              induction n12 with
              | zero => intro x4 x5 h; exact (rs_no h).elim
              | succ n12 ih12 =>
                intro x4 x5 h
                rw [xf_X1_fullRows_l12] at h
                refine rs_iload C dX1_fullRows_12 rfl rfl ?_
                refine rs_aload_n (i := 0) C dX1_fullRows_14 rfl rfl rfl ?_
                refine rg_X1_2 C hk wl_X1_17 dX1_fullRows_15 rfl ?_
                refine rs_iconst (v := 0) C dX1_fullRows_18 (by decide) rfl ?_
                refine rs_ialdc C (rs_k1b hk) (rs_l1b hk) 0 (by decide) (by decide) dX1_fullRows_19 rfl ?_
                refine rs_icmp_ge (tgt := 50) C dX1_fullRows_20 (by decide) rfl (fun z6 => ?_) (fun z6 => ?_)
                · replace h := rs_it z6 h
                  exact rs_subk (hK12 _ _ h) (rs_ac rfl (rs_ac rfl (rs_ac rfl (rs_ac rfl (rs_ac rfl rs_a0)))))
                · replace h := rs_if z6 h
                  refine rs_iload_n (i := 2) C dX1_fullRows_23 rfl rfl rfl ?_
                  refine rs_aload_n (i := 0) C dX1_fullRows_24 rfl rfl rfl ?_
                  refine rs_iload_n (i := 3) C dX1_fullRows_25 rfl rfl rfl ?_
                  refine rs_iload C dX1_fullRows_26 rfl rfl ?_
                  obtain ⟨r8, h7, h⟩ := rs_b1e h
                  refine rs_callVi (r0 := r8) (S0 := S) C (rs_kd_lt hk (by decide)) (rs_e1 hk) rfl (c_X1_bright l G hG S k x2 x5 hk _ h7) ⟨wl_X1_86, wi_yX1_bright, wx_yX1_bright, wn_X1, wc_yX1_bright⟩ wy_yX1_bright (by decide) ⟨rfl, rfl⟩ rfl rfl (Nat.le_of_ble_eq_true rfl) dX1_fullRows_28 rfl ?_
                  refine rs_sipush (v := 255) C dX1_fullRows_31 (by decide) rfl ?_
                  refine rs_jw (P := fun J => ∀ (x9 : Int32), J x9 = some o → rs_Xi G 5 p l e (rs_rm 5) s m args below meth c (o, S) S 42 [(0, .ref (rs_ad G k)), (1, .int a1), (2, .int x4), (3, .int x2), (4, .int x5)] [.int x9, .int x4]) h (fun x9 h => ?_) (fun J10 KJ10 h => ?_)
                  · refine rs_iadd C dX1_fullRows_42 rfl ?_
                    refine rs_nmi h (fun x11 h => ?_)
                    refine rs_istore_n (i := 2) C dX1_fullRows_43 rfl (by decide) rfl ?_
                    refine rs_iincn (v := 1) C dX1_fullRows_44 rfl (by decide) (by decide) rfl h (fun x12 h => ?_)
                    refine rs_goto (tgt := 12) C dX1_fullRows_47 (by decide) ?_
                    exact rs_subk (ih12 _ _ h) (rs_ac rfl (rs_ac rfl (rs_ac rfl (rs_ac rfl (rs_ac rfl rs_a0)))))
                  · refine rs_icmp_ne (tgt := 41) C dX1_fullRows_34 (by decide) rfl (fun z13 => ?_) (fun z13 => ?_)
                    · replace h := rs_if z13 h
                      refine rs_iconst (v := 0) C dX1_fullRows_41 (by decide) rfl ?_
                      exact rs_subk (KJ10 _ h) (rs_ac rfl (rs_ac rfl (rs_ac rfl (rs_ac rfl (rs_ac rfl rs_a0)))))
                    · replace h := rs_it z13 h
                      refine rs_iconst (v := 1) C dX1_fullRows_37 (by decide) rfl ?_
                      refine rs_goto (tgt := 42) C dX1_fullRows_38 (by decide) ?_
                      exact rs_subk (KJ10 _ h) (rs_ac rfl (rs_ac rfl (rs_ac rfl (rs_ac rfl (rs_ac rfl rs_a0)))))
            exact rs_subk (L12 rs_fu _ _ h) (rs_ac rfl (rs_ac rfl (rs_ac rfl (rs_ac rfl (rs_ac rfl rs_a0)))))
    exact rs_subk (L4 rs_fu _ _ h) (rs_ac rfl (rs_ac rfl (rs_ac rfl (rs_ac rfl rs_a0))))
def xf_X1_take_l18 (k : Nat) (a1 : Int32) (K18 : rs_St → Int32 → Option rs_St) : Nat → rs_St → Int32 → Option rs_St
  | 0, _, _ => none
  | n18 + 1, S3, x4 => if (rs_gi S3 k 6) ≤ x4 then K18 S3 x4 else rs_b1 (xf_X1_bright S3 k (a1 - 1) x4) (fun r7 => if x4 < 0 ∨ 8 ≤ x4.toNatClampNeg then none else rs_lt (rs_si S3 (k + 3) x4.toNatClampNeg r7) (fun S8 => rs_lt (x4 + 1) (fun x10 => xf_X1_take_l18 k a1 K18 n18 S8 x10)))
def xf_X1_take (S : rs_St) (k : Nat) (a1 : Int32) : Option rs_St := if 1 ≤ a1 then rs_lt (rs_si S k 6 (rs_gi S (k + 2) 0)) (fun S2 => xf_X1_take_l18 k a1 (fun (S11 : rs_St) (x12 : Int32) => rs_b1 (xf_X1_startOf S11 k a1) (fun r14 => rs_lt (rs_si S11 k 3 r14) (fun S15 => rs_lt (rs_si S15 k 4 ((rs_gi S15 k 4) + a1)) (fun S16 => some S16)))) rs_fu S2 0) else some S
set_option maxRecDepth 100000 in
theorem c_X1_take (l : Launch) (G : rs_G) (hG : rs_ok G) (S : rs_St) (k : Nat) (a1 : Int32) (hk : rs_kd k = 1) (o : rs_St) (h : xf_X1_take S k a1 = some o) : Met l yX1_take (rs_wz yX1_take cX1_take 3 none) (rs_rm 5) (va_Pc [.ref (rs_ad G k), .int a1] (rs_pre G S)) (va_Qv (fun S2 => S2 = o) (rs_post G) (rs_A G)) 0 0 (rs_A G) := by
  refine rs_met hG (by decide) (Nat.le_of_ble_eq_true rfl) ?_
  intro p e s m args below meth c C hr hlk
  rw [xf_X1_take] at h
  refine rs_iload_n (i := 1) C dX1_take_0 rfl rfl rfl ?_
  refine rs_iconst (v := 1) C dX1_take_1 (by decide) rfl ?_
  refine rs_icmp_ge (tgt := 6) C dX1_take_2 (by decide) rfl (fun z1 => ?_) (fun z1 => ?_)
  · replace h := rs_it z1 h
    refine rs_aload_n (i := 0) C dX1_take_6 rfl rfl rfl ?_
    refine rs_aload_n (i := 0) C dX1_take_7 rfl rfl rfl ?_
    refine rg_X1_2 C hk wl_X1_17 dX1_take_8 rfl ?_
    refine rs_iconst (v := 0) C dX1_take_11 (by decide) rfl ?_
    refine rs_ialdc C (rs_k1b hk) (rs_l1b hk) 0 (by decide) (by decide) dX1_take_12 rfl ?_
    refine rp_X1_6 C hk wl_X1_53 dX1_take_13 rfl h (fun S2 h => ?_)
    refine rs_iconst (v := 0) C dX1_take_16 (by decide) rfl ?_
    refine rs_istore_n (i := 2) C dX1_take_17 rfl (by decide) rfl ?_
    refine rs_kw (F := fun K => xf_X1_take_l18 k a1 K rs_fu S2 0) (P := fun K => ∀ (S11 : rs_St) (x12 : Int32), K S11 x12 = some o → rs_Xv G 3 p l e (rs_rm 5) s m args below meth c o S11 46 [(0, .ref (rs_ad G k)), (1, .int a1), (2, .int x12)] []) h (fun S11 x12 h => ?_) (fun K18 hK18 h => ?_)
    · refine rs_aload_n (i := 0) C dX1_take_46 rfl rfl rfl ?_
      refine rs_aload_n (i := 0) C dX1_take_47 rfl rfl rfl ?_
      refine rs_iload_n (i := 1) C dX1_take_48 rfl rfl rfl ?_
      obtain ⟨r14, h13, h⟩ := rs_b1e h
      refine rs_callVi (r0 := r14) (S0 := S11) C (rs_kd_lt hk (by decide)) (rs_e1 hk) rfl (c_X1_startOf l G hG S11 k a1 hk _ h13) ⟨wl_X1_77, wi_yX1_startOf, wx_yX1_startOf, wn_X1, wc_yX1_startOf⟩ wy_yX1_startOf (by decide) ⟨rfl, rfl⟩ rfl rfl (Nat.le_of_ble_eq_true rfl) dX1_take_49 rfl ?_
      refine rp_X1_3 C hk wl_X1_47 dX1_take_52 rfl h (fun S15 h => ?_)
      refine rs_aload_n (i := 0) C dX1_take_55 rfl rfl rfl ?_
      refine rs_dup C dX1_take_56 rfl rfl ?_
      refine rg_X1_4 C hk wl_X1_50 dX1_take_57 rfl ?_
      refine rs_iload_n (i := 1) C dX1_take_60 rfl rfl rfl ?_
      refine rs_iadd C dX1_take_61 rfl ?_
      refine rp_X1_4 C hk wl_X1_50 dX1_take_62 rfl h (fun S16 h => ?_)
      exact rs_vret C hr hlk h dX1_take_65
    · have L18 : ∀ (n18 : Nat) (S3 : rs_St) (x4 : Int32), xf_X1_take_l18 k a1 K18 n18 S3 x4 = some o → rs_Xv G 3 p l e (rs_rm 5) s m args below meth c o S3 18 [(0, .ref (rs_ad G k)), (1, .int a1), (2, .int x4)] [] := by
        intro n18
        induction n18 with
        | zero => intro S3 x4 h; exact (rs_no h).elim
        | succ n18 ih18 =>
          intro S3 x4 h
          rw [xf_X1_take_l18] at h
          refine rs_iload_n (i := 2) C dX1_take_18 rfl rfl rfl ?_
          refine rs_aload_n (i := 0) C dX1_take_19 rfl rfl rfl ?_
          refine rg_X1_6 C hk wl_X1_53 dX1_take_20 rfl ?_
          refine rs_icmp_ge (tgt := 46) C dX1_take_23 (by decide) rfl (fun z5 => ?_) (fun z5 => ?_)
          · replace h := rs_it z5 h
            exact rs_subk (hK18 _ _ h) (rs_ac rfl (rs_ac rfl (rs_ac rfl rs_a0)))
          · replace h := rs_if z5 h
            refine rs_aload_n (i := 0) C dX1_take_26 rfl rfl rfl ?_
            refine rg_X1_5 C hk wl_X1_21 dX1_take_27 rfl ?_
            refine rs_iload_n (i := 2) C dX1_take_30 rfl rfl rfl ?_
            refine rs_aload_n (i := 0) C dX1_take_31 rfl rfl rfl ?_
            refine rs_iload_n (i := 1) C dX1_take_32 rfl rfl rfl ?_
            refine rs_iconst (v := 1) C dX1_take_33 (by decide) rfl ?_
            refine rs_isub C dX1_take_34 rfl ?_
            refine rs_iload_n (i := 2) C dX1_take_35 rfl rfl rfl ?_
            obtain ⟨r7, h6, h⟩ := rs_b1e h
            refine rs_callVi (r0 := r7) (S0 := S3) C (rs_kd_lt hk (by decide)) (rs_e1 hk) rfl (c_X1_bright l G hG S3 k (a1 - 1) x4 hk _ h6) ⟨wl_X1_86, wi_yX1_bright, wx_yX1_bright, wn_X1, wc_yX1_bright⟩ wy_yX1_bright (by decide) ⟨rfl, rfl⟩ rfl rfl (Nat.le_of_ble_eq_true rfl) dX1_take_36 rfl ?_
            obtain ⟨z9, h⟩ := rs_ck h
            refine rs_iastn C (rs_k1c hk) (rs_l1c hk) z9 dX1_take_39 rfl h (fun S8 h => ?_)
            refine rs_iincn (v := 1) C dX1_take_40 rfl (by decide) (by decide) rfl h (fun x10 h => ?_)
            refine rs_goto (tgt := 18) C dX1_take_43 (by decide) ?_
            exact rs_subk (ih18 _ _ h) (rs_ac rfl (rs_ac rfl (rs_ac rfl rs_a0)))
      exact rs_subk (L18 rs_fu _ _ h) (rs_ac rfl (rs_ac rfl (rs_ac rfl rs_a0)))
  · replace h := rs_if z1 h
    exact rs_vret C hr hlk h dX1_take_5
def xf_X1_isAsSeen_l2 (S : rs_St) (k : Nat) (K2 : Int32 → Option Int32) : Nat → Int32 → Option Int32
  | 0, _ => none
  | n2 + 1, x1 => if (rs_gi S k 10) ≤ x1 then K2 x1 else if x1 < 0 ∨ 6 ≤ x1.toNatClampNeg then none else if (rs_gi S (k + 2) 0) ≤ (rs_gi S (k + 5) x1.toNatClampNeg) then some 0 else if x1 < 0 ∨ 6 ≤ x1.toNatClampNeg then none else if x1 < 0 ∨ 6 ≤ x1.toNatClampNeg then none else rs_b1 (xf_X1_bright S k (rs_gi S (k + 4) x1.toNatClampNeg) (rs_gi S (k + 5) x1.toNatClampNeg)) (fun r8 => if x1 < 0 ∨ 6 ≤ x1.toNatClampNeg then none else if r8 = (rs_gi S (k + 6) x1.toNatClampNeg) then rs_lt (x1 + 1) (fun x11 => xf_X1_isAsSeen_l2 S k K2 n2 x11) else some 0)
def xf_X1_isAsSeen (S : rs_St) (k : Nat) : Option Int32 := xf_X1_isAsSeen_l2 S k (fun (x12 : Int32) => some 1) rs_fu 0
set_option maxRecDepth 100000 in
theorem c_X1_isAsSeen (l : Launch) (G : rs_G) (hG : rs_ok G) (S : rs_St) (k : Nat) (hk : rs_kd k = 1) (o : Int32) (h : xf_X1_isAsSeen S k = some o) : Met l yX1_isAsSeen (rs_wz yX1_isAsSeen cX1_isAsSeen 2 (some FieldType.boolean)) (rs_rm 5) (va_Pc [.ref (rs_ad G k)] (rs_pre G S)) (va_Qi (fun r S2 => (r, S2) = (o, S)) (rs_post G) (rs_A G)) 0 0 (rs_A G) := by
  refine rs_met hG (by decide) (Nat.le_of_ble_eq_true rfl) ?_
  intro p e s m args below meth c C hr hlk
  rw [xf_X1_isAsSeen] at h
  refine rs_iconst (v := 0) C dX1_isAsSeen_0 (by decide) rfl ?_
  refine rs_istore_n (i := 1) C dX1_isAsSeen_1 rfl (by decide) rfl ?_
  refine rs_kw (F := fun K => xf_X1_isAsSeen_l2 S k K rs_fu 0) (P := fun K => ∀ (x12 : Int32), K x12 = some o → rs_Xi G 2 p l e (rs_rm 5) s m args below meth c (o, S) S 58 [(0, .ref (rs_ad G k)), (1, .int x12)] []) h (fun x12 h => ?_) (fun K2 hK2 h => ?_)
  · refine rs_iconst (v := 1) C dX1_isAsSeen_58 (by decide) rfl ?_
    exact rs_zret C hr hlk (Or.inr rfl) (rs_pr h) dX1_isAsSeen_59
  · have L2 : ∀ (n2 : Nat) (x1 : Int32), xf_X1_isAsSeen_l2 S k K2 n2 x1 = some o → rs_Xi G 2 p l e (rs_rm 5) s m args below meth c (o, S) S 2 [(0, .ref (rs_ad G k)), (1, .int x1)] [] := by
      intro n2
      induction n2 with
      | zero => intro x1 h; exact (rs_no h).elim
      | succ n2 ih2 =>
        intro x1 h
        rw [xf_X1_isAsSeen_l2] at h
        refine rs_iload_n (i := 1) C dX1_isAsSeen_2 rfl rfl rfl ?_
        refine rs_aload_n (i := 0) C dX1_isAsSeen_3 rfl rfl rfl ?_
        refine rg_X1_10 C hk wl_X1_56 dX1_isAsSeen_4 rfl ?_
        refine rs_icmp_ge (tgt := 58) C dX1_isAsSeen_7 (by decide) rfl (fun z2 => ?_) (fun z2 => ?_)
        · replace h := rs_it z2 h
          exact rs_subk (hK2 _ h) (rs_ac rfl (rs_ac rfl rs_a0))
        · replace h := rs_if z2 h
          refine rs_aload_n (i := 0) C dX1_isAsSeen_10 rfl rfl rfl ?_
          refine rg_X1_8 C hk wl_X1_27 dX1_isAsSeen_11 rfl ?_
          refine rs_iload_n (i := 1) C dX1_isAsSeen_14 rfl rfl rfl ?_
          obtain ⟨z3, h⟩ := rs_ck h
          refine rs_ialdn C (rs_k1e hk) (rs_l1e hk) z3 dX1_isAsSeen_15 rfl ?_
          refine rs_aload_n (i := 0) C dX1_isAsSeen_16 rfl rfl rfl ?_
          refine rg_X1_2 C hk wl_X1_17 dX1_isAsSeen_17 rfl ?_
          refine rs_iconst (v := 0) C dX1_isAsSeen_20 (by decide) rfl ?_
          refine rs_ialdc C (rs_k1b hk) (rs_l1b hk) 0 (by decide) (by decide) dX1_isAsSeen_21 rfl ?_
          refine rs_icmp_ge (tgt := 50) C dX1_isAsSeen_22 (by decide) rfl (fun z4 => ?_) (fun z4 => ?_)
          · replace h := rs_it z4 h
            refine rs_iconst (v := 0) C dX1_isAsSeen_50 (by decide) rfl ?_
            exact rs_zret C hr hlk (Or.inl rfl) (rs_pr h) dX1_isAsSeen_51
          · replace h := rs_if z4 h
            refine rs_aload_n (i := 0) C dX1_isAsSeen_25 rfl rfl rfl ?_
            refine rs_aload_n (i := 0) C dX1_isAsSeen_26 rfl rfl rfl ?_
            refine rg_X1_7 C hk wl_X1_24 dX1_isAsSeen_27 rfl ?_
            refine rs_iload_n (i := 1) C dX1_isAsSeen_30 rfl rfl rfl ?_
            obtain ⟨z5, h⟩ := rs_ck h
            refine rs_ialdn C (rs_k1d hk) (rs_l1d hk) z5 dX1_isAsSeen_31 rfl ?_
            refine rs_aload_n (i := 0) C dX1_isAsSeen_32 rfl rfl rfl ?_
            refine rg_X1_8 C hk wl_X1_27 dX1_isAsSeen_33 rfl ?_
            refine rs_iload_n (i := 1) C dX1_isAsSeen_36 rfl rfl rfl ?_
            obtain ⟨z6, h⟩ := rs_ck h
            refine rs_ialdn C (rs_k1e hk) (rs_l1e hk) z6 dX1_isAsSeen_37 rfl ?_
            obtain ⟨r8, h7, h⟩ := rs_b1e h
            refine rs_callVi (r0 := r8) (S0 := S) C (rs_kd_lt hk (by decide)) (rs_e1 hk) rfl (c_X1_bright l G hG S k (rs_gi S (k + 4) x1.toNatClampNeg) (rs_gi S (k + 5) x1.toNatClampNeg) hk _ h7) ⟨wl_X1_86, wi_yX1_bright, wx_yX1_bright, wn_X1, wc_yX1_bright⟩ wy_yX1_bright (by decide) ⟨rfl, rfl⟩ rfl rfl (Nat.le_of_ble_eq_true rfl) dX1_isAsSeen_38 rfl ?_
            refine rs_aload_n (i := 0) C dX1_isAsSeen_41 rfl rfl rfl ?_
            refine rg_X1_9 C hk wl_X1_30 dX1_isAsSeen_42 rfl ?_
            refine rs_iload_n (i := 1) C dX1_isAsSeen_45 rfl rfl rfl ?_
            obtain ⟨z9, h⟩ := rs_ck h
            refine rs_ialdn C (rs_k1f hk) (rs_l1f hk) z9 dX1_isAsSeen_46 rfl ?_
            refine rs_icmp_eq (tgt := 52) C dX1_isAsSeen_47 (by decide) rfl (fun z10 => ?_) (fun z10 => ?_)
            · replace h := rs_it z10 h
              refine rs_iincn (v := 1) C dX1_isAsSeen_52 rfl (by decide) (by decide) rfl h (fun x11 h => ?_)
              refine rs_goto (tgt := 2) C dX1_isAsSeen_55 (by decide) ?_
              exact rs_subk (ih2 _ h) (rs_ac rfl (rs_ac rfl rs_a0))
            · replace h := rs_if z10 h
              refine rs_iconst (v := 0) C dX1_isAsSeen_50 (by decide) rfl ?_
              exact rs_zret C hr hlk (Or.inl rfl) (rs_pr h) dX1_isAsSeen_51
    exact rs_subk (L2 rs_fu _ h) (rs_ac rfl (rs_ac rfl rs_a0))
