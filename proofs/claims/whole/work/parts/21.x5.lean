def xf_X5_in (S : rs_St) (a1 : Int64) (a2 : Int64) (a3 : Int64) : Option Int32 := if (lg_cmp a1 a2) < 0 then some 0 else if 0 < (lg_cmp a1 a3) then some 0 else some 1
set_option maxRecDepth 100000 in
theorem c_X5_in (l : Launch) (G : rs_G) (hG : rs_ok G) (S : rs_St) (a1 : Int64) (a2 : Int64) (a3 : Int64)  (o : Int32) (h : xf_X5_in S a1 a2 a3 = some o) : Met l yX5_in (rs_wz yX5_in cX5_in 6 (some FieldType.boolean)) (rs_rm 2) (va_Pc [.long a1, .long a2, .long a3] (rs_pre G S)) (va_Qi (fun r S2 => (r, S2) = (o, S)) (rs_post G) (rs_A G)) 0 0 (rs_A G) := by
  refine rs_met hG (by decide) (Nat.le_of_ble_eq_true rfl) ?_
  intro p e s m args below meth c C hr hlk
  rw [xf_X5_in] at h
  refine rs_lload_n (i := 0) C dX5_in_0 rfl rfl rfl ?_
  refine rs_lload_n (i := 2) C dX5_in_1 rfl rfl rfl ?_
  refine rs_lcmp C dX5_in_2 rfl ?_
  refine rs_if_lt (tgt := 17) C dX5_in_3 (by decide) rfl (fun z1 => ?_) (fun z1 => ?_)
  · replace h := rs_it z1 h
    refine rs_iconst (v := 0) C dX5_in_17 (by decide) rfl ?_
    exact rs_zret C hr hlk (Or.inl rfl) (rs_pr h) dX5_in_18
  · replace h := rs_if z1 h
    refine rs_lload_n (i := 0) C dX5_in_6 rfl rfl rfl ?_
    refine rs_lload C dX5_in_7 rfl rfl ?_
    refine rs_lcmp C dX5_in_9 rfl ?_
    refine rs_if_gt (tgt := 17) C dX5_in_10 (by decide) rfl (fun z2 => ?_) (fun z2 => ?_)
    · replace h := rs_it z2 h
      refine rs_iconst (v := 0) C dX5_in_17 (by decide) rfl ?_
      exact rs_zret C hr hlk (Or.inl rfl) (rs_pr h) dX5_in_18
    · replace h := rs_if z2 h
      refine rs_iconst (v := 1) C dX5_in_13 (by decide) rfl ?_
      refine rs_goto (tgt := 18) C dX5_in_14 (by decide) ?_
      exact rs_zret C hr hlk (Or.inr rfl) (rs_pr h) dX5_in_18
def xf_X5_flag (S : rs_St) (a1 : Int32) : Option Int32 := if a1 = 0 then some 0 else some 1
set_option maxRecDepth 100000 in
theorem c_X5_flag (l : Launch) (G : rs_G) (hG : rs_ok G) (S : rs_St) (a1 : Int32)  (o : Int32) (h : xf_X5_flag S a1 = some o) : Met l yX5_flag (rs_wz yX5_flag cX5_flag 1 (some FieldType.int)) (rs_rm 2) (va_Pc [.int a1] (rs_pre G S)) (va_Qi (fun r S2 => (r, S2) = (o, S)) (rs_post G) (rs_A G)) 0 0 (rs_A G) := by
  refine rs_met hG (by decide) (Nat.le_of_ble_eq_true rfl) ?_
  intro p e s m args below meth c C hr hlk
  rw [xf_X5_flag] at h
  refine rs_iload_n (i := 0) C dX5_flag_0 rfl rfl rfl ?_
  refine rs_if_eq (tgt := 8) C dX5_flag_1 (by decide) rfl (fun z1 => ?_) (fun z1 => ?_)
  · replace h := rs_it z1 h
    refine rs_iconst (v := 0) C dX5_flag_8 (by decide) rfl ?_
    exact rs_iret C hr hlk (rs_pr h) dX5_flag_9
  · replace h := rs_if z1 h
    refine rs_iconst (v := 1) C dX5_flag_4 (by decide) rfl ?_
    refine rs_goto (tgt := 9) C dX5_flag_5 (by decide) ?_
    exact rs_iret C hr hlk (rs_pr h) dX5_flag_9
def xf_X5_firstDraft_l23 (K23 : rs_St → Int32 → Option rs_St) : Nat → rs_St → Int32 → Option rs_St
  | 0, _, _ => none
  | n23 + 1, S9, x10 => if 4 ≤ x10 then K23 S9 x10 else if x10 < 0 ∨ 4 ≤ x10.toNatClampNeg then none else rs_lt (rs_si S9 96 x10.toNatClampNeg (vp_nar .boolean 0)) (fun S12 => rs_lt (x10 + 1) (fun x14 => xf_X5_firstDraft_l23 K23 n23 S12 x14))
def xf_X5_firstDraft_l2 (K2 : rs_St → Int32 → Option rs_St) : Nat → rs_St → Int32 → Option rs_St
  | 0, _, _ => none
  | n2 + 1, S1, x2 => if 51 ≤ x2 then K2 S1 x2 else if x2 < 0 ∨ 51 ≤ x2.toNatClampNeg then none else rs_lt (rs_si S1 95 x2.toNatClampNeg 0) (fun S4 => rs_lt (x2 + 1) (fun x6 => xf_X5_firstDraft_l2 K2 n2 S4 x6))
def xf_X5_firstDraft (S : rs_St) : Option rs_St := xf_X5_firstDraft_l2 (fun (S7 : rs_St) (x8 : Int32) => xf_X5_firstDraft_l23 (fun (S15 : rs_St) (x16 : Int32) => rs_lt (rs_si S15 95 17 4) (fun S17 => rs_lt (rs_si S17 95 18 2) (fun S18 => rs_lt (rs_si S18 95 19 4) (fun S19 => rs_lt (rs_si S19 95 20 20) (fun S20 => some S20))))) rs_fu S7 0) rs_fu S 0
set_option maxRecDepth 100000 in
theorem c_X5_firstDraft (l : Launch) (G : rs_G) (hG : rs_ok G) (S : rs_St)  (o : rs_St) (h : xf_X5_firstDraft S = some o) : Met l yX5_firstDraft (rs_wz yX5_firstDraft cX5_firstDraft 2 none) (rs_rm 2) (va_Pc [.ref (rs_ad G 91)] (rs_pre G S)) (va_Qv (fun S2 => S2 = o) (rs_post G) (rs_A G)) 0 0 (rs_A G) := by
  refine rs_met hG (by decide) (Nat.le_of_ble_eq_true rfl) ?_
  intro p e s m args below meth c C hr hlk
  rw [xf_X5_firstDraft] at h
  refine rs_iconst (v := 0) C dX5_firstDraft_0 (by decide) rfl ?_
  refine rs_istore_n (i := 1) C dX5_firstDraft_1 rfl (by decide) rfl ?_
  refine rs_kw (F := fun K => xf_X5_firstDraft_l2 K rs_fu S 0) (P := fun K => ∀ (S7 : rs_St) (x8 : Int32), K S7 x8 = some o → rs_Xv G 2 p l e (rs_rm 2) s m args below meth c o S7 21 [(0, .ref (rs_ad G 91)), (1, .int x8)] []) h (fun S7 x8 h => ?_) (fun K2 hK2 h => ?_)
  · refine rs_iconst (v := 0) C dX5_firstDraft_21 (by decide) rfl ?_
    refine rs_istore_n (i := 1) C dX5_firstDraft_22 rfl (by decide) rfl ?_
    refine rs_kw (F := fun K => xf_X5_firstDraft_l23 K rs_fu S7 0) (P := fun K => ∀ (S15 : rs_St) (x16 : Int32), K S15 x16 = some o → rs_Xv G 2 p l e (rs_rm 2) s m args below meth c o S15 41 [(0, .ref (rs_ad G 91)), (1, .int x16)] []) h (fun S15 x16 h => ?_) (fun K23 hK23 h => ?_)
    · refine rs_aload_n (i := 0) C dX5_firstDraft_41 rfl rfl rfl ?_
      refine rg_X5_3 C kk_91 wl_X5_20 dX5_firstDraft_42 rfl ?_
      refine rs_bipush (v := 17) C dX5_firstDraft_45 (by decide) rfl ?_
      refine rs_iconst (v := 4) C dX5_firstDraft_47 (by decide) rfl ?_
      refine rs_iastc C kk_95 ll_95 17 (by decide) (by decide) dX5_firstDraft_48 rfl h (fun S17 h => ?_)
      refine rs_aload_n (i := 0) C dX5_firstDraft_49 rfl rfl rfl ?_
      refine rg_X5_3 C kk_91 wl_X5_20 dX5_firstDraft_50 rfl ?_
      refine rs_bipush (v := 18) C dX5_firstDraft_53 (by decide) rfl ?_
      refine rs_iconst (v := 2) C dX5_firstDraft_55 (by decide) rfl ?_
      refine rs_iastc C kk_95 ll_95 18 (by decide) (by decide) dX5_firstDraft_56 rfl h (fun S18 h => ?_)
      refine rs_aload_n (i := 0) C dX5_firstDraft_57 rfl rfl rfl ?_
      refine rg_X5_3 C kk_91 wl_X5_20 dX5_firstDraft_58 rfl ?_
      refine rs_bipush (v := 19) C dX5_firstDraft_61 (by decide) rfl ?_
      refine rs_iconst (v := 4) C dX5_firstDraft_63 (by decide) rfl ?_
      refine rs_iastc C kk_95 ll_95 19 (by decide) (by decide) dX5_firstDraft_64 rfl h (fun S19 h => ?_)
      refine rs_aload_n (i := 0) C dX5_firstDraft_65 rfl rfl rfl ?_
      refine rg_X5_3 C kk_91 wl_X5_20 dX5_firstDraft_66 rfl ?_
      refine rs_bipush (v := 20) C dX5_firstDraft_69 (by decide) rfl ?_
      refine rs_bipush (v := 20) C dX5_firstDraft_71 (by decide) rfl ?_
      refine rs_iastc C kk_95 ll_95 20 (by decide) (by decide) dX5_firstDraft_73 rfl h (fun S20 h => ?_)
      exact rs_vret C hr hlk h dX5_firstDraft_74
    · have L23 : ∀ (n23 : Nat) (S9 : rs_St) (x10 : Int32), xf_X5_firstDraft_l23 K23 n23 S9 x10 = some o → rs_Xv G 2 p l e (rs_rm 2) s m args below meth c o S9 23 [(0, .ref (rs_ad G 91)), (1, .int x10)] [] := by
        intro n23
        induction n23 with
        | zero => intro S9 x10 h; exact (rs_no h).elim
        | succ n23 ih23 =>
          intro S9 x10 h
          rw [xf_X5_firstDraft_l23] at h
          refine rs_iload_n (i := 1) C dX5_firstDraft_23 rfl rfl rfl ?_
          refine rs_iconst (v := 4) C dX5_firstDraft_24 (by decide) rfl ?_
          refine rs_icmp_ge (tgt := 41) C dX5_firstDraft_25 (by decide) rfl (fun z11 => ?_) (fun z11 => ?_)
          · replace h := rs_it z11 h
            exact rs_subk (hK23 _ _ h) (rs_ac rfl (rs_ac rfl rs_a0))
          · replace h := rs_if z11 h
            refine rs_aload_n (i := 0) C dX5_firstDraft_28 rfl rfl rfl ?_
            refine rg_X5_4 C kk_91 wl_X5_23 dX5_firstDraft_29 rfl ?_
            refine rs_iload_n (i := 1) C dX5_firstDraft_32 rfl rfl rfl ?_
            refine rs_iconst (v := 0) C dX5_firstDraft_33 (by decide) rfl ?_
            obtain ⟨z13, h⟩ := rs_ck h
            refine rs_zastn C kk_96 ll_96 z13 dX5_firstDraft_34 rfl h (fun S12 h => ?_)
            refine rs_iincn (v := 1) C dX5_firstDraft_35 rfl (by decide) (by decide) rfl h (fun x14 h => ?_)
            refine rs_goto (tgt := 23) C dX5_firstDraft_38 (by decide) ?_
            exact rs_subk (ih23 _ _ h) (rs_ac rfl (rs_ac rfl rs_a0))
      exact rs_subk (L23 rs_fu _ _ h) (rs_ac rfl (rs_ac rfl rs_a0))
  · have L2 : ∀ (n2 : Nat) (S1 : rs_St) (x2 : Int32), xf_X5_firstDraft_l2 K2 n2 S1 x2 = some o → rs_Xv G 2 p l e (rs_rm 2) s m args below meth c o S1 2 [(0, .ref (rs_ad G 91)), (1, .int x2)] [] := by
      intro n2
      induction n2 with
      | zero => intro S1 x2 h; exact (rs_no h).elim
      | succ n2 ih2 =>
        intro S1 x2 h
        rw [xf_X5_firstDraft_l2] at h
        refine rs_iload_n (i := 1) C dX5_firstDraft_2 rfl rfl rfl ?_
        refine rs_bipush (v := 51) C dX5_firstDraft_3 (by decide) rfl ?_
        refine rs_icmp_ge (tgt := 21) C dX5_firstDraft_5 (by decide) rfl (fun z3 => ?_) (fun z3 => ?_)
        · replace h := rs_it z3 h
          exact rs_subk (hK2 _ _ h) (rs_ac rfl (rs_ac rfl rs_a0))
        · replace h := rs_if z3 h
          refine rs_aload_n (i := 0) C dX5_firstDraft_8 rfl rfl rfl ?_
          refine rg_X5_3 C kk_91 wl_X5_20 dX5_firstDraft_9 rfl ?_
          refine rs_iload_n (i := 1) C dX5_firstDraft_12 rfl rfl rfl ?_
          refine rs_iconst (v := 0) C dX5_firstDraft_13 (by decide) rfl ?_
          obtain ⟨z5, h⟩ := rs_ck h
          refine rs_iastn C kk_95 ll_95 z5 dX5_firstDraft_14 rfl h (fun S4 h => ?_)
          refine rs_iincn (v := 1) C dX5_firstDraft_15 rfl (by decide) (by decide) rfl h (fun x6 h => ?_)
          refine rs_goto (tgt := 2) C dX5_firstDraft_18 (by decide) ?_
          exact rs_subk (ih2 _ _ h) (rs_ac rfl (rs_ac rfl rs_a0))
    exact rs_subk (L2 rs_fu _ _ h) (rs_ac rfl (rs_ac rfl rs_a0))
def xf_X5_keepDraft_l2 (K2 : rs_St → Int32 → Option rs_St) : Nat → rs_St → Int32 → Option rs_St
  | 0, _, _ => none
  | n2 + 1, S1, x2 => if 51 ≤ x2 then K2 S1 x2 else if x2 < 0 ∨ 51 ≤ x2.toNatClampNeg then none else if x2 < 0 ∨ 153 ≤ x2.toNatClampNeg then none else rs_lt (rs_si S1 92 x2.toNatClampNeg (rs_gi S1 95 x2.toNatClampNeg)) (fun S5 => rs_lt (x2 + 1) (fun x7 => xf_X5_keepDraft_l2 K2 n2 S5 x7))
def xf_X5_keepDraft (S : rs_St) : Option rs_St := xf_X5_keepDraft_l2 (fun (S8 : rs_St) (x9 : Int32) => rs_lt (rs_si S8 94 0 (vp_nar .boolean 0)) (fun S10 => rs_lt (rs_si S10 94 1 (vp_nar .boolean 0)) (fun S11 => some S11))) rs_fu S 0
set_option maxRecDepth 100000 in
theorem c_X5_keepDraft (l : Launch) (G : rs_G) (hG : rs_ok G) (S : rs_St)  (o : rs_St) (h : xf_X5_keepDraft S = some o) : Met l yX5_keepDraft (rs_wz yX5_keepDraft cX5_keepDraft 2 none) (rs_rm 2) (va_Pc [.ref (rs_ad G 91)] (rs_pre G S)) (va_Qv (fun S2 => S2 = o) (rs_post G) (rs_A G)) 0 0 (rs_A G) := by
  refine rs_met hG (by decide) (Nat.le_of_ble_eq_true rfl) ?_
  intro p e s m args below meth c C hr hlk
  rw [xf_X5_keepDraft] at h
  refine rs_iconst (v := 0) C dX5_keepDraft_0 (by decide) rfl ?_
  refine rs_istore_n (i := 1) C dX5_keepDraft_1 rfl (by decide) rfl ?_
  refine rs_kw (F := fun K => xf_X5_keepDraft_l2 K rs_fu S 0) (P := fun K => ∀ (S8 : rs_St) (x9 : Int32), K S8 x9 = some o → rs_Xv G 2 p l e (rs_rm 2) s m args below meth c o S8 26 [(0, .ref (rs_ad G 91)), (1, .int x9)] []) h (fun S8 x9 h => ?_) (fun K2 hK2 h => ?_)
  · refine rs_aload_n (i := 0) C dX5_keepDraft_26 rfl rfl rfl ?_
    refine rg_X5_2 C kk_91 wl_X5_16 dX5_keepDraft_27 rfl ?_
    refine rs_iconst (v := 0) C dX5_keepDraft_30 (by decide) rfl ?_
    refine rs_iconst (v := 0) C dX5_keepDraft_31 (by decide) rfl ?_
    refine rs_zastc C kk_94 ll_94 0 (by decide) (by decide) dX5_keepDraft_32 rfl h (fun S10 h => ?_)
    refine rs_aload_n (i := 0) C dX5_keepDraft_33 rfl rfl rfl ?_
    refine rg_X5_2 C kk_91 wl_X5_16 dX5_keepDraft_34 rfl ?_
    refine rs_iconst (v := 1) C dX5_keepDraft_37 (by decide) rfl ?_
    refine rs_iconst (v := 0) C dX5_keepDraft_38 (by decide) rfl ?_
    refine rs_zastc C kk_94 ll_94 1 (by decide) (by decide) dX5_keepDraft_39 rfl h (fun S11 h => ?_)
    exact rs_vret C hr hlk h dX5_keepDraft_40
  · have L2 : ∀ (n2 : Nat) (S1 : rs_St) (x2 : Int32), xf_X5_keepDraft_l2 K2 n2 S1 x2 = some o → rs_Xv G 2 p l e (rs_rm 2) s m args below meth c o S1 2 [(0, .ref (rs_ad G 91)), (1, .int x2)] [] := by
      intro n2
      induction n2 with
      | zero => intro S1 x2 h; exact (rs_no h).elim
      | succ n2 ih2 =>
        intro S1 x2 h
        rw [xf_X5_keepDraft_l2] at h
        refine rs_iload_n (i := 1) C dX5_keepDraft_2 rfl rfl rfl ?_
        refine rs_bipush (v := 51) C dX5_keepDraft_3 (by decide) rfl ?_
        refine rs_icmp_ge (tgt := 26) C dX5_keepDraft_5 (by decide) rfl (fun z3 => ?_) (fun z3 => ?_)
        · replace h := rs_it z3 h
          exact rs_subk (hK2 _ _ h) (rs_ac rfl (rs_ac rfl rs_a0))
        · replace h := rs_if z3 h
          refine rs_aload_n (i := 0) C dX5_keepDraft_8 rfl rfl rfl ?_
          refine rg_X5_0 C kk_91 wl_X5_7 dX5_keepDraft_9 rfl ?_
          refine rs_iload_n (i := 1) C dX5_keepDraft_12 rfl rfl rfl ?_
          refine rs_aload_n (i := 0) C dX5_keepDraft_13 rfl rfl rfl ?_
          refine rg_X5_3 C kk_91 wl_X5_20 dX5_keepDraft_14 rfl ?_
          refine rs_iload_n (i := 1) C dX5_keepDraft_17 rfl rfl rfl ?_
          obtain ⟨z4, h⟩ := rs_ck h
          refine rs_ialdn C kk_95 ll_95 z4 dX5_keepDraft_18 rfl ?_
          obtain ⟨z6, h⟩ := rs_ck h
          refine rs_iastn C kk_92 ll_92 z6 dX5_keepDraft_19 rfl h (fun S5 h => ?_)
          refine rs_iincn (v := 1) C dX5_keepDraft_20 rfl (by decide) (by decide) rfl h (fun x7 h => ?_)
          refine rs_goto (tgt := 2) C dX5_keepDraft_23 (by decide) ?_
          exact rs_subk (ih2 _ _ h) (rs_ac rfl (rs_ac rfl rs_a0))
    exact rs_subk (L2 rs_fu _ _ h) (rs_ac rfl (rs_ac rfl rs_a0))
def xf_X5_feed (S : rs_St) (a1 : Int32) : Option (Int32 × rs_St) := rs_b1 (xf_X5_in S (a1.toInt64) 0 127) (fun r2 => if r2 = 0 then some ((-1), S) else if (rs_gi S 91 6) = 160 then some ((-3), S) else if (rs_gi S 91 6) < 0 ∨ 160 ≤ (rs_gi S 91 6).toNatClampNeg then none else rs_lt (rs_si S 97 (rs_gi S 91 6).toNatClampNeg a1) (fun S5 => rs_lt (rs_si S5 91 6 ((rs_gi S5 91 6) + 1)) (fun S7 => some ((rs_gi S7 91 6), S7))))
set_option maxRecDepth 100000 in
theorem c_X5_feed (l : Launch) (G : rs_G) (hG : rs_ok G) (S : rs_St) (a1 : Int32)  (o : (Int32 × rs_St)) (h : xf_X5_feed S a1 = some o) : Met l yX5_feed (rs_wz yX5_feed cX5_feed 2 (some FieldType.int)) (rs_rm 3) (va_Pc [.ref (rs_ad G 91), .int a1] (rs_pre G S)) (va_Qi (fun r S2 => (r, S2) = o) (rs_post G) (rs_A G)) 0 0 (rs_A G) := by
  refine rs_met hG (by decide) (Nat.le_of_ble_eq_true rfl) ?_
  intro p e s m args below meth c C hr hlk
  rw [xf_X5_feed] at h
  refine rs_iload_n (i := 1) C dX5_feed_0 rfl rfl rfl ?_
  refine rs_i2l C dX5_feed_1 rfl ?_
  refine rs_lconst (v := 0) C dX5_feed_2 (by decide) rfl ?_
  refine rs_ldc2 C dX5_feed_3 wk_X5_59 rfl ?_
  obtain ⟨r2, h1, h⟩ := rs_b1e h
  refine rs_callSi (r0 := r2) (S0 := S) C (c_X5_in l G hG S (a1.toInt64) 0 127 _ h1) ⟨wl_X5_61, ws_yX5_in, wn_X5, wc_yX5_in⟩ wy_yX5_in (by decide) ⟨rfl, rfl⟩ rfl rfl (Nat.le_of_ble_eq_true rfl) dX5_feed_6 rfl ?_
  refine rs_if_ne (tgt := 14) C dX5_feed_9 (by decide) rfl (fun z3 => ?_) (fun z3 => ?_)
  · replace h := rs_if z3 h
    refine rs_aload_n (i := 0) C dX5_feed_14 rfl rfl rfl ?_
    refine rg_X5_6 C kk_91 wl_X5_65 dX5_feed_15 rfl ?_
    refine rs_sipush (v := 160) C dX5_feed_18 (by decide) rfl ?_
    refine rs_icmp_ne (tgt := 27) C dX5_feed_21 (by decide) rfl (fun z4 => ?_) (fun z4 => ?_)
    · replace h := rs_if z4 h
      refine rs_aload_n (i := 0) C dX5_feed_27 rfl rfl rfl ?_
      refine rg_X5_5 C kk_91 wl_X5_26 dX5_feed_28 rfl ?_
      refine rs_aload_n (i := 0) C dX5_feed_31 rfl rfl rfl ?_
      refine rg_X5_6 C kk_91 wl_X5_65 dX5_feed_32 rfl ?_
      refine rs_iload_n (i := 1) C dX5_feed_35 rfl rfl rfl ?_
      obtain ⟨z6, h⟩ := rs_ck h
      refine rs_iastn C kk_97 ll_97 z6 dX5_feed_36 rfl h (fun S5 h => ?_)
      refine rs_aload_n (i := 0) C dX5_feed_37 rfl rfl rfl ?_
      refine rs_dup C dX5_feed_38 rfl rfl ?_
      refine rg_X5_6 C kk_91 wl_X5_65 dX5_feed_39 rfl ?_
      refine rs_iconst (v := 1) C dX5_feed_42 (by decide) rfl ?_
      refine rs_iadd C dX5_feed_43 rfl ?_
      refine rp_X5_6 C kk_91 wl_X5_65 dX5_feed_44 rfl h (fun S7 h => ?_)
      refine rs_aload_n (i := 0) C dX5_feed_47 rfl rfl rfl ?_
      refine rg_X5_6 C kk_91 wl_X5_65 dX5_feed_48 rfl ?_
      exact rs_iret C hr hlk h dX5_feed_51
    · replace h := rs_it z4 h
      refine rs_bipush (v := (-3)) C dX5_feed_24 (by decide) rfl ?_
      exact rs_iret C hr hlk h dX5_feed_26
  · replace h := rs_it z3 h
    refine rs_iconst (v := (-1)) C dX5_feed_12 (by decide) rfl ?_
    exact rs_iret C hr hlk h dX5_feed_13
def xf_X5_end (S : rs_St) (a1 : Int32) : Option (Int32 × rs_St) := rs_b1 (xf_X5_in S (a1.toInt64) 0 ((rs_gi S 91 6).toInt64)) (fun r2 => if r2 = 0 then some ((-1), S) else rs_lt (rs_gi S 91 6) (fun x4 => rs_lt (rs_si S 91 6 a1) (fun S5 => some (x4, S5))))
set_option maxRecDepth 100000 in
theorem c_X5_end (l : Launch) (G : rs_G) (hG : rs_ok G) (S : rs_St) (a1 : Int32)  (o : (Int32 × rs_St)) (h : xf_X5_end S a1 = some o) : Met l yX5_end (rs_wz yX5_end cX5_end 3 (some FieldType.int)) (rs_rm 3) (va_Pc [.ref (rs_ad G 91), .int a1] (rs_pre G S)) (va_Qi (fun r S2 => (r, S2) = o) (rs_post G) (rs_A G)) 0 0 (rs_A G) := by
  refine rs_met hG (by decide) (Nat.le_of_ble_eq_true rfl) ?_
  intro p e s m args below meth c C hr hlk
  rw [xf_X5_end] at h
  refine rs_iload_n (i := 1) C dX5_end_0 rfl rfl rfl ?_
  refine rs_i2l C dX5_end_1 rfl ?_
  refine rs_lconst (v := 0) C dX5_end_2 (by decide) rfl ?_
  refine rs_aload_n (i := 0) C dX5_end_3 rfl rfl rfl ?_
  refine rg_X5_6 C kk_91 wl_X5_65 dX5_end_4 rfl ?_
  refine rs_i2l C dX5_end_7 rfl ?_
  obtain ⟨r2, h1, h⟩ := rs_b1e h
  refine rs_callSi (r0 := r2) (S0 := S) C (c_X5_in l G hG S (a1.toInt64) 0 ((rs_gi S 91 6).toInt64) _ h1) ⟨wl_X5_61, ws_yX5_in, wn_X5, wc_yX5_in⟩ wy_yX5_in (by decide) ⟨rfl, rfl⟩ rfl rfl (Nat.le_of_ble_eq_true rfl) dX5_end_8 rfl ?_
  refine rs_if_ne (tgt := 16) C dX5_end_11 (by decide) rfl (fun z3 => ?_) (fun z3 => ?_)
  · replace h := rs_if z3 h
    refine rs_aload_n (i := 0) C dX5_end_16 rfl rfl rfl ?_
    refine rg_X5_6 C kk_91 wl_X5_65 dX5_end_17 rfl ?_
    refine rs_nmi h (fun x4 h => ?_)
    refine rs_istore_n (i := 2) C dX5_end_20 rfl (by decide) rfl ?_
    refine rs_aload_n (i := 0) C dX5_end_21 rfl rfl rfl ?_
    refine rs_iload_n (i := 1) C dX5_end_22 rfl rfl rfl ?_
    refine rp_X5_6 C kk_91 wl_X5_65 dX5_end_23 rfl h (fun S5 h => ?_)
    refine rs_iload_n (i := 2) C dX5_end_26 rfl rfl rfl ?_
    exact rs_iret C hr hlk h dX5_end_27
  · replace h := rs_it z3 h
    refine rs_iconst (v := (-1)) C dX5_end_14 (by decide) rfl ?_
    exact rs_iret C hr hlk h dX5_end_15
def xf_X5_requires (S : rs_St) (a1 : Int32) (a2 : Int32) : Option rs_St := if a1 = 0 then if (rs_gi S 91 11) = 0 then rs_lt (rs_si S 91 11 a2) (fun S3 => rs_lt (rs_si S3 91 12 (rs_gi S3 91 8)) (fun S4 => some S4)) else some S else some S
set_option maxRecDepth 100000 in
theorem c_X5_requires (l : Launch) (G : rs_G) (hG : rs_ok G) (S : rs_St) (a1 : Int32) (a2 : Int32)  (o : rs_St) (h : xf_X5_requires S a1 a2 = some o) : Met l yX5_requires (rs_wz yX5_requires cX5_requires 3 none) (rs_rm 2) (va_Pc [.ref (rs_ad G 91), .int a1, .int a2] (rs_pre G S)) (va_Qv (fun S2 => S2 = o) (rs_post G) (rs_A G)) 0 0 (rs_A G) := by
  refine rs_met hG (by decide) (Nat.le_of_ble_eq_true rfl) ?_
  intro p e s m args below meth c C hr hlk
  rw [xf_X5_requires] at h
  refine rs_iload_n (i := 1) C dX5_requires_0 rfl rfl rfl ?_
  refine rs_if_ne (tgt := 24) C dX5_requires_1 (by decide) rfl (fun z1 => ?_) (fun z1 => ?_)
  · replace h := rs_if z1 h
    exact rs_vret C hr hlk h dX5_requires_24
  · replace h := rs_it z1 h
    refine rs_aload_n (i := 0) C dX5_requires_4 rfl rfl rfl ?_
    refine rg_X5_11 C kk_91 wl_X5_69 dX5_requires_5 rfl ?_
    refine rs_if_ne (tgt := 24) C dX5_requires_8 (by decide) rfl (fun z2 => ?_) (fun z2 => ?_)
    · replace h := rs_if z2 h
      exact rs_vret C hr hlk h dX5_requires_24
    · replace h := rs_it z2 h
      refine rs_aload_n (i := 0) C dX5_requires_11 rfl rfl rfl ?_
      refine rs_iload_n (i := 2) C dX5_requires_12 rfl rfl rfl ?_
      refine rp_X5_11 C kk_91 wl_X5_69 dX5_requires_13 rfl h (fun S3 h => ?_)
      refine rs_aload_n (i := 0) C dX5_requires_16 rfl rfl rfl ?_
      refine rs_aload_n (i := 0) C dX5_requires_17 rfl rfl rfl ?_
      refine rg_X5_8 C kk_91 wl_X5_72 dX5_requires_18 rfl ?_
      refine rp_X5_12 C kk_91 wl_X5_75 dX5_requires_21 rfl h (fun S4 h => ?_)
      exact rs_vret C hr hlk h dX5_requires_24
def xf_X5_byteAt (S : rs_St) (a1 : Int32) : Option Int32 := if (rs_gi S 91 6) ≤ a1 then some (-1) else if a1 < 0 ∨ 160 ≤ a1.toNatClampNeg then none else some (rs_gi S 97 a1.toNatClampNeg)
set_option maxRecDepth 100000 in
theorem c_X5_byteAt (l : Launch) (G : rs_G) (hG : rs_ok G) (S : rs_St) (a1 : Int32)  (o : Int32) (h : xf_X5_byteAt S a1 = some o) : Met l yX5_byteAt (rs_wz yX5_byteAt cX5_byteAt 2 (some FieldType.int)) (rs_rm 2) (va_Pc [.ref (rs_ad G 91), .int a1] (rs_pre G S)) (va_Qi (fun r S2 => (r, S2) = (o, S)) (rs_post G) (rs_A G)) 0 0 (rs_A G) := by
  refine rs_met hG (by decide) (Nat.le_of_ble_eq_true rfl) ?_
  intro p e s m args below meth c C hr hlk
  rw [xf_X5_byteAt] at h
  refine rs_iload_n (i := 1) C dX5_byteAt_0 rfl rfl rfl ?_
  refine rs_aload_n (i := 0) C dX5_byteAt_1 rfl rfl rfl ?_
  refine rg_X5_6 C kk_91 wl_X5_65 dX5_byteAt_2 rfl ?_
  refine rs_icmp_ge (tgt := 17) C dX5_byteAt_5 (by decide) rfl (fun z1 => ?_) (fun z1 => ?_)
  · replace h := rs_it z1 h
    refine rs_iconst (v := (-1)) C dX5_byteAt_17 (by decide) rfl ?_
    exact rs_iret C hr hlk (rs_pr h) dX5_byteAt_18
  · replace h := rs_if z1 h
    refine rs_aload_n (i := 0) C dX5_byteAt_8 rfl rfl rfl ?_
    refine rg_X5_5 C kk_91 wl_X5_26 dX5_byteAt_9 rfl ?_
    refine rs_iload_n (i := 1) C dX5_byteAt_12 rfl rfl rfl ?_
    obtain ⟨z2, h⟩ := rs_ck h
    refine rs_ialdn C kk_97 ll_97 z2 dX5_byteAt_13 rfl ?_
    refine rs_goto (tgt := 18) C dX5_byteAt_14 (by decide) ?_
    exact rs_iret C hr hlk (rs_pr h) dX5_byteAt_18
def xf_X5_is (S : rs_St) (a1 : Int32) (a2 : Int32) (a3 : Int32) (a4 : Int32) : Option Int32 := if ((rs_gi S 91 7) - (rs_gi S 91 8)) = a1 then rs_b1 (xf_X5_byteAt S (rs_gi S 91 8)) (fun r3 => if r3 = a2 then rs_b1 (xf_X5_byteAt S ((rs_gi S 91 8) + 1)) (fun r6 => if r6 = a3 then rs_b1 (xf_X5_byteAt S ((rs_gi S 91 8) + 2)) (fun r9 => if r9 = a4 then some 1 else some 0) else some 0) else some 0) else some 0
set_option maxRecDepth 100000 in
theorem c_X5_is (l : Launch) (G : rs_G) (hG : rs_ok G) (S : rs_St) (a1 : Int32) (a2 : Int32) (a3 : Int32) (a4 : Int32)  (o : Int32) (h : xf_X5_is S a1 a2 a3 a4 = some o) : Met l yX5_is (rs_wz yX5_is cX5_is 5 (some FieldType.boolean)) (rs_rm 3) (va_Pc [.ref (rs_ad G 91), .int a1, .int a2, .int a3, .int a4] (rs_pre G S)) (va_Qi (fun r S2 => (r, S2) = (o, S)) (rs_post G) (rs_A G)) 0 0 (rs_A G) := by
  refine rs_met hG (by decide) (Nat.le_of_ble_eq_true rfl) ?_
  intro p e s m args below meth c C hr hlk
  rw [xf_X5_is] at h
  refine rs_aload_n (i := 0) C dX5_is_0 rfl rfl rfl ?_
  refine rg_X5_7 C kk_91 wl_X5_78 dX5_is_1 rfl ?_
  refine rs_aload_n (i := 0) C dX5_is_4 rfl rfl rfl ?_
  refine rg_X5_8 C kk_91 wl_X5_72 dX5_is_5 rfl ?_
  refine rs_isub C dX5_is_8 rfl ?_
  refine rs_iload_n (i := 1) C dX5_is_9 rfl rfl rfl ?_
  refine rs_icmp_ne (tgt := 58) C dX5_is_10 (by decide) rfl (fun z1 => ?_) (fun z1 => ?_)
  · replace h := rs_if z1 h
    refine rs_iconst (v := 0) C dX5_is_58 (by decide) rfl ?_
    exact rs_zret C hr hlk (Or.inl rfl) (rs_pr h) dX5_is_59
  · replace h := rs_it z1 h
    refine rs_aload_n (i := 0) C dX5_is_13 rfl rfl rfl ?_
    refine rs_aload_n (i := 0) C dX5_is_14 rfl rfl rfl ?_
    refine rg_X5_8 C kk_91 wl_X5_72 dX5_is_15 rfl ?_
    obtain ⟨r3, h2, h⟩ := rs_b1e h
    refine rs_callVi (r0 := r3) (S0 := S) C (rs_kd_lt kk_91 (by decide)) (rs_e5 kk_91) rfl (c_X5_byteAt l G hG S (rs_gi S 91 8) _ h2) ⟨wl_X5_81, wi_yX5_byteAt, wx_yX5_byteAt, wn_X5, wc_yX5_byteAt⟩ wy_yX5_byteAt (by decide) ⟨rfl, rfl⟩ rfl rfl (Nat.le_of_ble_eq_true rfl) dX5_is_18 rfl ?_
    refine rs_iload_n (i := 2) C dX5_is_21 rfl rfl rfl ?_
    refine rs_icmp_ne (tgt := 58) C dX5_is_22 (by decide) rfl (fun z4 => ?_) (fun z4 => ?_)
    · replace h := rs_if z4 h
      refine rs_iconst (v := 0) C dX5_is_58 (by decide) rfl ?_
      exact rs_zret C hr hlk (Or.inl rfl) (rs_pr h) dX5_is_59
    · replace h := rs_it z4 h
      refine rs_aload_n (i := 0) C dX5_is_25 rfl rfl rfl ?_
      refine rs_aload_n (i := 0) C dX5_is_26 rfl rfl rfl ?_
      refine rg_X5_8 C kk_91 wl_X5_72 dX5_is_27 rfl ?_
      refine rs_iconst (v := 1) C dX5_is_30 (by decide) rfl ?_
      refine rs_iadd C dX5_is_31 rfl ?_
      obtain ⟨r6, h5, h⟩ := rs_b1e h
      refine rs_callVi (r0 := r6) (S0 := S) C (rs_kd_lt kk_91 (by decide)) (rs_e5 kk_91) rfl (c_X5_byteAt l G hG S ((rs_gi S 91 8) + 1) _ h5) ⟨wl_X5_81, wi_yX5_byteAt, wx_yX5_byteAt, wn_X5, wc_yX5_byteAt⟩ wy_yX5_byteAt (by decide) ⟨rfl, rfl⟩ rfl rfl (Nat.le_of_ble_eq_true rfl) dX5_is_32 rfl ?_
      refine rs_iload_n (i := 3) C dX5_is_35 rfl rfl rfl ?_
      refine rs_icmp_ne (tgt := 58) C dX5_is_36 (by decide) rfl (fun z7 => ?_) (fun z7 => ?_)
      · replace h := rs_if z7 h
        refine rs_iconst (v := 0) C dX5_is_58 (by decide) rfl ?_
        exact rs_zret C hr hlk (Or.inl rfl) (rs_pr h) dX5_is_59
      · replace h := rs_it z7 h
        refine rs_aload_n (i := 0) C dX5_is_39 rfl rfl rfl ?_
        refine rs_aload_n (i := 0) C dX5_is_40 rfl rfl rfl ?_
        refine rg_X5_8 C kk_91 wl_X5_72 dX5_is_41 rfl ?_
        refine rs_iconst (v := 2) C dX5_is_44 (by decide) rfl ?_
        refine rs_iadd C dX5_is_45 rfl ?_
        obtain ⟨r9, h8, h⟩ := rs_b1e h
        refine rs_callVi (r0 := r9) (S0 := S) C (rs_kd_lt kk_91 (by decide)) (rs_e5 kk_91) rfl (c_X5_byteAt l G hG S ((rs_gi S 91 8) + 2) _ h8) ⟨wl_X5_81, wi_yX5_byteAt, wx_yX5_byteAt, wn_X5, wc_yX5_byteAt⟩ wy_yX5_byteAt (by decide) ⟨rfl, rfl⟩ rfl rfl (Nat.le_of_ble_eq_true rfl) dX5_is_46 rfl ?_
        refine rs_iload C dX5_is_49 rfl rfl ?_
        refine rs_icmp_ne (tgt := 58) C dX5_is_51 (by decide) rfl (fun z10 => ?_) (fun z10 => ?_)
        · replace h := rs_if z10 h
          refine rs_iconst (v := 0) C dX5_is_58 (by decide) rfl ?_
          exact rs_zret C hr hlk (Or.inl rfl) (rs_pr h) dX5_is_59
        · replace h := rs_it z10 h
          refine rs_iconst (v := 1) C dX5_is_54 (by decide) rfl ?_
          refine rs_goto (tgt := 59) C dX5_is_55 (by decide) ?_
          exact rs_zret C hr hlk (Or.inr rfl) (rs_pr h) dX5_is_59
def xf_X5_endsIn (S : rs_St) (a1 : Int32) (a2 : Int32) (a3 : Int32) : Option Int32 := rs_b1 (xf_X5_byteAt S ((rs_gi S 91 8) + 3)) (fun r2 => if r2 = a1 then if a2 = 0 then if a3 = 0 then some 1 else rs_b1 (xf_X5_byteAt S ((rs_gi S 91 8) + 5)) (fun r7 => if r7 = a3 then some 1 else some 0) else rs_b1 (xf_X5_byteAt S ((rs_gi S 91 8) + 4)) (fun r10 => if r10 = a2 then if a3 = 0 then some 1 else rs_b1 (xf_X5_byteAt S ((rs_gi S 91 8) + 5)) (fun r14 => if r14 = a3 then some 1 else some 0) else some 0) else some 0)
set_option maxRecDepth 100000 in
theorem c_X5_endsIn (l : Launch) (G : rs_G) (hG : rs_ok G) (S : rs_St) (a1 : Int32) (a2 : Int32) (a3 : Int32)  (o : Int32) (h : xf_X5_endsIn S a1 a2 a3 = some o) : Met l yX5_endsIn (rs_wz yX5_endsIn cX5_endsIn 4 (some FieldType.boolean)) (rs_rm 3) (va_Pc [.ref (rs_ad G 91), .int a1, .int a2, .int a3] (rs_pre G S)) (va_Qi (fun r S2 => (r, S2) = (o, S)) (rs_post G) (rs_A G)) 0 0 (rs_A G) := by
  refine rs_met hG (by decide) (Nat.le_of_ble_eq_true rfl) ?_
  intro p e s m args below meth c C hr hlk
  rw [xf_X5_endsIn] at h
  refine rs_aload_n (i := 0) C dX5_endsIn_0 rfl rfl rfl ?_
  refine rs_aload_n (i := 0) C dX5_endsIn_1 rfl rfl rfl ?_
  refine rg_X5_8 C kk_91 wl_X5_72 dX5_endsIn_2 rfl ?_
  refine rs_iconst (v := 3) C dX5_endsIn_5 (by decide) rfl ?_
  refine rs_iadd C dX5_endsIn_6 rfl ?_
  obtain ⟨r2, h1, h⟩ := rs_b1e h
  refine rs_callVi (r0 := r2) (S0 := S) C (rs_kd_lt kk_91 (by decide)) (rs_e5 kk_91) rfl (c_X5_byteAt l G hG S ((rs_gi S 91 8) + 3) _ h1) ⟨wl_X5_81, wi_yX5_byteAt, wx_yX5_byteAt, wn_X5, wc_yX5_byteAt⟩ wy_yX5_byteAt (by decide) ⟨rfl, rfl⟩ rfl rfl (Nat.le_of_ble_eq_true rfl) dX5_endsIn_7 rfl ?_
  refine rs_iload_n (i := 1) C dX5_endsIn_10 rfl rfl rfl ?_
  refine rs_icmp_ne (tgt := 54) C dX5_endsIn_11 (by decide) rfl (fun z3 => ?_) (fun z3 => ?_)
  · replace h := rs_if z3 h
    refine rs_iconst (v := 0) C dX5_endsIn_54 (by decide) rfl ?_
    exact rs_zret C hr hlk (Or.inl rfl) (rs_pr h) dX5_endsIn_55
  · replace h := rs_it z3 h
    refine rs_iload_n (i := 2) C dX5_endsIn_14 rfl rfl rfl ?_
    refine rs_if_eq (tgt := 32) C dX5_endsIn_15 (by decide) rfl (fun z4 => ?_) (fun z4 => ?_)
    · replace h := rs_it z4 h
      refine rs_iload_n (i := 3) C dX5_endsIn_32 rfl rfl rfl ?_
      refine rs_if_eq (tgt := 50) C dX5_endsIn_33 (by decide) rfl (fun z5 => ?_) (fun z5 => ?_)
      · replace h := rs_it z5 h
        refine rs_iconst (v := 1) C dX5_endsIn_50 (by decide) rfl ?_
        refine rs_goto (tgt := 55) C dX5_endsIn_51 (by decide) ?_
        exact rs_zret C hr hlk (Or.inr rfl) (rs_pr h) dX5_endsIn_55
      · replace h := rs_if z5 h
        refine rs_aload_n (i := 0) C dX5_endsIn_36 rfl rfl rfl ?_
        refine rs_aload_n (i := 0) C dX5_endsIn_37 rfl rfl rfl ?_
        refine rg_X5_8 C kk_91 wl_X5_72 dX5_endsIn_38 rfl ?_
        refine rs_iconst (v := 5) C dX5_endsIn_41 (by decide) rfl ?_
        refine rs_iadd C dX5_endsIn_42 rfl ?_
        obtain ⟨r7, h6, h⟩ := rs_b1e h
        refine rs_callVi (r0 := r7) (S0 := S) C (rs_kd_lt kk_91 (by decide)) (rs_e5 kk_91) rfl (c_X5_byteAt l G hG S ((rs_gi S 91 8) + 5) _ h6) ⟨wl_X5_81, wi_yX5_byteAt, wx_yX5_byteAt, wn_X5, wc_yX5_byteAt⟩ wy_yX5_byteAt (by decide) ⟨rfl, rfl⟩ rfl rfl (Nat.le_of_ble_eq_true rfl) dX5_endsIn_43 rfl ?_
        refine rs_iload_n (i := 3) C dX5_endsIn_46 rfl rfl rfl ?_
        refine rs_icmp_ne (tgt := 54) C dX5_endsIn_47 (by decide) rfl (fun z8 => ?_) (fun z8 => ?_)
        · replace h := rs_if z8 h
          refine rs_iconst (v := 0) C dX5_endsIn_54 (by decide) rfl ?_
          exact rs_zret C hr hlk (Or.inl rfl) (rs_pr h) dX5_endsIn_55
        · replace h := rs_it z8 h
          refine rs_iconst (v := 1) C dX5_endsIn_50 (by decide) rfl ?_
          refine rs_goto (tgt := 55) C dX5_endsIn_51 (by decide) ?_
          exact rs_zret C hr hlk (Or.inr rfl) (rs_pr h) dX5_endsIn_55
    · replace h := rs_if z4 h
      refine rs_aload_n (i := 0) C dX5_endsIn_18 rfl rfl rfl ?_
      refine rs_aload_n (i := 0) C dX5_endsIn_19 rfl rfl rfl ?_
      refine rg_X5_8 C kk_91 wl_X5_72 dX5_endsIn_20 rfl ?_
      refine rs_iconst (v := 4) C dX5_endsIn_23 (by decide) rfl ?_
      refine rs_iadd C dX5_endsIn_24 rfl ?_
      obtain ⟨r10, h9, h⟩ := rs_b1e h
      refine rs_callVi (r0 := r10) (S0 := S) C (rs_kd_lt kk_91 (by decide)) (rs_e5 kk_91) rfl (c_X5_byteAt l G hG S ((rs_gi S 91 8) + 4) _ h9) ⟨wl_X5_81, wi_yX5_byteAt, wx_yX5_byteAt, wn_X5, wc_yX5_byteAt⟩ wy_yX5_byteAt (by decide) ⟨rfl, rfl⟩ rfl rfl (Nat.le_of_ble_eq_true rfl) dX5_endsIn_25 rfl ?_
      refine rs_iload_n (i := 2) C dX5_endsIn_28 rfl rfl rfl ?_
      refine rs_icmp_ne (tgt := 54) C dX5_endsIn_29 (by decide) rfl (fun z11 => ?_) (fun z11 => ?_)
      · replace h := rs_if z11 h
        refine rs_iconst (v := 0) C dX5_endsIn_54 (by decide) rfl ?_
        exact rs_zret C hr hlk (Or.inl rfl) (rs_pr h) dX5_endsIn_55
      · replace h := rs_it z11 h
        refine rs_iload_n (i := 3) C dX5_endsIn_32 rfl rfl rfl ?_
        refine rs_if_eq (tgt := 50) C dX5_endsIn_33 (by decide) rfl (fun z12 => ?_) (fun z12 => ?_)
        · replace h := rs_it z12 h
          refine rs_iconst (v := 1) C dX5_endsIn_50 (by decide) rfl ?_
          refine rs_goto (tgt := 55) C dX5_endsIn_51 (by decide) ?_
          exact rs_zret C hr hlk (Or.inr rfl) (rs_pr h) dX5_endsIn_55
        · replace h := rs_if z12 h
          refine rs_aload_n (i := 0) C dX5_endsIn_36 rfl rfl rfl ?_
          refine rs_aload_n (i := 0) C dX5_endsIn_37 rfl rfl rfl ?_
          refine rg_X5_8 C kk_91 wl_X5_72 dX5_endsIn_38 rfl ?_
          refine rs_iconst (v := 5) C dX5_endsIn_41 (by decide) rfl ?_
          refine rs_iadd C dX5_endsIn_42 rfl ?_
          obtain ⟨r14, h13, h⟩ := rs_b1e h
          refine rs_callVi (r0 := r14) (S0 := S) C (rs_kd_lt kk_91 (by decide)) (rs_e5 kk_91) rfl (c_X5_byteAt l G hG S ((rs_gi S 91 8) + 5) _ h13) ⟨wl_X5_81, wi_yX5_byteAt, wx_yX5_byteAt, wn_X5, wc_yX5_byteAt⟩ wy_yX5_byteAt (by decide) ⟨rfl, rfl⟩ rfl rfl (Nat.le_of_ble_eq_true rfl) dX5_endsIn_43 rfl ?_
          refine rs_iload_n (i := 3) C dX5_endsIn_46 rfl rfl rfl ?_
          refine rs_icmp_ne (tgt := 54) C dX5_endsIn_47 (by decide) rfl (fun z15 => ?_) (fun z15 => ?_)
          · replace h := rs_if z15 h
            refine rs_iconst (v := 0) C dX5_endsIn_54 (by decide) rfl ?_
            exact rs_zret C hr hlk (Or.inl rfl) (rs_pr h) dX5_endsIn_55
          · replace h := rs_it z15 h
            refine rs_iconst (v := 1) C dX5_endsIn_50 (by decide) rfl ?_
            refine rs_goto (tgt := 55) C dX5_endsIn_51 (by decide) ?_
            exact rs_zret C hr hlk (Or.inr rfl) (rs_pr h) dX5_endsIn_55
def xf_X5_lineNow (S : rs_St) : Option Int32 := rs_b1 (xf_X5_is S 6 115 116 101) (fun r2 => rs_jn (rs_b1 (xf_X5_is S 5 98 108 105) (fun r5 => rs_jn (rs_b1 (xf_X5_is S 3 115 97 119) (fun r8 => if r8 = 0 then rs_b1 (xf_X5_is S 4 112 97 105) (fun r11 => rs_jn (rs_b1 (xf_X5_is S 4 114 111 119) (fun r14 => rs_jn (rs_b1 (xf_X5_is S 5 100 101 108) (fun r17 => rs_jn (rs_b1 (xf_X5_is S 6 101 120 112) (fun r20 => rs_jn (rs_b1 (xf_X5_is S 4 112 97 99) (fun r23 => if r23 = 0 then some (-4) else rs_b1 (xf_X5_endsIn S 101 0 0) (fun r26 => if r26 = 0 then some (-4) else some 7))) (fun J21 => if r20 = 0 then J21 else rs_b1 (xf_X5_endsIn S 111 115 101) (fun r30 => if r30 = 0 then J21 else some 6)))) (fun J18 => if r17 = 0 then J18 else rs_b1 (xf_X5_endsIn S 97 121 0) (fun r34 => if r34 = 0 then J18 else some 5)))) (fun J15 => if r14 = 0 then J15 else rs_b1 (xf_X5_endsIn S 115 0 0) (fun r38 => if r38 = 0 then J15 else some 4)))) (fun J12 => if r11 = 0 then J12 else rs_b1 (xf_X5_endsIn S 114 0 0) (fun r42 => if r42 = 0 then J12 else some 3))) else some 2)) (fun J6 => if r5 = 0 then J6 else rs_b1 (xf_X5_endsIn S 110 107 0) (fun r46 => if r46 = 0 then J6 else some 1)))) (fun J3 => if r2 = 0 then J3 else rs_b1 (xf_X5_endsIn S 97 100 121) (fun r50 => if r50 = 0 then J3 else some 0)))
set_option maxRecDepth 100000 in
theorem c_X5_lineNow (l : Launch) (G : rs_G) (hG : rs_ok G) (S : rs_St)  (o : Int32) (h : xf_X5_lineNow S = some o) : Met l yX5_lineNow (rs_wz yX5_lineNow cX5_lineNow 1 (some FieldType.int)) (rs_rm 4) (va_Pc [.ref (rs_ad G 91)] (rs_pre G S)) (va_Qi (fun r S2 => (r, S2) = (o, S)) (rs_post G) (rs_A G)) 0 0 (rs_A G) := by
  refine rs_met hG (by decide) (Nat.le_of_ble_eq_true rfl) ?_
  intro p e s m args below meth c C hr hlk
  rw [xf_X5_lineNow] at h
  refine rs_aload_n (i := 0) C dX5_lineNow_0 rfl rfl rfl ?_
  refine rs_bipush (v := 6) C dX5_lineNow_1 (by decide) rfl ?_
  refine rs_bipush (v := 115) C dX5_lineNow_3 (by decide) rfl ?_
  refine rs_bipush (v := 116) C dX5_lineNow_5 (by decide) rfl ?_
  refine rs_bipush (v := 101) C dX5_lineNow_7 (by decide) rfl ?_
  obtain ⟨r2, h1, h⟩ := rs_b1e h
  refine rs_callVi (r0 := r2) (S0 := S) C (rs_kd_lt kk_91 (by decide)) (rs_e5 kk_91) rfl (c_X5_is l G hG S 6 115 116 101 _ h1) ⟨wl_X5_85, wi_yX5_is, wx_yX5_is, wn_X5, wc_yX5_is⟩ wy_yX5_is (by decide) ⟨rfl, rfl⟩ rfl rfl (Nat.le_of_ble_eq_true rfl) dX5_lineNow_9 rfl ?_
  refine rs_jw (P := fun J => J = some o → rs_Xi G 1 p l e (rs_rm 4) s m args below meth c (o, S) S 30 [(0, .ref (rs_ad G 91))] []) h (fun  h => ?_) (fun J3 KJ3 h => ?_)
  · refine rs_aload_n (i := 0) C dX5_lineNow_30 rfl rfl rfl ?_
    refine rs_iconst (v := 5) C dX5_lineNow_31 (by decide) rfl ?_
    refine rs_bipush (v := 98) C dX5_lineNow_32 (by decide) rfl ?_
    refine rs_bipush (v := 108) C dX5_lineNow_34 (by decide) rfl ?_
    refine rs_bipush (v := 105) C dX5_lineNow_36 (by decide) rfl ?_
    obtain ⟨r5, h4, h⟩ := rs_b1e h
    refine rs_callVi (r0 := r5) (S0 := S) C (rs_kd_lt kk_91 (by decide)) (rs_e5 kk_91) rfl (c_X5_is l G hG S 5 98 108 105 _ h4) ⟨wl_X5_85, wi_yX5_is, wx_yX5_is, wn_X5, wc_yX5_is⟩ wy_yX5_is (by decide) ⟨rfl, rfl⟩ rfl rfl (Nat.le_of_ble_eq_true rfl) dX5_lineNow_38 rfl ?_
    refine rs_jw (P := fun J => J = some o → rs_Xi G 1 p l e (rs_rm 4) s m args below meth c (o, S) S 58 [(0, .ref (rs_ad G 91))] []) h (fun  h => ?_) (fun J6 KJ6 h => ?_)
    · refine rs_aload_n (i := 0) C dX5_lineNow_58 rfl rfl rfl ?_
      refine rs_iconst (v := 3) C dX5_lineNow_59 (by decide) rfl ?_
      refine rs_bipush (v := 115) C dX5_lineNow_60 (by decide) rfl ?_
      refine rs_bipush (v := 97) C dX5_lineNow_62 (by decide) rfl ?_
      refine rs_bipush (v := 119) C dX5_lineNow_64 (by decide) rfl ?_
      obtain ⟨r8, h7, h⟩ := rs_b1e h
      refine rs_callVi (r0 := r8) (S0 := S) C (rs_kd_lt kk_91 (by decide)) (rs_e5 kk_91) rfl (c_X5_is l G hG S 3 115 97 119 _ h7) ⟨wl_X5_85, wi_yX5_is, wx_yX5_is, wn_X5, wc_yX5_is⟩ wy_yX5_is (by decide) ⟨rfl, rfl⟩ rfl rfl (Nat.le_of_ble_eq_true rfl) dX5_lineNow_66 rfl ?_
      refine rs_if_eq (tgt := 74) C dX5_lineNow_69 (by decide) rfl (fun z9 => ?_) (fun z9 => ?_)
      · replace h := rs_it z9 h
        refine rs_aload_n (i := 0) C dX5_lineNow_74 rfl rfl rfl ?_
        refine rs_iconst (v := 4) C dX5_lineNow_75 (by decide) rfl ?_
        refine rs_bipush (v := 112) C dX5_lineNow_76 (by decide) rfl ?_
        refine rs_bipush (v := 97) C dX5_lineNow_78 (by decide) rfl ?_
        refine rs_bipush (v := 105) C dX5_lineNow_80 (by decide) rfl ?_
        obtain ⟨r11, h10, h⟩ := rs_b1e h
        refine rs_callVi (r0 := r11) (S0 := S) C (rs_kd_lt kk_91 (by decide)) (rs_e5 kk_91) rfl (c_X5_is l G hG S 4 112 97 105 _ h10) ⟨wl_X5_85, wi_yX5_is, wx_yX5_is, wn_X5, wc_yX5_is⟩ wy_yX5_is (by decide) ⟨rfl, rfl⟩ rfl rfl (Nat.le_of_ble_eq_true rfl) dX5_lineNow_82 rfl ?_
        refine rs_jw (P := fun J => J = some o → rs_Xi G 1 p l e (rs_rm 4) s m args below meth c (o, S) S 101 [(0, .ref (rs_ad G 91))] []) h (fun  h => ?_) (fun J12 KJ12 h => ?_)
        · refine rs_aload_n (i := 0) C dX5_lineNow_101 rfl rfl rfl ?_
          refine rs_iconst (v := 4) C dX5_lineNow_102 (by decide) rfl ?_
          refine rs_bipush (v := 114) C dX5_lineNow_103 (by decide) rfl ?_
          refine rs_bipush (v := 111) C dX5_lineNow_105 (by decide) rfl ?_
          refine rs_bipush (v := 119) C dX5_lineNow_107 (by decide) rfl ?_
          obtain ⟨r14, h13, h⟩ := rs_b1e h
          refine rs_callVi (r0 := r14) (S0 := S) C (rs_kd_lt kk_91 (by decide)) (rs_e5 kk_91) rfl (c_X5_is l G hG S 4 114 111 119 _ h13) ⟨wl_X5_85, wi_yX5_is, wx_yX5_is, wn_X5, wc_yX5_is⟩ wy_yX5_is (by decide) ⟨rfl, rfl⟩ rfl rfl (Nat.le_of_ble_eq_true rfl) dX5_lineNow_109 rfl ?_
          refine rs_jw (P := fun J => J = some o → rs_Xi G 1 p l e (rs_rm 4) s m args below meth c (o, S) S 128 [(0, .ref (rs_ad G 91))] []) h (fun  h => ?_) (fun J15 KJ15 h => ?_)
          · refine rs_aload_n (i := 0) C dX5_lineNow_128 rfl rfl rfl ?_
            refine rs_iconst (v := 5) C dX5_lineNow_129 (by decide) rfl ?_
            refine rs_bipush (v := 100) C dX5_lineNow_130 (by decide) rfl ?_
            refine rs_bipush (v := 101) C dX5_lineNow_132 (by decide) rfl ?_
            refine rs_bipush (v := 108) C dX5_lineNow_134 (by decide) rfl ?_
            obtain ⟨r17, h16, h⟩ := rs_b1e h
            refine rs_callVi (r0 := r17) (S0 := S) C (rs_kd_lt kk_91 (by decide)) (rs_e5 kk_91) rfl (c_X5_is l G hG S 5 100 101 108 _ h16) ⟨wl_X5_85, wi_yX5_is, wx_yX5_is, wn_X5, wc_yX5_is⟩ wy_yX5_is (by decide) ⟨rfl, rfl⟩ rfl rfl (Nat.le_of_ble_eq_true rfl) dX5_lineNow_136 rfl ?_
            refine rs_jw (P := fun J => J = some o → rs_Xi G 1 p l e (rs_rm 4) s m args below meth c (o, S) S 156 [(0, .ref (rs_ad G 91))] []) h (fun  h => ?_) (fun J18 KJ18 h => ?_)
            · refine rs_aload_n (i := 0) C dX5_lineNow_156 rfl rfl rfl ?_
              refine rs_bipush (v := 6) C dX5_lineNow_157 (by decide) rfl ?_
              refine rs_bipush (v := 101) C dX5_lineNow_159 (by decide) rfl ?_
              refine rs_bipush (v := 120) C dX5_lineNow_161 (by decide) rfl ?_
              refine rs_bipush (v := 112) C dX5_lineNow_163 (by decide) rfl ?_
              obtain ⟨r20, h19, h⟩ := rs_b1e h
              refine rs_callVi (r0 := r20) (S0 := S) C (rs_kd_lt kk_91 (by decide)) (rs_e5 kk_91) rfl (c_X5_is l G hG S 6 101 120 112 _ h19) ⟨wl_X5_85, wi_yX5_is, wx_yX5_is, wn_X5, wc_yX5_is⟩ wy_yX5_is (by decide) ⟨rfl, rfl⟩ rfl rfl (Nat.le_of_ble_eq_true rfl) dX5_lineNow_165 rfl ?_
              refine rs_jw (P := fun J => J = some o → rs_Xi G 1 p l e (rs_rm 4) s m args below meth c (o, S) S 187 [(0, .ref (rs_ad G 91))] []) h (fun  h => ?_) (fun J21 KJ21 h => ?_)
              · refine rs_aload_n (i := 0) C dX5_lineNow_187 rfl rfl rfl ?_
                refine rs_iconst (v := 4) C dX5_lineNow_188 (by decide) rfl ?_
                refine rs_bipush (v := 112) C dX5_lineNow_189 (by decide) rfl ?_
                refine rs_bipush (v := 97) C dX5_lineNow_191 (by decide) rfl ?_
                refine rs_bipush (v := 99) C dX5_lineNow_193 (by decide) rfl ?_
                obtain ⟨r23, h22, h⟩ := rs_b1e h
                refine rs_callVi (r0 := r23) (S0 := S) C (rs_kd_lt kk_91 (by decide)) (rs_e5 kk_91) rfl (c_X5_is l G hG S 4 112 97 99 _ h22) ⟨wl_X5_85, wi_yX5_is, wx_yX5_is, wn_X5, wc_yX5_is⟩ wy_yX5_is (by decide) ⟨rfl, rfl⟩ rfl rfl (Nat.le_of_ble_eq_true rfl) dX5_lineNow_195 rfl ?_
                refine rs_if_eq (tgt := 217) C dX5_lineNow_198 (by decide) rfl (fun z24 => ?_) (fun z24 => ?_)
                · replace h := rs_it z24 h
                  refine rs_bipush (v := (-4)) C dX5_lineNow_217 (by decide) rfl ?_
                  exact rs_iret C hr hlk (rs_pr h) dX5_lineNow_219
                · replace h := rs_if z24 h
                  refine rs_aload_n (i := 0) C dX5_lineNow_201 rfl rfl rfl ?_
                  refine rs_bipush (v := 101) C dX5_lineNow_202 (by decide) rfl ?_
                  refine rs_iconst (v := 0) C dX5_lineNow_204 (by decide) rfl ?_
                  refine rs_iconst (v := 0) C dX5_lineNow_205 (by decide) rfl ?_
                  obtain ⟨r26, h25, h⟩ := rs_b1e h
                  refine rs_callVi (r0 := r26) (S0 := S) C (rs_kd_lt kk_91 (by decide)) (rs_e5 kk_91) rfl (c_X5_endsIn l G hG S 101 0 0 _ h25) ⟨wl_X5_89, wi_yX5_endsIn, wx_yX5_endsIn, wn_X5, wc_yX5_endsIn⟩ wy_yX5_endsIn (by decide) ⟨rfl, rfl⟩ rfl rfl (Nat.le_of_ble_eq_true rfl) dX5_lineNow_206 rfl ?_
                  refine rs_if_eq (tgt := 217) C dX5_lineNow_209 (by decide) rfl (fun z27 => ?_) (fun z27 => ?_)
                  · replace h := rs_it z27 h
                    refine rs_bipush (v := (-4)) C dX5_lineNow_217 (by decide) rfl ?_
                    exact rs_iret C hr hlk (rs_pr h) dX5_lineNow_219
                  · replace h := rs_if z27 h
                    refine rs_bipush (v := 7) C dX5_lineNow_212 (by decide) rfl ?_
                    refine rs_goto (tgt := 219) C dX5_lineNow_214 (by decide) ?_
                    exact rs_iret C hr hlk (rs_pr h) dX5_lineNow_219
              · refine rs_if_eq (tgt := 187) C dX5_lineNow_168 (by decide) rfl (fun z28 => ?_) (fun z28 => ?_)
                · replace h := rs_it z28 h
                  exact rs_subk (KJ21 h) (rs_ac rfl rs_a0)
                · replace h := rs_if z28 h
                  refine rs_aload_n (i := 0) C dX5_lineNow_171 rfl rfl rfl ?_
                  refine rs_bipush (v := 111) C dX5_lineNow_172 (by decide) rfl ?_
                  refine rs_bipush (v := 115) C dX5_lineNow_174 (by decide) rfl ?_
                  refine rs_bipush (v := 101) C dX5_lineNow_176 (by decide) rfl ?_
                  obtain ⟨r30, h29, h⟩ := rs_b1e h
                  refine rs_callVi (r0 := r30) (S0 := S) C (rs_kd_lt kk_91 (by decide)) (rs_e5 kk_91) rfl (c_X5_endsIn l G hG S 111 115 101 _ h29) ⟨wl_X5_89, wi_yX5_endsIn, wx_yX5_endsIn, wn_X5, wc_yX5_endsIn⟩ wy_yX5_endsIn (by decide) ⟨rfl, rfl⟩ rfl rfl (Nat.le_of_ble_eq_true rfl) dX5_lineNow_178 rfl ?_
                  refine rs_if_eq (tgt := 187) C dX5_lineNow_181 (by decide) rfl (fun z31 => ?_) (fun z31 => ?_)
                  · replace h := rs_it z31 h
                    exact rs_subk (KJ21 h) (rs_ac rfl rs_a0)
                  · replace h := rs_if z31 h
                    refine rs_bipush (v := 6) C dX5_lineNow_184 (by decide) rfl ?_
                    exact rs_iret C hr hlk (rs_pr h) dX5_lineNow_186
            · refine rs_if_eq (tgt := 156) C dX5_lineNow_139 (by decide) rfl (fun z32 => ?_) (fun z32 => ?_)
              · replace h := rs_it z32 h
                exact rs_subk (KJ18 h) (rs_ac rfl rs_a0)
              · replace h := rs_if z32 h
                refine rs_aload_n (i := 0) C dX5_lineNow_142 rfl rfl rfl ?_
                refine rs_bipush (v := 97) C dX5_lineNow_143 (by decide) rfl ?_
                refine rs_bipush (v := 121) C dX5_lineNow_145 (by decide) rfl ?_
                refine rs_iconst (v := 0) C dX5_lineNow_147 (by decide) rfl ?_
                obtain ⟨r34, h33, h⟩ := rs_b1e h
                refine rs_callVi (r0 := r34) (S0 := S) C (rs_kd_lt kk_91 (by decide)) (rs_e5 kk_91) rfl (c_X5_endsIn l G hG S 97 121 0 _ h33) ⟨wl_X5_89, wi_yX5_endsIn, wx_yX5_endsIn, wn_X5, wc_yX5_endsIn⟩ wy_yX5_endsIn (by decide) ⟨rfl, rfl⟩ rfl rfl (Nat.le_of_ble_eq_true rfl) dX5_lineNow_148 rfl ?_
                refine rs_if_eq (tgt := 156) C dX5_lineNow_151 (by decide) rfl (fun z35 => ?_) (fun z35 => ?_)
                · replace h := rs_it z35 h
                  exact rs_subk (KJ18 h) (rs_ac rfl rs_a0)
                · replace h := rs_if z35 h
                  refine rs_iconst (v := 5) C dX5_lineNow_154 (by decide) rfl ?_
                  exact rs_iret C hr hlk (rs_pr h) dX5_lineNow_155
          · refine rs_if_eq (tgt := 128) C dX5_lineNow_112 (by decide) rfl (fun z36 => ?_) (fun z36 => ?_)
            · replace h := rs_it z36 h
              exact rs_subk (KJ15 h) (rs_ac rfl rs_a0)
            · replace h := rs_if z36 h
              refine rs_aload_n (i := 0) C dX5_lineNow_115 rfl rfl rfl ?_
              refine rs_bipush (v := 115) C dX5_lineNow_116 (by decide) rfl ?_
              refine rs_iconst (v := 0) C dX5_lineNow_118 (by decide) rfl ?_
              refine rs_iconst (v := 0) C dX5_lineNow_119 (by decide) rfl ?_
              obtain ⟨r38, h37, h⟩ := rs_b1e h
              refine rs_callVi (r0 := r38) (S0 := S) C (rs_kd_lt kk_91 (by decide)) (rs_e5 kk_91) rfl (c_X5_endsIn l G hG S 115 0 0 _ h37) ⟨wl_X5_89, wi_yX5_endsIn, wx_yX5_endsIn, wn_X5, wc_yX5_endsIn⟩ wy_yX5_endsIn (by decide) ⟨rfl, rfl⟩ rfl rfl (Nat.le_of_ble_eq_true rfl) dX5_lineNow_120 rfl ?_
              refine rs_if_eq (tgt := 128) C dX5_lineNow_123 (by decide) rfl (fun z39 => ?_) (fun z39 => ?_)
              · replace h := rs_it z39 h
                exact rs_subk (KJ15 h) (rs_ac rfl rs_a0)
              · replace h := rs_if z39 h
                refine rs_iconst (v := 4) C dX5_lineNow_126 (by decide) rfl ?_
                exact rs_iret C hr hlk (rs_pr h) dX5_lineNow_127
        · refine rs_if_eq (tgt := 101) C dX5_lineNow_85 (by decide) rfl (fun z40 => ?_) (fun z40 => ?_)
          · replace h := rs_it z40 h
            exact rs_subk (KJ12 h) (rs_ac rfl rs_a0)
          · replace h := rs_if z40 h
            refine rs_aload_n (i := 0) C dX5_lineNow_88 rfl rfl rfl ?_
            refine rs_bipush (v := 114) C dX5_lineNow_89 (by decide) rfl ?_
            refine rs_iconst (v := 0) C dX5_lineNow_91 (by decide) rfl ?_
            refine rs_iconst (v := 0) C dX5_lineNow_92 (by decide) rfl ?_
            obtain ⟨r42, h41, h⟩ := rs_b1e h
            refine rs_callVi (r0 := r42) (S0 := S) C (rs_kd_lt kk_91 (by decide)) (rs_e5 kk_91) rfl (c_X5_endsIn l G hG S 114 0 0 _ h41) ⟨wl_X5_89, wi_yX5_endsIn, wx_yX5_endsIn, wn_X5, wc_yX5_endsIn⟩ wy_yX5_endsIn (by decide) ⟨rfl, rfl⟩ rfl rfl (Nat.le_of_ble_eq_true rfl) dX5_lineNow_93 rfl ?_
            refine rs_if_eq (tgt := 101) C dX5_lineNow_96 (by decide) rfl (fun z43 => ?_) (fun z43 => ?_)
            · replace h := rs_it z43 h
              exact rs_subk (KJ12 h) (rs_ac rfl rs_a0)
            · replace h := rs_if z43 h
              refine rs_iconst (v := 3) C dX5_lineNow_99 (by decide) rfl ?_
              exact rs_iret C hr hlk (rs_pr h) dX5_lineNow_100
      · replace h := rs_if z9 h
        refine rs_iconst (v := 2) C dX5_lineNow_72 (by decide) rfl ?_
        exact rs_iret C hr hlk (rs_pr h) dX5_lineNow_73
    · refine rs_if_eq (tgt := 58) C dX5_lineNow_41 (by decide) rfl (fun z44 => ?_) (fun z44 => ?_)
      · replace h := rs_it z44 h
        exact rs_subk (KJ6 h) (rs_ac rfl rs_a0)
      · replace h := rs_if z44 h
        refine rs_aload_n (i := 0) C dX5_lineNow_44 rfl rfl rfl ?_
        refine rs_bipush (v := 110) C dX5_lineNow_45 (by decide) rfl ?_
        refine rs_bipush (v := 107) C dX5_lineNow_47 (by decide) rfl ?_
        refine rs_iconst (v := 0) C dX5_lineNow_49 (by decide) rfl ?_
        obtain ⟨r46, h45, h⟩ := rs_b1e h
        refine rs_callVi (r0 := r46) (S0 := S) C (rs_kd_lt kk_91 (by decide)) (rs_e5 kk_91) rfl (c_X5_endsIn l G hG S 110 107 0 _ h45) ⟨wl_X5_89, wi_yX5_endsIn, wx_yX5_endsIn, wn_X5, wc_yX5_endsIn⟩ wy_yX5_endsIn (by decide) ⟨rfl, rfl⟩ rfl rfl (Nat.le_of_ble_eq_true rfl) dX5_lineNow_50 rfl ?_
        refine rs_if_eq (tgt := 58) C dX5_lineNow_53 (by decide) rfl (fun z47 => ?_) (fun z47 => ?_)
        · replace h := rs_it z47 h
          exact rs_subk (KJ6 h) (rs_ac rfl rs_a0)
        · replace h := rs_if z47 h
          refine rs_iconst (v := 1) C dX5_lineNow_56 (by decide) rfl ?_
          exact rs_iret C hr hlk (rs_pr h) dX5_lineNow_57
  · refine rs_if_eq (tgt := 30) C dX5_lineNow_12 (by decide) rfl (fun z48 => ?_) (fun z48 => ?_)
    · replace h := rs_it z48 h
      exact rs_subk (KJ3 h) (rs_ac rfl rs_a0)
    · replace h := rs_if z48 h
      refine rs_aload_n (i := 0) C dX5_lineNow_15 rfl rfl rfl ?_
      refine rs_bipush (v := 97) C dX5_lineNow_16 (by decide) rfl ?_
      refine rs_bipush (v := 100) C dX5_lineNow_18 (by decide) rfl ?_
      refine rs_bipush (v := 121) C dX5_lineNow_20 (by decide) rfl ?_
      obtain ⟨r50, h49, h⟩ := rs_b1e h
      refine rs_callVi (r0 := r50) (S0 := S) C (rs_kd_lt kk_91 (by decide)) (rs_e5 kk_91) rfl (c_X5_endsIn l G hG S 97 100 121 _ h49) ⟨wl_X5_89, wi_yX5_endsIn, wx_yX5_endsIn, wn_X5, wc_yX5_endsIn⟩ wy_yX5_endsIn (by decide) ⟨rfl, rfl⟩ rfl rfl (Nat.le_of_ble_eq_true rfl) dX5_lineNow_22 rfl ?_
      refine rs_if_eq (tgt := 30) C dX5_lineNow_25 (by decide) rfl (fun z51 => ?_) (fun z51 => ?_)
      · replace h := rs_it z51 h
        exact rs_subk (KJ3 h) (rs_ac rfl rs_a0)
      · replace h := rs_if z51 h
        refine rs_iconst (v := 0) C dX5_lineNow_28 (by decide) rfl ?_
        exact rs_iret C hr hlk (rs_pr h) dX5_lineNow_29
def xf_X5_reads_l140 (K140 : rs_St → Option rs_St) : Nat → rs_St → Option rs_St
  | 0, _ => none
  | n140 + 1, S27 => rs_b1 (xf_X5_byteAt S27 (rs_gi S27 91 7)) (fun r29 => rs_b1 (xf_X5_in S27 (r29.toInt64) 48 57) (fun r31 => if r31 = 0 then K140 S27 else rs_jn (fun (x33 : Int32) => rs_lt (rs_si S27 91 10 x33) (fun S35 => rs_lt (rs_si S35 91 7 ((rs_gi S35 91 7) + 1)) (fun S36 => xf_X5_reads_l140 K140 n140 S36))) (fun J34 => if 2 ≤ ((rs_gi S27 91 7) - (rs_gi S27 91 8)) then J34 (rs_gi S27 91 10) else rs_b1 (xf_X5_byteAt S27 (rs_gi S27 91 7)) (fun r39 => J34 (((10 * (rs_gi S27 91 10)) + r39) - 48)))))
def xf_X5_reads_l82 (K82 : rs_St → Option rs_St) : Nat → rs_St → Option rs_St
  | 0, _ => none
  | n82 + 1, S47 => rs_b1 (xf_X5_byteAt S47 (rs_gi S47 91 7)) (fun r49 => rs_b1 (xf_X5_in S47 (r49.toInt64) 97 122) (fun r51 => if r51 = 0 then K82 S47 else rs_lt (rs_si S47 91 7 ((rs_gi S47 91 7) + 1)) (fun S53 => xf_X5_reads_l82 K82 n82 S53)))
def xf_X5_reads_l8 (K8 : rs_St → Option rs_St) : Nat → rs_St → Option rs_St
  | 0, _ => none
  | n8 + 1, S2 => rs_b1 (xf_X5_byteAt S2 (rs_gi S2 91 7)) (fun r4 => if r4 = 32 then rs_lt (rs_si S2 91 7 ((rs_gi S2 91 7) + 1)) (fun S6 => xf_X5_reads_l8 K8 n8 S6) else K8 S2)
def xf_X5_reads (S : rs_St) : Option rs_St := if (rs_gi S 91 11) ≤ 0 then xf_X5_reads_l8 (fun (S7 : rs_St) => rs_lt (rs_si S7 91 8 (rs_gi S7 91 7)) (fun S8 => rs_b1 (xf_X5_byteAt S8 (rs_gi S8 91 7)) (fun r10 => if 0 ≤ r10 then rs_b1 (xf_X5_in S8 (r10.toInt64) 97 122) (fun r13 => if r13 = 0 then rs_b1 (xf_X5_in S8 (r10.toInt64) 48 57) (fun r16 => if r16 = 0 then rs_lt (rs_si S8 91 9 3) (fun S18 => rs_jn (fun (x19 : Int32) => rs_b1 (xf_X5_requires S18 x19 1) (fun S22 => rs_lt (rs_si S22 91 7 ((rs_gi S22 91 7) + 1)) (fun S23 => some S23))) (fun J20 => if r10 = 59 then J20 1 else J20 0)) else rs_lt (rs_si S8 91 9 2) (fun S25 => rs_lt (rs_si S25 91 10 0) (fun S26 => xf_X5_reads_l140 (fun (S40 : rs_St) => rs_jn (fun (x41 : Int32) => rs_b1 (xf_X5_requires S40 x41 1) (fun S44 => some S44)) (fun J42 => if 2 < ((rs_gi S40 91 7) - (rs_gi S40 91 8)) then J42 0 else J42 1)) rs_fu S26))) else rs_lt (rs_si S8 91 9 1) (fun S46 => xf_X5_reads_l82 (fun (S54 : rs_St) => some S54) rs_fu S46)) else rs_lt (rs_si S8 91 9 0) (fun S55 => some S55)))) rs_fu S else some S
set_option maxRecDepth 100000 in
theorem c_X5_reads (l : Launch) (G : rs_G) (hG : rs_ok G) (S : rs_St)  (o : rs_St) (h : xf_X5_reads S = some o) : Met l yX5_reads (rs_wz yX5_reads cX5_reads 2 none) (rs_rm 3) (va_Pc [.ref (rs_ad G 91)] (rs_pre G S)) (va_Qv (fun S2 => S2 = o) (rs_post G) (rs_A G)) 0 0 (rs_A G) := by
  refine rs_met hG (by decide) (Nat.le_of_ble_eq_true rfl) ?_
  intro p e s m args below meth c C hr hlk
  rw [xf_X5_reads] at h
  refine rs_aload_n (i := 0) C dX5_reads_0 rfl rfl rfl ?_
  refine rg_X5_11 C kk_91 wl_X5_69 dX5_reads_1 rfl ?_
  refine rs_if_le (tgt := 8) C dX5_reads_4 (by decide) rfl (fun z1 => ?_) (fun z1 => ?_)
  · replace h := rs_it z1 h
    refine rs_kw (F := fun K => xf_X5_reads_l8 K rs_fu S) (P := fun K => ∀ (S7 : rs_St), K S7 = some o → rs_Xv G 2 p l e (rs_rm 3) s m args below meth c o S7 34 [(0, .ref (rs_ad G 91))] []) h (fun S7 h => ?_) (fun K8 hK8 h => ?_)
    · refine rs_aload_n (i := 0) C dX5_reads_34 rfl rfl rfl ?_
      refine rs_aload_n (i := 0) C dX5_reads_35 rfl rfl rfl ?_
      refine rg_X5_7 C kk_91 wl_X5_78 dX5_reads_36 rfl ?_
      refine rp_X5_8 C kk_91 wl_X5_72 dX5_reads_39 rfl h (fun S8 h => ?_)
      refine rs_aload_n (i := 0) C dX5_reads_42 rfl rfl rfl ?_
      refine rs_aload_n (i := 0) C dX5_reads_43 rfl rfl rfl ?_
      refine rg_X5_7 C kk_91 wl_X5_78 dX5_reads_44 rfl ?_
      obtain ⟨r10, h9, h⟩ := rs_b1e h
      refine rs_callVi (r0 := r10) (S0 := S8) C (rs_kd_lt kk_91 (by decide)) (rs_e5 kk_91) rfl (c_X5_byteAt l G hG S8 (rs_gi S8 91 7) _ h9) ⟨wl_X5_81, wi_yX5_byteAt, wx_yX5_byteAt, wn_X5, wc_yX5_byteAt⟩ wy_yX5_byteAt (by decide) ⟨rfl, rfl⟩ rfl rfl (Nat.le_of_ble_eq_true rfl) dX5_reads_47 rfl ?_
      refine rs_istore_n (i := 1) C dX5_reads_50 rfl (by decide) rfl ?_
      refine rs_iload_n (i := 1) C dX5_reads_51 rfl rfl rfl ?_
      refine rs_if_ge (tgt := 63) C dX5_reads_52 (by decide) rfl (fun z11 => ?_) (fun z11 => ?_)
      · replace h := rs_it z11 h
        refine rs_iload_n (i := 1) C dX5_reads_63 rfl rfl rfl ?_
        refine rs_i2l C dX5_reads_64 rfl ?_
        refine rs_ldc2 C dX5_reads_65 wk_X5_96 rfl ?_
        refine rs_ldc2 C dX5_reads_68 wk_X5_98 rfl ?_
        obtain ⟨r13, h12, h⟩ := rs_b1e h
        refine rs_callSi (r0 := r13) (S0 := S8) C (c_X5_in l G hG S8 (r10.toInt64) 97 122 _ h12) ⟨wl_X5_61, ws_yX5_in, wn_X5, wc_yX5_in⟩ wy_yX5_in (by decide) ⟨rfl, rfl⟩ rfl rfl (Nat.le_of_ble_eq_true rfl) dX5_reads_71 rfl ?_
        refine rs_if_eq (tgt := 116) C dX5_reads_74 (by decide) rfl (fun z14 => ?_) (fun z14 => ?_)
        · replace h := rs_it z14 h
          refine rs_iload_n (i := 1) C dX5_reads_116 rfl rfl rfl ?_
          refine rs_i2l C dX5_reads_117 rfl ?_
          refine rs_ldc2 C dX5_reads_118 wk_X5_100 rfl ?_
          refine rs_ldc2 C dX5_reads_121 wk_X5_102 rfl ?_
          obtain ⟨r16, h15, h⟩ := rs_b1e h
          refine rs_callSi (r0 := r16) (S0 := S8) C (c_X5_in l G hG S8 (r10.toInt64) 48 57 _ h15) ⟨wl_X5_61, ws_yX5_in, wn_X5, wc_yX5_in⟩ wy_yX5_in (by decide) ⟨rfl, rfl⟩ rfl rfl (Nat.le_of_ble_eq_true rfl) dX5_reads_124 rfl ?_
          refine rs_if_eq (tgt := 243) C dX5_reads_127 (by decide) rfl (fun z17 => ?_) (fun z17 => ?_)
          · replace h := rs_it z17 h
            refine rs_aload_n (i := 0) C dX5_reads_243 rfl rfl rfl ?_
            refine rs_iconst (v := 3) C dX5_reads_244 (by decide) rfl ?_
            refine rp_X5_9 C kk_91 wl_X5_93 dX5_reads_245 rfl h (fun S18 h => ?_)
            refine rs_aload_n (i := 0) C dX5_reads_248 rfl rfl rfl ?_
            refine rs_iload_n (i := 1) C dX5_reads_249 rfl rfl rfl ?_
            refine rs_bipush (v := 59) C dX5_reads_250 (by decide) rfl ?_
            refine rs_jw (P := fun J => ∀ (x19 : Int32), J x19 = some o → rs_Xv G 2 p l e (rs_rm 3) s m args below meth c o S18 260 [(0, .ref (rs_ad G 91)), (1, .int r10)] [.int x19, .ref (rs_ad G 91)]) h (fun x19 h => ?_) (fun J20 KJ20 h => ?_)
            · refine rs_iconst (v := 1) C dX5_reads_260 (by decide) rfl ?_
              obtain ⟨S22, h21, h⟩ := rs_b1e h
              refine rs_callVv (S0 := S22) C (rs_kd_lt kk_91 (by decide)) (rs_e5 kk_91) rfl (c_X5_requires l G hG S18 x19 1 _ h21) ⟨wl_X5_107, wi_yX5_requires, wx_yX5_requires, wn_X5, wc_yX5_requires⟩ wy_yX5_requires (by decide) ⟨rfl, rfl⟩ rfl rfl (Nat.le_of_ble_eq_true rfl) dX5_reads_261 rfl ?_
              refine rs_aload_n (i := 0) C dX5_reads_264 rfl rfl rfl ?_
              refine rs_dup C dX5_reads_265 rfl rfl ?_
              refine rg_X5_7 C kk_91 wl_X5_78 dX5_reads_266 rfl ?_
              refine rs_iconst (v := 1) C dX5_reads_269 (by decide) rfl ?_
              refine rs_iadd C dX5_reads_270 rfl ?_
              refine rp_X5_7 C kk_91 wl_X5_78 dX5_reads_271 rfl h (fun S23 h => ?_)
              exact rs_vret C hr hlk h dX5_reads_274
            · refine rs_icmp_ne (tgt := 259) C dX5_reads_252 (by decide) rfl (fun z24 => ?_) (fun z24 => ?_)
              · replace h := rs_if z24 h
                refine rs_iconst (v := 0) C dX5_reads_259 (by decide) rfl ?_
                exact rs_subk (KJ20 _ h) (rs_ac rfl (rs_ac rfl rs_a0))
              · replace h := rs_it z24 h
                refine rs_iconst (v := 1) C dX5_reads_255 (by decide) rfl ?_
                refine rs_goto (tgt := 260) C dX5_reads_256 (by decide) ?_
                exact rs_subk (KJ20 _ h) (rs_ac rfl (rs_ac rfl rs_a0))
          · replace h := rs_if z17 h
            refine rs_aload_n (i := 0) C dX5_reads_130 rfl rfl rfl ?_
            refine rs_iconst (v := 2) C dX5_reads_131 (by decide) rfl ?_
            refine rp_X5_9 C kk_91 wl_X5_93 dX5_reads_132 rfl h (fun S25 h => ?_)
            refine rs_aload_n (i := 0) C dX5_reads_135 rfl rfl rfl ?_
            refine rs_iconst (v := 0) C dX5_reads_136 (by decide) rfl ?_
            refine rp_X5_10 C kk_91 wl_X5_104 dX5_reads_137 rfl h (fun S26 h => ?_)
            refine rs_kw (F := fun K => xf_X5_reads_l140 K rs_fu S26) (P := fun K => ∀ (S40 : rs_St), K S40 = some o → rs_Xv G 2 p l e (rs_rm 3) s m args below meth c o S40 217 [(0, .ref (rs_ad G 91)), (1, .int r10)] []) h (fun S40 h => ?_) (fun K140 hK140 h => ?_)
            · refine rs_aload_n (i := 0) C dX5_reads_217 rfl rfl rfl ?_
              refine rs_aload_n (i := 0) C dX5_reads_218 rfl rfl rfl ?_
              refine rg_X5_7 C kk_91 wl_X5_78 dX5_reads_219 rfl ?_
              refine rs_aload_n (i := 0) C dX5_reads_222 rfl rfl rfl ?_
              refine rg_X5_8 C kk_91 wl_X5_72 dX5_reads_223 rfl ?_
              refine rs_isub C dX5_reads_226 rfl ?_
              refine rs_iconst (v := 2) C dX5_reads_227 (by decide) rfl ?_
              refine rs_jw (P := fun J => ∀ (x41 : Int32), J x41 = some o → rs_Xv G 2 p l e (rs_rm 3) s m args below meth c o S40 236 [(0, .ref (rs_ad G 91)), (1, .int r10)] [.int x41, .ref (rs_ad G 91)]) h (fun x41 h => ?_) (fun J42 KJ42 h => ?_)
              · refine rs_iconst (v := 1) C dX5_reads_236 (by decide) rfl ?_
                obtain ⟨S44, h43, h⟩ := rs_b1e h
                refine rs_callVv (S0 := S44) C (rs_kd_lt kk_91 (by decide)) (rs_e5 kk_91) rfl (c_X5_requires l G hG S40 x41 1 _ h43) ⟨wl_X5_107, wi_yX5_requires, wx_yX5_requires, wn_X5, wc_yX5_requires⟩ wy_yX5_requires (by decide) ⟨rfl, rfl⟩ rfl rfl (Nat.le_of_ble_eq_true rfl) dX5_reads_237 rfl ?_
                refine rs_goto (tgt := 274) C dX5_reads_240 (by decide) ?_
                exact rs_vret C hr hlk h dX5_reads_274
              · refine rs_icmp_gt (tgt := 235) C dX5_reads_228 (by decide) rfl (fun z45 => ?_) (fun z45 => ?_)
                · replace h := rs_it z45 h
                  refine rs_iconst (v := 0) C dX5_reads_235 (by decide) rfl ?_
                  exact rs_subk (KJ42 _ h) (rs_ac rfl (rs_ac rfl rs_a0))
                · replace h := rs_if z45 h
                  refine rs_iconst (v := 1) C dX5_reads_231 (by decide) rfl ?_
                  refine rs_goto (tgt := 236) C dX5_reads_232 (by decide) ?_
                  exact rs_subk (KJ42 _ h) (rs_ac rfl (rs_ac rfl rs_a0))
            · have L140 : ∀ (n140 : Nat) (S27 : rs_St), xf_X5_reads_l140 K140 n140 S27 = some o → rs_Xv G 2 p l e (rs_rm 3) s m args below meth c o S27 140 [(0, .ref (rs_ad G 91)), (1, .int r10)] [] := by
                intro n140
                induction n140 with
                | zero => intro S27 h; exact (rs_no h).elim
                | succ n140 ih140 =>
                  intro S27 h
                  rw [xf_X5_reads_l140] at h
                  refine rs_aload_n (i := 0) C dX5_reads_140 rfl rfl rfl ?_
                  refine rs_aload_n (i := 0) C dX5_reads_141 rfl rfl rfl ?_
                  refine rg_X5_7 C kk_91 wl_X5_78 dX5_reads_142 rfl ?_
                  obtain ⟨r29, h28, h⟩ := rs_b1e h
                  refine rs_callVi (r0 := r29) (S0 := S27) C (rs_kd_lt kk_91 (by decide)) (rs_e5 kk_91) rfl (c_X5_byteAt l G hG S27 (rs_gi S27 91 7) _ h28) ⟨wl_X5_81, wi_yX5_byteAt, wx_yX5_byteAt, wn_X5, wc_yX5_byteAt⟩ wy_yX5_byteAt (by decide) ⟨rfl, rfl⟩ rfl rfl (Nat.le_of_ble_eq_true rfl) dX5_reads_145 rfl ?_
                  refine rs_i2l C dX5_reads_148 rfl ?_
                  refine rs_ldc2 C dX5_reads_149 wk_X5_100 rfl ?_
                  refine rs_ldc2 C dX5_reads_152 wk_X5_102 rfl ?_
                  obtain ⟨r31, h30, h⟩ := rs_b1e h
                  refine rs_callSi (r0 := r31) (S0 := S27) C (c_X5_in l G hG S27 (r29.toInt64) 48 57 _ h30) ⟨wl_X5_61, ws_yX5_in, wn_X5, wc_yX5_in⟩ wy_yX5_in (by decide) ⟨rfl, rfl⟩ rfl rfl (Nat.le_of_ble_eq_true rfl) dX5_reads_155 rfl ?_
                  refine rs_if_eq (tgt := 217) C dX5_reads_158 (by decide) rfl (fun z32 => ?_) (fun z32 => ?_)
                  · replace h := rs_it z32 h
                    exact rs_subk (hK140 _ h) (rs_ac rfl (rs_ac rfl rs_a0))
                  · replace h := rs_if z32 h
                    refine rs_aload_n (i := 0) C dX5_reads_161 rfl rfl rfl ?_
                    refine rs_aload_n (i := 0) C dX5_reads_162 rfl rfl rfl ?_
                    refine rg_X5_7 C kk_91 wl_X5_78 dX5_reads_163 rfl ?_
                    refine rs_aload_n (i := 0) C dX5_reads_166 rfl rfl rfl ?_
                    refine rg_X5_8 C kk_91 wl_X5_72 dX5_reads_167 rfl ?_
                    refine rs_isub C dX5_reads_170 rfl ?_
                    refine rs_iconst (v := 2) C dX5_reads_171 (by decide) rfl ?_
                    refine rs_jw (P := fun J => ∀ (x33 : Int32), J x33 = some o → rs_Xv G 2 p l e (rs_rm 3) s m args below meth c o S27 201 [(0, .ref (rs_ad G 91)), (1, .int r10)] [.int x33, .ref (rs_ad G 91)]) h (fun x33 h => ?_) (fun J34 KJ34 h => ?_)
                    · refine rp_X5_10 C kk_91 wl_X5_104 dX5_reads_201 rfl h (fun S35 h => ?_)
                      refine rs_aload_n (i := 0) C dX5_reads_204 rfl rfl rfl ?_
                      refine rs_dup C dX5_reads_205 rfl rfl ?_
                      refine rg_X5_7 C kk_91 wl_X5_78 dX5_reads_206 rfl ?_
                      refine rs_iconst (v := 1) C dX5_reads_209 (by decide) rfl ?_
                      refine rs_iadd C dX5_reads_210 rfl ?_
                      refine rp_X5_7 C kk_91 wl_X5_78 dX5_reads_211 rfl h (fun S36 h => ?_)
                      refine rs_goto (tgt := 140) C dX5_reads_214 (by decide) ?_
                      exact rs_subk (ih140 _ h) (rs_ac rfl (rs_ac rfl rs_a0))
                    · refine rs_icmp_ge (tgt := 197) C dX5_reads_172 (by decide) rfl (fun z37 => ?_) (fun z37 => ?_)
                      · replace h := rs_it z37 h
                        refine rs_aload_n (i := 0) C dX5_reads_197 rfl rfl rfl ?_
                        refine rg_X5_10 C kk_91 wl_X5_104 dX5_reads_198 rfl ?_
                        exact rs_subk (KJ34 _ h) (rs_ac rfl (rs_ac rfl rs_a0))
                      · replace h := rs_if z37 h
                        refine rs_bipush (v := 10) C dX5_reads_175 (by decide) rfl ?_
                        refine rs_aload_n (i := 0) C dX5_reads_177 rfl rfl rfl ?_
                        refine rg_X5_10 C kk_91 wl_X5_104 dX5_reads_178 rfl ?_
                        refine rs_imul C dX5_reads_181 rfl ?_
                        refine rs_aload_n (i := 0) C dX5_reads_182 rfl rfl rfl ?_
                        refine rs_aload_n (i := 0) C dX5_reads_183 rfl rfl rfl ?_
                        refine rg_X5_7 C kk_91 wl_X5_78 dX5_reads_184 rfl ?_
                        obtain ⟨r39, h38, h⟩ := rs_b1e h
                        refine rs_callVi (r0 := r39) (S0 := S27) C (rs_kd_lt kk_91 (by decide)) (rs_e5 kk_91) rfl (c_X5_byteAt l G hG S27 (rs_gi S27 91 7) _ h38) ⟨wl_X5_81, wi_yX5_byteAt, wx_yX5_byteAt, wn_X5, wc_yX5_byteAt⟩ wy_yX5_byteAt (by decide) ⟨rfl, rfl⟩ rfl rfl (Nat.le_of_ble_eq_true rfl) dX5_reads_187 rfl ?_
                        refine rs_iadd C dX5_reads_190 rfl ?_
                        refine rs_bipush (v := 48) C dX5_reads_191 (by decide) rfl ?_
                        refine rs_isub C dX5_reads_193 rfl ?_
                        refine rs_goto (tgt := 201) C dX5_reads_194 (by decide) ?_
                        exact rs_subk (KJ34 _ h) (rs_ac rfl (rs_ac rfl rs_a0))
              exact rs_subk (L140 rs_fu _ h) (rs_ac rfl (rs_ac rfl rs_a0))
        · replace h := rs_if z14 h
          refine rs_aload_n (i := 0) C dX5_reads_77 rfl rfl rfl ?_
          refine rs_iconst (v := 1) C dX5_reads_78 (by decide) rfl ?_
          refine rp_X5_9 C kk_91 wl_X5_93 dX5_reads_79 rfl h (fun S46 h => ?_)
          refine rs_kw (F := fun K => xf_X5_reads_l82 K rs_fu S46) (P := fun K => ∀ (S54 : rs_St), K S54 = some o → rs_Xv G 2 p l e (rs_rm 3) s m args below meth c o S54 274 [(0, .ref (rs_ad G 91)), (1, .int r10)] []) h (fun S54 h => ?_) (fun K82 hK82 h => ?_)
          · exact rs_vret C hr hlk h dX5_reads_274
          · have L82 : ∀ (n82 : Nat) (S47 : rs_St), xf_X5_reads_l82 K82 n82 S47 = some o → rs_Xv G 2 p l e (rs_rm 3) s m args below meth c o S47 82 [(0, .ref (rs_ad G 91)), (1, .int r10)] [] := by
              intro n82
              induction n82 with
              | zero => intro S47 h; exact (rs_no h).elim
              | succ n82 ih82 =>
                intro S47 h
                rw [xf_X5_reads_l82] at h
                refine rs_aload_n (i := 0) C dX5_reads_82 rfl rfl rfl ?_
                refine rs_aload_n (i := 0) C dX5_reads_83 rfl rfl rfl ?_
                refine rg_X5_7 C kk_91 wl_X5_78 dX5_reads_84 rfl ?_
                obtain ⟨r49, h48, h⟩ := rs_b1e h
                refine rs_callVi (r0 := r49) (S0 := S47) C (rs_kd_lt kk_91 (by decide)) (rs_e5 kk_91) rfl (c_X5_byteAt l G hG S47 (rs_gi S47 91 7) _ h48) ⟨wl_X5_81, wi_yX5_byteAt, wx_yX5_byteAt, wn_X5, wc_yX5_byteAt⟩ wy_yX5_byteAt (by decide) ⟨rfl, rfl⟩ rfl rfl (Nat.le_of_ble_eq_true rfl) dX5_reads_87 rfl ?_
                refine rs_i2l C dX5_reads_90 rfl ?_
                refine rs_ldc2 C dX5_reads_91 wk_X5_96 rfl ?_
                refine rs_ldc2 C dX5_reads_94 wk_X5_98 rfl ?_
                obtain ⟨r51, h50, h⟩ := rs_b1e h
                refine rs_callSi (r0 := r51) (S0 := S47) C (c_X5_in l G hG S47 (r49.toInt64) 97 122 _ h50) ⟨wl_X5_61, ws_yX5_in, wn_X5, wc_yX5_in⟩ wy_yX5_in (by decide) ⟨rfl, rfl⟩ rfl rfl (Nat.le_of_ble_eq_true rfl) dX5_reads_97 rfl ?_
                refine rs_if_eq (tgt := 274) C dX5_reads_100 (by decide) rfl (fun z52 => ?_) (fun z52 => ?_)
                · replace h := rs_it z52 h
                  exact rs_subk (hK82 _ h) (rs_ac rfl (rs_ac rfl rs_a0))
                · replace h := rs_if z52 h
                  refine rs_aload_n (i := 0) C dX5_reads_103 rfl rfl rfl ?_
                  refine rs_dup C dX5_reads_104 rfl rfl ?_
                  refine rg_X5_7 C kk_91 wl_X5_78 dX5_reads_105 rfl ?_
                  refine rs_iconst (v := 1) C dX5_reads_108 (by decide) rfl ?_
                  refine rs_iadd C dX5_reads_109 rfl ?_
                  refine rp_X5_7 C kk_91 wl_X5_78 dX5_reads_110 rfl h (fun S53 h => ?_)
                  refine rs_goto (tgt := 82) C dX5_reads_113 (by decide) ?_
                  exact rs_subk (ih82 _ h) (rs_ac rfl (rs_ac rfl rs_a0))
            exact rs_subk (L82 rs_fu _ h) (rs_ac rfl (rs_ac rfl rs_a0))
      · replace h := rs_if z11 h
        refine rs_aload_n (i := 0) C dX5_reads_55 rfl rfl rfl ?_
        refine rs_iconst (v := 0) C dX5_reads_56 (by decide) rfl ?_
        refine rp_X5_9 C kk_91 wl_X5_93 dX5_reads_57 rfl h (fun S55 h => ?_)
        refine rs_goto (tgt := 274) C dX5_reads_60 (by decide) ?_
        exact rs_vret C hr hlk h dX5_reads_274
    · have L8 : ∀ (n8 : Nat) (S2 : rs_St), xf_X5_reads_l8 K8 n8 S2 = some o → rs_Xv G 2 p l e (rs_rm 3) s m args below meth c o S2 8 [(0, .ref (rs_ad G 91))] [] := by
        intro n8
        induction n8 with
        | zero => intro S2 h; exact (rs_no h).elim
        | succ n8 ih8 =>
          intro S2 h
          rw [xf_X5_reads_l8] at h
          refine rs_aload_n (i := 0) C dX5_reads_8 rfl rfl rfl ?_
          refine rs_aload_n (i := 0) C dX5_reads_9 rfl rfl rfl ?_
          refine rg_X5_7 C kk_91 wl_X5_78 dX5_reads_10 rfl ?_
          obtain ⟨r4, h3, h⟩ := rs_b1e h
          refine rs_callVi (r0 := r4) (S0 := S2) C (rs_kd_lt kk_91 (by decide)) (rs_e5 kk_91) rfl (c_X5_byteAt l G hG S2 (rs_gi S2 91 7) _ h3) ⟨wl_X5_81, wi_yX5_byteAt, wx_yX5_byteAt, wn_X5, wc_yX5_byteAt⟩ wy_yX5_byteAt (by decide) ⟨rfl, rfl⟩ rfl rfl (Nat.le_of_ble_eq_true rfl) dX5_reads_13 rfl ?_
          refine rs_bipush (v := 32) C dX5_reads_16 (by decide) rfl ?_
          refine rs_icmp_ne (tgt := 34) C dX5_reads_18 (by decide) rfl (fun z5 => ?_) (fun z5 => ?_)
          · replace h := rs_if z5 h
            exact rs_subk (hK8 _ h) (rs_ac rfl rs_a0)
          · replace h := rs_it z5 h
            refine rs_aload_n (i := 0) C dX5_reads_21 rfl rfl rfl ?_
            refine rs_dup C dX5_reads_22 rfl rfl ?_
            refine rg_X5_7 C kk_91 wl_X5_78 dX5_reads_23 rfl ?_
            refine rs_iconst (v := 1) C dX5_reads_26 (by decide) rfl ?_
            refine rs_iadd C dX5_reads_27 rfl ?_
            refine rp_X5_7 C kk_91 wl_X5_78 dX5_reads_28 rfl h (fun S6 h => ?_)
            refine rs_goto (tgt := 8) C dX5_reads_31 (by decide) ?_
            exact rs_subk (ih8 _ h) (rs_ac rfl rs_a0)
      exact rs_subk (L8 rs_fu _ h) (rs_ac rfl rs_a0)
  · replace h := rs_if z1 h
    exact rs_vret C hr hlk h dX5_reads_7
def xf_X5_readNumber (S : rs_St) (a1 : Int32) (a2 : Int32) : Option (Int32 × rs_St) := rs_jn (fun (S1 : rs_St) => rs_jn (fun (S3 : rs_St) => rs_jn (fun (x5 : Int32) => rs_b1 (xf_X5_reads S3) (fun S8 => some (x5, S8))) (fun J6 => if (rs_gi S3 91 11) = 0 then J6 (rs_gi S3 91 10) else J6 0)) (fun J4 => if (rs_gi S1 91 11) = 0 then rs_b1 (xf_X5_in S1 ((rs_gi S1 91 10).toInt64) (a1.toInt64) (a2.toInt64)) (fun r12 => rs_b1 (xf_X5_requires S1 r12 3) (fun S14 => J4 S14)) else J4 S1)) (fun J2 => if (rs_gi S 91 11) = 0 then rs_jn (fun (x16 : Int32) => rs_b1 (xf_X5_requires S x16 2) (fun S19 => J2 S19)) (fun J17 => if (rs_gi S 91 9) = 2 then J17 1 else J17 0) else J2 S)
set_option maxRecDepth 100000 in
theorem c_X5_readNumber (l : Launch) (G : rs_G) (hG : rs_ok G) (S : rs_St) (a1 : Int32) (a2 : Int32)  (o : (Int32 × rs_St)) (h : xf_X5_readNumber S a1 a2 = some o) : Met l yX5_readNumber (rs_wz yX5_readNumber cX5_readNumber 4 (some FieldType.int)) (rs_rm 4) (va_Pc [.ref (rs_ad G 91), .int a1, .int a2] (rs_pre G S)) (va_Qi (fun r S2 => (r, S2) = o) (rs_post G) (rs_A G)) 0 0 (rs_A G) := by
  refine rs_met hG (by decide) (Nat.le_of_ble_eq_true rfl) ?_
  intro p e s m args below meth c C hr hlk
  rw [xf_X5_readNumber] at h
  refine rs_aload_n (i := 0) C dX5_readNumber_0 rfl rfl rfl ?_
  refine rg_X5_11 C kk_91 wl_X5_69 dX5_readNumber_1 rfl ?_
  refine rs_jw (P := fun J => ∀ (S1 : rs_St), J S1 = some o → rs_Xi G 4 p l e (rs_rm 4) s m args below meth c o S1 25 [(0, .ref (rs_ad G 91)), (1, .int a1), (2, .int a2)] []) h (fun S1 h => ?_) (fun J2 KJ2 h => ?_)
  · refine rs_aload_n (i := 0) C dX5_readNumber_25 rfl rfl rfl ?_
    refine rg_X5_11 C kk_91 wl_X5_69 dX5_readNumber_26 rfl ?_
    refine rs_jw (P := fun J => ∀ (S3 : rs_St), J S3 = some o → rs_Xi G 4 p l e (rs_rm 4) s m args below meth c o S3 49 [(0, .ref (rs_ad G 91)), (1, .int a1), (2, .int a2)] []) h (fun S3 h => ?_) (fun J4 KJ4 h => ?_)
    · refine rs_aload_n (i := 0) C dX5_readNumber_49 rfl rfl rfl ?_
      refine rg_X5_11 C kk_91 wl_X5_69 dX5_readNumber_50 rfl ?_
      refine rs_jw (P := fun J => ∀ (x5 : Int32), J x5 = some o → rs_Xi G 4 p l e (rs_rm 4) s m args below meth c o S3 64 [(0, .ref (rs_ad G 91)), (1, .int a1), (2, .int a2)] [.int x5]) h (fun x5 h => ?_) (fun J6 KJ6 h => ?_)
      · refine rs_istore_n (i := 3) C dX5_readNumber_64 rfl (by decide) rfl ?_
        refine rs_aload_n (i := 0) C dX5_readNumber_65 rfl rfl rfl ?_
        obtain ⟨S8, h7, h⟩ := rs_b1e h
        refine rs_callVv (S0 := S8) C (rs_kd_lt kk_91 (by decide)) (rs_e5 kk_91) rfl (c_X5_reads l G hG S3 _ h7) ⟨wl_X5_111, wi_yX5_reads, wx_yX5_reads, wn_X5, wc_yX5_reads⟩ wy_yX5_reads (by decide) ⟨rfl, rfl⟩ rfl rfl (Nat.le_of_ble_eq_true rfl) dX5_readNumber_66 rfl ?_
        refine rs_iload_n (i := 3) C dX5_readNumber_69 rfl rfl rfl ?_
        exact rs_iret C hr hlk h dX5_readNumber_70
      · refine rs_if_ne (tgt := 63) C dX5_readNumber_53 (by decide) rfl (fun z9 => ?_) (fun z9 => ?_)
        · replace h := rs_if z9 h
          refine rs_iconst (v := 0) C dX5_readNumber_63 (by decide) rfl ?_
          exact rs_subk (KJ6 _ h) (rs_ac rfl (rs_ac rfl (rs_ac rfl rs_a0)))
        · replace h := rs_it z9 h
          refine rs_aload_n (i := 0) C dX5_readNumber_56 rfl rfl rfl ?_
          refine rg_X5_10 C kk_91 wl_X5_104 dX5_readNumber_57 rfl ?_
          refine rs_goto (tgt := 64) C dX5_readNumber_60 (by decide) ?_
          exact rs_subk (KJ6 _ h) (rs_ac rfl (rs_ac rfl (rs_ac rfl rs_a0)))
    · refine rs_if_ne (tgt := 49) C dX5_readNumber_29 (by decide) rfl (fun z10 => ?_) (fun z10 => ?_)
      · replace h := rs_if z10 h
        exact rs_subk (KJ4 _ h) (rs_ac rfl (rs_ac rfl (rs_ac rfl rs_a0)))
      · replace h := rs_it z10 h
        refine rs_aload_n (i := 0) C dX5_readNumber_32 rfl rfl rfl ?_
        refine rs_aload_n (i := 0) C dX5_readNumber_33 rfl rfl rfl ?_
        refine rg_X5_10 C kk_91 wl_X5_104 dX5_readNumber_34 rfl ?_
        refine rs_i2l C dX5_readNumber_37 rfl ?_
        refine rs_iload_n (i := 1) C dX5_readNumber_38 rfl rfl rfl ?_
        refine rs_i2l C dX5_readNumber_39 rfl ?_
        refine rs_iload_n (i := 2) C dX5_readNumber_40 rfl rfl rfl ?_
        refine rs_i2l C dX5_readNumber_41 rfl ?_
        obtain ⟨r12, h11, h⟩ := rs_b1e h
        refine rs_callSi (r0 := r12) (S0 := S1) C (c_X5_in l G hG S1 ((rs_gi S1 91 10).toInt64) (a1.toInt64) (a2.toInt64) _ h11) ⟨wl_X5_61, ws_yX5_in, wn_X5, wc_yX5_in⟩ wy_yX5_in (by decide) ⟨rfl, rfl⟩ rfl rfl (Nat.le_of_ble_eq_true rfl) dX5_readNumber_42 rfl ?_
        refine rs_iconst (v := 3) C dX5_readNumber_45 (by decide) rfl ?_
        obtain ⟨S14, h13, h⟩ := rs_b1e h
        refine rs_callVv (S0 := S14) C (rs_kd_lt kk_91 (by decide)) (rs_e5 kk_91) rfl (c_X5_requires l G hG S1 r12 3 _ h13) ⟨wl_X5_107, wi_yX5_requires, wx_yX5_requires, wn_X5, wc_yX5_requires⟩ wy_yX5_requires (by decide) ⟨rfl, rfl⟩ rfl rfl (Nat.le_of_ble_eq_true rfl) dX5_readNumber_46 rfl ?_
        exact rs_subk (KJ4 _ h) (rs_ac rfl (rs_ac rfl (rs_ac rfl rs_a0)))
  · refine rs_if_ne (tgt := 25) C dX5_readNumber_4 (by decide) rfl (fun z15 => ?_) (fun z15 => ?_)
    · replace h := rs_if z15 h
      exact rs_subk (KJ2 _ h) (rs_ac rfl (rs_ac rfl (rs_ac rfl rs_a0)))
    · replace h := rs_it z15 h
      refine rs_aload_n (i := 0) C dX5_readNumber_7 rfl rfl rfl ?_
      refine rs_aload_n (i := 0) C dX5_readNumber_8 rfl rfl rfl ?_
      refine rg_X5_9 C kk_91 wl_X5_93 dX5_readNumber_9 rfl ?_
      refine rs_iconst (v := 2) C dX5_readNumber_12 (by decide) rfl ?_
      refine rs_jw (P := fun J => ∀ (x16 : Int32), J x16 = some o → rs_Xi G 4 p l e (rs_rm 4) s m args below meth c o S 21 [(0, .ref (rs_ad G 91)), (1, .int a1), (2, .int a2)] [.int x16, .ref (rs_ad G 91)]) h (fun x16 h => ?_) (fun J17 KJ17 h => ?_)
      · refine rs_iconst (v := 2) C dX5_readNumber_21 (by decide) rfl ?_
        obtain ⟨S19, h18, h⟩ := rs_b1e h
        refine rs_callVv (S0 := S19) C (rs_kd_lt kk_91 (by decide)) (rs_e5 kk_91) rfl (c_X5_requires l G hG S x16 2 _ h18) ⟨wl_X5_107, wi_yX5_requires, wx_yX5_requires, wn_X5, wc_yX5_requires⟩ wy_yX5_requires (by decide) ⟨rfl, rfl⟩ rfl rfl (Nat.le_of_ble_eq_true rfl) dX5_readNumber_22 rfl ?_
        exact rs_subk (KJ2 _ h) (rs_ac rfl (rs_ac rfl (rs_ac rfl rs_a0)))
      · refine rs_icmp_ne (tgt := 20) C dX5_readNumber_13 (by decide) rfl (fun z20 => ?_) (fun z20 => ?_)
        · replace h := rs_if z20 h
          refine rs_iconst (v := 0) C dX5_readNumber_20 (by decide) rfl ?_
          exact rs_subk (KJ17 _ h) (rs_ac rfl (rs_ac rfl (rs_ac rfl rs_a0)))
        · replace h := rs_it z20 h
          refine rs_iconst (v := 1) C dX5_readNumber_16 (by decide) rfl ?_
          refine rs_goto (tgt := 21) C dX5_readNumber_17 (by decide) ?_
          exact rs_subk (KJ17 _ h) (rs_ac rfl (rs_ac rfl (rs_ac rfl rs_a0)))
def xf_X5_lowOf (S : rs_St) (a1 : Int32) : Option Int32 := if a1 = 1 then some 1 else if a1 = 2 then some 1 else some 0
set_option maxRecDepth 100000 in
theorem c_X5_lowOf (l : Launch) (G : rs_G) (hG : rs_ok G) (S : rs_St) (a1 : Int32)  (o : Int32) (h : xf_X5_lowOf S a1 = some o) : Met l yX5_lowOf (rs_wz yX5_lowOf cX5_lowOf 1 (some FieldType.int)) (rs_rm 2) (va_Pc [.int a1] (rs_pre G S)) (va_Qi (fun r S2 => (r, S2) = (o, S)) (rs_post G) (rs_A G)) 0 0 (rs_A G) := by
  refine rs_met hG (by decide) (Nat.le_of_ble_eq_true rfl) ?_
  intro p e s m args below meth c C hr hlk
  rw [xf_X5_lowOf] at h
  refine rs_iload_n (i := 0) C dX5_lowOf_0 rfl rfl rfl ?_
  refine rs_iconst (v := 1) C dX5_lowOf_1 (by decide) rfl ?_
  refine rs_icmp_eq (tgt := 10) C dX5_lowOf_2 (by decide) rfl (fun z1 => ?_) (fun z1 => ?_)
  · replace h := rs_it z1 h
    refine rs_iconst (v := 1) C dX5_lowOf_10 (by decide) rfl ?_
    refine rs_goto (tgt := 15) C dX5_lowOf_11 (by decide) ?_
    exact rs_iret C hr hlk (rs_pr h) dX5_lowOf_15
  · replace h := rs_if z1 h
    refine rs_iload_n (i := 0) C dX5_lowOf_5 rfl rfl rfl ?_
    refine rs_iconst (v := 2) C dX5_lowOf_6 (by decide) rfl ?_
    refine rs_icmp_ne (tgt := 14) C dX5_lowOf_7 (by decide) rfl (fun z2 => ?_) (fun z2 => ?_)
    · replace h := rs_if z2 h
      refine rs_iconst (v := 0) C dX5_lowOf_14 (by decide) rfl ?_
      exact rs_iret C hr hlk (rs_pr h) dX5_lowOf_15
    · replace h := rs_it z2 h
      refine rs_iconst (v := 1) C dX5_lowOf_10 (by decide) rfl ?_
      refine rs_goto (tgt := 15) C dX5_lowOf_11 (by decide) ?_
      exact rs_iret C hr hlk (rs_pr h) dX5_lowOf_15
def xf_X5_mostOf (S : rs_St) (a1 : Int32) : Option Int32 := if a1 = 0 then some 3 else if a1 = 1 then some 9 else if a1 = 2 then some 12 else some 11
set_option maxRecDepth 100000 in
theorem c_X5_mostOf (l : Launch) (G : rs_G) (hG : rs_ok G) (S : rs_St) (a1 : Int32)  (o : Int32) (h : xf_X5_mostOf S a1 = some o) : Met l yX5_mostOf (rs_wz yX5_mostOf cX5_mostOf 1 (some FieldType.int)) (rs_rm 2) (va_Pc [.int a1] (rs_pre G S)) (va_Qi (fun r S2 => (r, S2) = (o, S)) (rs_post G) (rs_A G)) 0 0 (rs_A G) := by
  refine rs_met hG (by decide) (Nat.le_of_ble_eq_true rfl) ?_
  intro p e s m args below meth c C hr hlk
  rw [xf_X5_mostOf] at h
  refine rs_iload_n (i := 0) C dX5_mostOf_0 rfl rfl rfl ?_
  by_cases z2 : a1 = 0
  · replace h := rs_it z2 h
    refine rs_tabIn (tgt := 28) C (27) dX5_mostOf_1 0 z2 (by decide) (by decide) rfl (by decide) ?_
    refine rs_iconst (v := 3) C dX5_mostOf_28 (by decide) rfl ?_
    exact rs_iret C hr hlk (rs_pr h) dX5_mostOf_29
  · replace h := rs_if z2 h
    by_cases z3 : a1 = 1
    · replace h := rs_it z3 h
      refine rs_tabIn (tgt := 30) C (29) dX5_mostOf_1 1 z3 (by decide) (by decide) rfl (by decide) ?_
      refine rs_bipush (v := 9) C dX5_mostOf_30 (by decide) rfl ?_
      exact rs_iret C hr hlk (rs_pr h) dX5_mostOf_32
    · replace h := rs_if z3 h
      by_cases z4 : a1 = 2
      · replace h := rs_it z4 h
        refine rs_tabIn (tgt := 33) C (32) dX5_mostOf_1 2 z4 (by decide) (by decide) rfl (by decide) ?_
        refine rs_bipush (v := 12) C dX5_mostOf_33 (by decide) rfl ?_
        exact rs_iret C hr hlk (rs_pr h) dX5_mostOf_35
      · replace h := rs_if z4 h
        refine rs_tabOut (tgt := 36) C dX5_mostOf_1 (by have e0 := rs_nev z2 (0) (by decide); have e1 := rs_nev z3 (1) (by decide); have e2 := rs_nev z4 (2) (by decide); omega) (by decide) ?_
        refine rs_bipush (v := 11) C dX5_mostOf_36 (by decide) rfl ?_
        exact rs_iret C hr hlk (rs_pr h) dX5_mostOf_38
def xf_X5_lowTold (S : rs_St) (a1 : Int32) : Option Int32 := if a1 = 1 then some 0 else some 1
set_option maxRecDepth 100000 in
theorem c_X5_lowTold (l : Launch) (G : rs_G) (hG : rs_ok G) (S : rs_St) (a1 : Int32)  (o : Int32) (h : xf_X5_lowTold S a1 = some o) : Met l yX5_lowTold (rs_wz yX5_lowTold cX5_lowTold 1 (some FieldType.int)) (rs_rm 2) (va_Pc [.int a1] (rs_pre G S)) (va_Qi (fun r S2 => (r, S2) = (o, S)) (rs_post G) (rs_A G)) 0 0 (rs_A G) := by
  refine rs_met hG (by decide) (Nat.le_of_ble_eq_true rfl) ?_
  intro p e s m args below meth c C hr hlk
  rw [xf_X5_lowTold] at h
  refine rs_iload_n (i := 0) C dX5_lowTold_0 rfl rfl rfl ?_
  refine rs_iconst (v := 1) C dX5_lowTold_1 (by decide) rfl ?_
  refine rs_icmp_ne (tgt := 9) C dX5_lowTold_2 (by decide) rfl (fun z1 => ?_) (fun z1 => ?_)
  · replace h := rs_if z1 h
    refine rs_iconst (v := 1) C dX5_lowTold_9 (by decide) rfl ?_
    exact rs_iret C hr hlk (rs_pr h) dX5_lowTold_10
  · replace h := rs_it z1 h
    refine rs_iconst (v := 0) C dX5_lowTold_5 (by decide) rfl ?_
    refine rs_goto (tgt := 10) C dX5_lowTold_6 (by decide) ?_
    exact rs_iret C hr hlk (rs_pr h) dX5_lowTold_10
def xf_X5_mostTold (S : rs_St) (a1 : Int32) : Option Int32 := if a1 = 0 then some 8 else if a1 = 1 then some 9 else if a1 = 2 then some 20 else some 60
set_option maxRecDepth 100000 in
theorem c_X5_mostTold (l : Launch) (G : rs_G) (hG : rs_ok G) (S : rs_St) (a1 : Int32)  (o : Int32) (h : xf_X5_mostTold S a1 = some o) : Met l yX5_mostTold (rs_wz yX5_mostTold cX5_mostTold 1 (some FieldType.int)) (rs_rm 2) (va_Pc [.int a1] (rs_pre G S)) (va_Qi (fun r S2 => (r, S2) = (o, S)) (rs_post G) (rs_A G)) 0 0 (rs_A G) := by
  refine rs_met hG (by decide) (Nat.le_of_ble_eq_true rfl) ?_
  intro p e s m args below meth c C hr hlk
  rw [xf_X5_mostTold] at h
  refine rs_iload_n (i := 0) C dX5_mostTold_0 rfl rfl rfl ?_
  by_cases z2 : a1 = 0
  · replace h := rs_it z2 h
    refine rs_tabIn (tgt := 28) C (27) dX5_mostTold_1 0 z2 (by decide) (by decide) rfl (by decide) ?_
    refine rs_bipush (v := 8) C dX5_mostTold_28 (by decide) rfl ?_
    exact rs_iret C hr hlk (rs_pr h) dX5_mostTold_30
  · replace h := rs_if z2 h
    by_cases z3 : a1 = 1
    · replace h := rs_it z3 h
      refine rs_tabIn (tgt := 31) C (30) dX5_mostTold_1 1 z3 (by decide) (by decide) rfl (by decide) ?_
      refine rs_bipush (v := 9) C dX5_mostTold_31 (by decide) rfl ?_
      exact rs_iret C hr hlk (rs_pr h) dX5_mostTold_33
    · replace h := rs_if z3 h
      by_cases z4 : a1 = 2
      · replace h := rs_it z4 h
        refine rs_tabIn (tgt := 34) C (33) dX5_mostTold_1 2 z4 (by decide) (by decide) rfl (by decide) ?_
        refine rs_bipush (v := 20) C dX5_mostTold_34 (by decide) rfl ?_
        exact rs_iret C hr hlk (rs_pr h) dX5_mostTold_36
      · replace h := rs_if z4 h
        refine rs_tabOut (tgt := 37) C dX5_mostTold_1 (by have e0 := rs_nev z2 (0) (by decide); have e1 := rs_nev z3 (1) (by decide); have e2 := rs_nev z4 (2) (by decide); omega) (by decide) ?_
        refine rs_bipush (v := 60) C dX5_mostTold_37 (by decide) rfl ?_
        exact rs_iret C hr hlk (rs_pr h) dX5_mostTold_39
def xf_X5_readLineOf_l54 (x2 : Int32) (K54 : rs_St → Int32 → Option rs_St) : Nat → rs_St → Int32 → Option rs_St
  | 0, _, _ => none
  | n54 + 1, S5, x6 => if 3 < x6 then K54 S5 x6 else rs_b1 (xf_X5_lowOf S5 x6) (fun r9 => rs_b1 (xf_X5_mostOf S5 x6) (fun r11 => rs_b2 (xf_X5_readNumber S5 r9 r11) (fun r14 S13 => if (x2 + x6) < 0 ∨ 51 ≤ (x2 + x6).toNatClampNeg then none else rs_lt (rs_si S13 95 (x2 + x6).toNatClampNeg r14) (fun S15 => rs_lt (x6 + 1) (fun x17 => xf_X5_readLineOf_l54 x2 K54 n54 S15 x17)))))
def xf_X5_readLineOf (S : rs_St) (a1 : Int32) : Option rs_St := if a1 < 4 then rs_lt (4 * (rs_gi S 95 16)) (fun x2 => if (x2 + 0) < 0 ∨ 51 ≤ (x2 + 0).toNatClampNeg then none else rs_lt (rs_si S 95 (x2 + 0).toNatClampNeg a1) (fun S3 => xf_X5_readLineOf_l54 x2 (fun (S18 : rs_St) (x19 : Int32) => rs_lt (rs_si S18 95 16 ((rs_gi S18 95 16) + 1)) (fun S20 => some S20)) rs_fu S3 1)) else rs_b1 (xf_X5_lowTold S (a1 - 4)) (fun r22 => rs_b1 (xf_X5_mostTold S (a1 - 4)) (fun r24 => rs_b2 (xf_X5_readNumber S r22 r24) (fun r27 S26 => if ((17 + a1) - 4) < 0 ∨ 51 ≤ ((17 + a1) - 4).toNatClampNeg then none else rs_lt (rs_si S26 95 ((17 + a1) - 4).toNatClampNeg r27) (fun S28 => some S28))))
set_option maxRecDepth 100000 in
theorem c_X5_readLineOf (l : Launch) (G : rs_G) (hG : rs_ok G) (S : rs_St) (a1 : Int32)  (o : rs_St) (h : xf_X5_readLineOf S a1 = some o) : Met l yX5_readLineOf (rs_wz yX5_readLineOf cX5_readLineOf 4 none) (rs_rm 5) (va_Pc [.ref (rs_ad G 91), .int a1] (rs_pre G S)) (va_Qv (fun S2 => S2 = o) (rs_post G) (rs_A G)) 0 0 (rs_A G) := by
  refine rs_met hG (by decide) (Nat.le_of_ble_eq_true rfl) ?_
  intro p e s m args below meth c C hr hlk
  rw [xf_X5_readLineOf] at h
  refine rs_iload_n (i := 1) C dX5_readLineOf_0 rfl rfl rfl ?_
  refine rs_iconst (v := 4) C dX5_readLineOf_1 (by decide) rfl ?_
  refine rs_icmp_lt (tgt := 33) C dX5_readLineOf_2 (by decide) rfl (fun z1 => ?_) (fun z1 => ?_)
  · replace h := rs_it z1 h
    refine rs_iconst (v := 4) C dX5_readLineOf_33 (by decide) rfl ?_
    refine rs_aload_n (i := 0) C dX5_readLineOf_34 rfl rfl rfl ?_
    refine rg_X5_3 C kk_91 wl_X5_20 dX5_readLineOf_35 rfl ?_
    refine rs_bipush (v := 16) C dX5_readLineOf_38 (by decide) rfl ?_
    refine rs_ialdc C kk_95 ll_95 16 (by decide) (by decide) dX5_readLineOf_40 rfl ?_
    refine rs_imul C dX5_readLineOf_41 rfl ?_
    refine rs_nmi h (fun x2 h => ?_)
    refine rs_istore_n (i := 2) C dX5_readLineOf_42 rfl (by decide) rfl ?_
    refine rs_aload_n (i := 0) C dX5_readLineOf_43 rfl rfl rfl ?_
    refine rg_X5_3 C kk_91 wl_X5_20 dX5_readLineOf_44 rfl ?_
    refine rs_iload_n (i := 2) C dX5_readLineOf_47 rfl rfl rfl ?_
    refine rs_iconst (v := 0) C dX5_readLineOf_48 (by decide) rfl ?_
    refine rs_iadd C dX5_readLineOf_49 rfl ?_
    refine rs_iload_n (i := 1) C dX5_readLineOf_50 rfl rfl rfl ?_
    obtain ⟨z4, h⟩ := rs_ck h
    refine rs_iastn C kk_95 ll_95 z4 dX5_readLineOf_51 rfl h (fun S3 h => ?_)
    refine rs_iconst (v := 1) C dX5_readLineOf_52 (by decide) rfl ?_
    refine rs_istore_n (i := 3) C dX5_readLineOf_53 rfl (by decide) rfl ?_
    refine rs_kw (F := fun K => xf_X5_readLineOf_l54 x2 K rs_fu S3 1) (P := fun K => ∀ (S18 : rs_St) (x19 : Int32), K S18 x19 = some o → rs_Xv G 4 p l e (rs_rm 5) s m args below meth c o S18 85 [(0, .ref (rs_ad G 91)), (1, .int a1), (2, .int x2), (3, .int x19)] []) h (fun S18 x19 h => ?_) (fun K54 hK54 h => ?_)
    · refine rs_aload_n (i := 0) C dX5_readLineOf_85 rfl rfl rfl ?_
      refine rg_X5_3 C kk_91 wl_X5_20 dX5_readLineOf_86 rfl ?_
      refine rs_bipush (v := 16) C dX5_readLineOf_89 (by decide) rfl ?_
      refine rs_dup2 C dX5_readLineOf_91 rfl rfl rfl ?_
      refine rs_ialdc C kk_95 ll_95 16 (by decide) (by decide) dX5_readLineOf_92 rfl ?_
      refine rs_iconst (v := 1) C dX5_readLineOf_93 (by decide) rfl ?_
      refine rs_iadd C dX5_readLineOf_94 rfl ?_
      refine rs_iastc C kk_95 ll_95 16 (by decide) (by decide) dX5_readLineOf_95 rfl h (fun S20 h => ?_)
      exact rs_vret C hr hlk h dX5_readLineOf_96
    · have L54 : ∀ (n54 : Nat) (S5 : rs_St) (x6 : Int32), xf_X5_readLineOf_l54 x2 K54 n54 S5 x6 = some o → rs_Xv G 4 p l e (rs_rm 5) s m args below meth c o S5 54 [(0, .ref (rs_ad G 91)), (1, .int a1), (2, .int x2), (3, .int x6)] [] := by
        intro n54
        induction n54 with
        | zero => intro S5 x6 h; exact (rs_no h).elim
        | succ n54 ih54 =>
          intro S5 x6 h
          rw [xf_X5_readLineOf_l54] at h
          refine rs_iload_n (i := 3) C dX5_readLineOf_54 rfl rfl rfl ?_
          refine rs_iconst (v := 3) C dX5_readLineOf_55 (by decide) rfl ?_
          refine rs_icmp_gt (tgt := 85) C dX5_readLineOf_56 (by decide) rfl (fun z7 => ?_) (fun z7 => ?_)
          · replace h := rs_it z7 h
            exact rs_subk (hK54 _ _ h) (rs_ac rfl (rs_ac rfl (rs_ac rfl (rs_ac rfl rs_a0))))
          · replace h := rs_if z7 h
            refine rs_aload_n (i := 0) C dX5_readLineOf_59 rfl rfl rfl ?_
            refine rg_X5_3 C kk_91 wl_X5_20 dX5_readLineOf_60 rfl ?_
            refine rs_iload_n (i := 2) C dX5_readLineOf_63 rfl rfl rfl ?_
            refine rs_iload_n (i := 3) C dX5_readLineOf_64 rfl rfl rfl ?_
            refine rs_iadd C dX5_readLineOf_65 rfl ?_
            refine rs_aload_n (i := 0) C dX5_readLineOf_66 rfl rfl rfl ?_
            refine rs_iload_n (i := 3) C dX5_readLineOf_67 rfl rfl rfl ?_
            obtain ⟨r9, h8, h⟩ := rs_b1e h
            refine rs_callSi (r0 := r9) (S0 := S5) C (c_X5_lowOf l G hG S5 x6 _ h8) ⟨wl_X5_124, ws_yX5_lowOf, wn_X5, wc_yX5_lowOf⟩ wy_yX5_lowOf (by decide) ⟨rfl, rfl⟩ rfl rfl (Nat.le_of_ble_eq_true rfl) dX5_readLineOf_68 rfl ?_
            refine rs_iload_n (i := 3) C dX5_readLineOf_71 rfl rfl rfl ?_
            obtain ⟨r11, h10, h⟩ := rs_b1e h
            refine rs_callSi (r0 := r11) (S0 := S5) C (c_X5_mostOf l G hG S5 x6 _ h10) ⟨wl_X5_127, ws_yX5_mostOf, wn_X5, wc_yX5_mostOf⟩ wy_yX5_mostOf (by decide) ⟨rfl, rfl⟩ rfl rfl (Nat.le_of_ble_eq_true rfl) dX5_readLineOf_72 rfl ?_
            obtain ⟨r14, S13, h12, h⟩ := rs_b2e h
            refine rs_callVi (r0 := r14) (S0 := S13) C (rs_kd_lt kk_91 (by decide)) (rs_e5 kk_91) rfl (c_X5_readNumber l G hG S5 r9 r11 _ h12) ⟨wl_X5_120, wi_yX5_readNumber, wx_yX5_readNumber, wn_X5, wc_yX5_readNumber⟩ wy_yX5_readNumber (by decide) ⟨rfl, rfl⟩ rfl rfl (Nat.le_of_ble_eq_true rfl) dX5_readLineOf_75 rfl ?_
            obtain ⟨z16, h⟩ := rs_ck h
            refine rs_iastn C kk_95 ll_95 z16 dX5_readLineOf_78 rfl h (fun S15 h => ?_)
            refine rs_iincn (v := 1) C dX5_readLineOf_79 rfl (by decide) (by decide) rfl h (fun x17 h => ?_)
            refine rs_goto (tgt := 54) C dX5_readLineOf_82 (by decide) ?_
            exact rs_subk (ih54 _ _ h) (rs_ac rfl (rs_ac rfl (rs_ac rfl (rs_ac rfl rs_a0))))
      exact rs_subk (L54 rs_fu _ _ h) (rs_ac rfl (rs_ac rfl (rs_ac rfl (rs_ac rfl rs_a0))))
  · replace h := rs_if z1 h
    refine rs_aload_n (i := 0) C dX5_readLineOf_5 rfl rfl rfl ?_
    refine rg_X5_3 C kk_91 wl_X5_20 dX5_readLineOf_6 rfl ?_
    refine rs_bipush (v := 17) C dX5_readLineOf_9 (by decide) rfl ?_
    refine rs_iload_n (i := 1) C dX5_readLineOf_11 rfl rfl rfl ?_
    refine rs_iadd C dX5_readLineOf_12 rfl ?_
    refine rs_iconst (v := 4) C dX5_readLineOf_13 (by decide) rfl ?_
    refine rs_isub C dX5_readLineOf_14 rfl ?_
    refine rs_aload_n (i := 0) C dX5_readLineOf_15 rfl rfl rfl ?_
    refine rs_iload_n (i := 1) C dX5_readLineOf_16 rfl rfl rfl ?_
    refine rs_iconst (v := 4) C dX5_readLineOf_17 (by decide) rfl ?_
    refine rs_isub C dX5_readLineOf_18 rfl ?_
    obtain ⟨r22, h21, h⟩ := rs_b1e h
    refine rs_callSi (r0 := r22) (S0 := S) C (c_X5_lowTold l G hG S (a1 - 4) _ h21) ⟨wl_X5_114, ws_yX5_lowTold, wn_X5, wc_yX5_lowTold⟩ wy_yX5_lowTold (by decide) ⟨rfl, rfl⟩ rfl rfl (Nat.le_of_ble_eq_true rfl) dX5_readLineOf_19 rfl ?_
    refine rs_iload_n (i := 1) C dX5_readLineOf_22 rfl rfl rfl ?_
    refine rs_iconst (v := 4) C dX5_readLineOf_23 (by decide) rfl ?_
    refine rs_isub C dX5_readLineOf_24 rfl ?_
    obtain ⟨r24, h23, h⟩ := rs_b1e h
    refine rs_callSi (r0 := r24) (S0 := S) C (c_X5_mostTold l G hG S (a1 - 4) _ h23) ⟨wl_X5_117, ws_yX5_mostTold, wn_X5, wc_yX5_mostTold⟩ wy_yX5_mostTold (by decide) ⟨rfl, rfl⟩ rfl rfl (Nat.le_of_ble_eq_true rfl) dX5_readLineOf_25 rfl ?_
    obtain ⟨r27, S26, h25, h⟩ := rs_b2e h
    refine rs_callVi (r0 := r27) (S0 := S26) C (rs_kd_lt kk_91 (by decide)) (rs_e5 kk_91) rfl (c_X5_readNumber l G hG S r22 r24 _ h25) ⟨wl_X5_120, wi_yX5_readNumber, wx_yX5_readNumber, wn_X5, wc_yX5_readNumber⟩ wy_yX5_readNumber (by decide) ⟨rfl, rfl⟩ rfl rfl (Nat.le_of_ble_eq_true rfl) dX5_readLineOf_28 rfl ?_
    obtain ⟨z29, h⟩ := rs_ck h
    refine rs_iastn C kk_95 ll_95 z29 dX5_readLineOf_31 rfl h (fun S28 h => ?_)
    exact rs_vret C hr hlk h dX5_readLineOf_32
def xf_X5_readLine (S : rs_St) : Option rs_St := rs_jn (fun (x1 : Int32) => rs_jn (fun (x3 : Int32) => rs_b1 (xf_X5_requires S x3 2) (fun S6 => rs_jn (fun (x7 : Int32) => rs_b1 (xf_X5_requires S6 x7 5) (fun S10 => rs_jn (fun (S11 : rs_St) => rs_b1 (xf_X5_reads S11) (fun S14 => if (rs_gi S14 91 11) ≤ 0 then rs_b1 (xf_X5_readLineOf S14 x1) (fun S17 => rs_jn (fun (S18 : rs_St) => rs_b1 (xf_X5_reads S18) (fun S21 => some S21)) (fun J19 => if (rs_gi S17 91 11) = 0 then rs_jn (fun (x23 : Int32) => rs_b1 (xf_X5_requires S17 x23 2) (fun S26 => J19 S26)) (fun J24 => if (rs_gi S17 91 9) = 3 then J24 1 else J24 0) else J19 S17)) else some S14)) (fun J12 => if x1 < 4 then J12 S10 else if (x1 - 4) < 0 ∨ 4 ≤ (x1 - 4).toNatClampNeg then none else rs_jn (fun (x30 : Int32) => rs_b1 (xf_X5_requires S10 x30 4) (fun S33 => if (x1 - 4) < 0 ∨ 4 ≤ (x1 - 4).toNatClampNeg then none else rs_lt (rs_si S33 96 (x1 - 4).toNatClampNeg (vp_nar .boolean 1)) (fun S34 => J12 S34))) (fun J31 => if (rs_gi S10 96 (x1 - 4).toNatClampNeg) = 0 then J31 1 else J31 0)))) (fun J8 => if 4 ≤ x1 then J8 1 else if 4 ≤ (rs_gi S6 95 16) then J8 0 else J8 1))) (fun J4 => if x1 = (-4) then J4 0 else J4 1)) (fun J2 => if (rs_gi S 91 9) = 1 then rs_b1 (xf_X5_lineNow S) (fun r42 => J2 r42) else J2 (-4))
set_option maxRecDepth 100000 in
theorem c_X5_readLine (l : Launch) (G : rs_G) (hG : rs_ok G) (S : rs_St)  (o : rs_St) (h : xf_X5_readLine S = some o) : Met l yX5_readLine (rs_wz yX5_readLine cX5_readLine 2 none) (rs_rm 6) (va_Pc [.ref (rs_ad G 91)] (rs_pre G S)) (va_Qv (fun S2 => S2 = o) (rs_post G) (rs_A G)) 0 0 (rs_A G) := by
  refine rs_met hG (by decide) (Nat.le_of_ble_eq_true rfl) ?_
  intro p e s m args below meth c C hr hlk
  rw [xf_X5_readLine] at h
  refine rs_aload_n (i := 0) C dX5_readLine_0 rfl rfl rfl ?_
  refine rg_X5_9 C kk_91 wl_X5_93 dX5_readLine_1 rfl ?_
  refine rs_iconst (v := 1) C dX5_readLine_4 (by decide) rfl ?_
  refine rs_jw (P := fun J => ∀ (x1 : Int32), J x1 = some o → rs_Xv G 2 p l e (rs_rm 6) s m args below meth c o S 17 [(0, .ref (rs_ad G 91))] [.int x1]) h (fun x1 h => ?_) (fun J2 KJ2 h => ?_)
  · refine rs_istore_n (i := 1) C dX5_readLine_17 rfl (by decide) rfl ?_
    refine rs_aload_n (i := 0) C dX5_readLine_18 rfl rfl rfl ?_
    refine rs_iload_n (i := 1) C dX5_readLine_19 rfl rfl rfl ?_
    refine rs_bipush (v := (-4)) C dX5_readLine_20 (by decide) rfl ?_
    refine rs_jw (P := fun J => ∀ (x3 : Int32), J x3 = some o → rs_Xv G 2 p l e (rs_rm 6) s m args below meth c o S 30 [(0, .ref (rs_ad G 91)), (1, .int x1)] [.int x3, .ref (rs_ad G 91)]) h (fun x3 h => ?_) (fun J4 KJ4 h => ?_)
    · refine rs_iconst (v := 2) C dX5_readLine_30 (by decide) rfl ?_
      obtain ⟨S6, h5, h⟩ := rs_b1e h
      refine rs_callVv (S0 := S6) C (rs_kd_lt kk_91 (by decide)) (rs_e5 kk_91) rfl (c_X5_requires l G hG S x3 2 _ h5) ⟨wl_X5_107, wi_yX5_requires, wx_yX5_requires, wn_X5, wc_yX5_requires⟩ wy_yX5_requires (by decide) ⟨rfl, rfl⟩ rfl rfl (Nat.le_of_ble_eq_true rfl) dX5_readLine_31 rfl ?_
      refine rs_aload_n (i := 0) C dX5_readLine_34 rfl rfl rfl ?_
      refine rs_iload_n (i := 1) C dX5_readLine_35 rfl rfl rfl ?_
      refine rs_iconst (v := 4) C dX5_readLine_36 (by decide) rfl ?_
      refine rs_jw (P := fun J => ∀ (x7 : Int32), J x7 = some o → rs_Xv G 2 p l e (rs_rm 6) s m args below meth c o S6 56 [(0, .ref (rs_ad G 91)), (1, .int x1)] [.int x7, .ref (rs_ad G 91)]) h (fun x7 h => ?_) (fun J8 KJ8 h => ?_)
      · refine rs_iconst (v := 5) C dX5_readLine_56 (by decide) rfl ?_
        obtain ⟨S10, h9, h⟩ := rs_b1e h
        refine rs_callVv (S0 := S10) C (rs_kd_lt kk_91 (by decide)) (rs_e5 kk_91) rfl (c_X5_requires l G hG S6 x7 5 _ h9) ⟨wl_X5_107, wi_yX5_requires, wx_yX5_requires, wn_X5, wc_yX5_requires⟩ wy_yX5_requires (by decide) ⟨rfl, rfl⟩ rfl rfl (Nat.le_of_ble_eq_true rfl) dX5_readLine_57 rfl ?_
        refine rs_iload_n (i := 1) C dX5_readLine_60 rfl rfl rfl ?_
        refine rs_iconst (v := 4) C dX5_readLine_61 (by decide) rfl ?_
        refine rs_jw (P := fun J => ∀ (S11 : rs_St), J S11 = some o → rs_Xv G 2 p l e (rs_rm 6) s m args below meth c o S11 95 [(0, .ref (rs_ad G 91)), (1, .int x1)] []) h (fun S11 h => ?_) (fun J12 KJ12 h => ?_)
        · refine rs_aload_n (i := 0) C dX5_readLine_95 rfl rfl rfl ?_
          obtain ⟨S14, h13, h⟩ := rs_b1e h
          refine rs_callVv (S0 := S14) C (rs_kd_lt kk_91 (by decide)) (rs_e5 kk_91) rfl (c_X5_reads l G hG S11 _ h13) ⟨wl_X5_111, wi_yX5_reads, wx_yX5_reads, wn_X5, wc_yX5_reads⟩ wy_yX5_reads (by decide) ⟨rfl, rfl⟩ rfl rfl (Nat.le_of_ble_eq_true rfl) dX5_readLine_96 rfl ?_
          refine rs_aload_n (i := 0) C dX5_readLine_99 rfl rfl rfl ?_
          refine rg_X5_11 C kk_91 wl_X5_69 dX5_readLine_100 rfl ?_
          refine rs_if_le (tgt := 107) C dX5_readLine_103 (by decide) rfl (fun z15 => ?_) (fun z15 => ?_)
          · replace h := rs_it z15 h
            refine rs_aload_n (i := 0) C dX5_readLine_107 rfl rfl rfl ?_
            refine rs_iload_n (i := 1) C dX5_readLine_108 rfl rfl rfl ?_
            obtain ⟨S17, h16, h⟩ := rs_b1e h
            refine rs_callVv (S0 := S17) C (rs_kd_lt kk_91 (by decide)) (rs_e5 kk_91) rfl (c_X5_readLineOf l G hG S14 x1 _ h16) ⟨wl_X5_134, wi_yX5_readLineOf, wx_yX5_readLineOf, wn_X5, wc_yX5_readLineOf⟩ wy_yX5_readLineOf (by decide) ⟨rfl, rfl⟩ rfl rfl (Nat.le_of_ble_eq_true rfl) dX5_readLine_109 rfl ?_
            refine rs_aload_n (i := 0) C dX5_readLine_112 rfl rfl rfl ?_
            refine rg_X5_11 C kk_91 wl_X5_69 dX5_readLine_113 rfl ?_
            refine rs_jw (P := fun J => ∀ (S18 : rs_St), J S18 = some o → rs_Xv G 2 p l e (rs_rm 6) s m args below meth c o S18 137 [(0, .ref (rs_ad G 91)), (1, .int x1)] []) h (fun S18 h => ?_) (fun J19 KJ19 h => ?_)
            · refine rs_aload_n (i := 0) C dX5_readLine_137 rfl rfl rfl ?_
              obtain ⟨S21, h20, h⟩ := rs_b1e h
              refine rs_callVv (S0 := S21) C (rs_kd_lt kk_91 (by decide)) (rs_e5 kk_91) rfl (c_X5_reads l G hG S18 _ h20) ⟨wl_X5_111, wi_yX5_reads, wx_yX5_reads, wn_X5, wc_yX5_reads⟩ wy_yX5_reads (by decide) ⟨rfl, rfl⟩ rfl rfl (Nat.le_of_ble_eq_true rfl) dX5_readLine_138 rfl ?_
              exact rs_vret C hr hlk h dX5_readLine_141
            · refine rs_if_ne (tgt := 137) C dX5_readLine_116 (by decide) rfl (fun z22 => ?_) (fun z22 => ?_)
              · replace h := rs_if z22 h
                exact rs_subk (KJ19 _ h) (rs_ac rfl (rs_ac rfl rs_a0))
              · replace h := rs_it z22 h
                refine rs_aload_n (i := 0) C dX5_readLine_119 rfl rfl rfl ?_
                refine rs_aload_n (i := 0) C dX5_readLine_120 rfl rfl rfl ?_
                refine rg_X5_9 C kk_91 wl_X5_93 dX5_readLine_121 rfl ?_
                refine rs_iconst (v := 3) C dX5_readLine_124 (by decide) rfl ?_
                refine rs_jw (P := fun J => ∀ (x23 : Int32), J x23 = some o → rs_Xv G 2 p l e (rs_rm 6) s m args below meth c o S17 133 [(0, .ref (rs_ad G 91)), (1, .int x1)] [.int x23, .ref (rs_ad G 91)]) h (fun x23 h => ?_) (fun J24 KJ24 h => ?_)
                · refine rs_iconst (v := 2) C dX5_readLine_133 (by decide) rfl ?_
                  obtain ⟨S26, h25, h⟩ := rs_b1e h
                  refine rs_callVv (S0 := S26) C (rs_kd_lt kk_91 (by decide)) (rs_e5 kk_91) rfl (c_X5_requires l G hG S17 x23 2 _ h25) ⟨wl_X5_107, wi_yX5_requires, wx_yX5_requires, wn_X5, wc_yX5_requires⟩ wy_yX5_requires (by decide) ⟨rfl, rfl⟩ rfl rfl (Nat.le_of_ble_eq_true rfl) dX5_readLine_134 rfl ?_
                  exact rs_subk (KJ19 _ h) (rs_ac rfl (rs_ac rfl rs_a0))
                · refine rs_icmp_ne (tgt := 132) C dX5_readLine_125 (by decide) rfl (fun z27 => ?_) (fun z27 => ?_)
                  · replace h := rs_if z27 h
                    refine rs_iconst (v := 0) C dX5_readLine_132 (by decide) rfl ?_
                    exact rs_subk (KJ24 _ h) (rs_ac rfl (rs_ac rfl rs_a0))
                  · replace h := rs_it z27 h
                    refine rs_iconst (v := 1) C dX5_readLine_128 (by decide) rfl ?_
                    refine rs_goto (tgt := 133) C dX5_readLine_129 (by decide) ?_
                    exact rs_subk (KJ24 _ h) (rs_ac rfl (rs_ac rfl rs_a0))
          · replace h := rs_if z15 h
            exact rs_vret C hr hlk h dX5_readLine_106
        · refine rs_icmp_lt (tgt := 95) C dX5_readLine_62 (by decide) rfl (fun z28 => ?_) (fun z28 => ?_)
          · replace h := rs_it z28 h
            exact rs_subk (KJ12 _ h) (rs_ac rfl (rs_ac rfl rs_a0))
          · replace h := rs_if z28 h
            refine rs_aload_n (i := 0) C dX5_readLine_65 rfl rfl rfl ?_
            refine rs_aload_n (i := 0) C dX5_readLine_66 rfl rfl rfl ?_
            refine rg_X5_4 C kk_91 wl_X5_23 dX5_readLine_67 rfl ?_
            refine rs_iload_n (i := 1) C dX5_readLine_70 rfl rfl rfl ?_
            refine rs_iconst (v := 4) C dX5_readLine_71 (by decide) rfl ?_
            refine rs_isub C dX5_readLine_72 rfl ?_
            obtain ⟨z29, h⟩ := rs_ck h
            refine rs_zaldn C kk_96 ll_96 z29 dX5_readLine_73 rfl ?_
            refine rs_jw (P := fun J => ∀ (x30 : Int32), J x30 = some o → rs_Xv G 2 p l e (rs_rm 6) s m args below meth c o S10 82 [(0, .ref (rs_ad G 91)), (1, .int x1)] [.int x30, .ref (rs_ad G 91)]) h (fun x30 h => ?_) (fun J31 KJ31 h => ?_)
            · refine rs_iconst (v := 4) C dX5_readLine_82 (by decide) rfl ?_
              obtain ⟨S33, h32, h⟩ := rs_b1e h
              refine rs_callVv (S0 := S33) C (rs_kd_lt kk_91 (by decide)) (rs_e5 kk_91) rfl (c_X5_requires l G hG S10 x30 4 _ h32) ⟨wl_X5_107, wi_yX5_requires, wx_yX5_requires, wn_X5, wc_yX5_requires⟩ wy_yX5_requires (by decide) ⟨rfl, rfl⟩ rfl rfl (Nat.le_of_ble_eq_true rfl) dX5_readLine_83 rfl ?_
              refine rs_aload_n (i := 0) C dX5_readLine_86 rfl rfl rfl ?_
              refine rg_X5_4 C kk_91 wl_X5_23 dX5_readLine_87 rfl ?_
              refine rs_iload_n (i := 1) C dX5_readLine_90 rfl rfl rfl ?_
              refine rs_iconst (v := 4) C dX5_readLine_91 (by decide) rfl ?_
              refine rs_isub C dX5_readLine_92 rfl ?_
              refine rs_iconst (v := 1) C dX5_readLine_93 (by decide) rfl ?_
              obtain ⟨z35, h⟩ := rs_ck h
              refine rs_zastn C kk_96 ll_96 z35 dX5_readLine_94 rfl h (fun S34 h => ?_)
              exact rs_subk (KJ12 _ h) (rs_ac rfl (rs_ac rfl rs_a0))
            · refine rs_if_ne (tgt := 81) C dX5_readLine_74 (by decide) rfl (fun z36 => ?_) (fun z36 => ?_)
              · replace h := rs_if z36 h
                refine rs_iconst (v := 0) C dX5_readLine_81 (by decide) rfl ?_
                exact rs_subk (KJ31 _ h) (rs_ac rfl (rs_ac rfl rs_a0))
              · replace h := rs_it z36 h
                refine rs_iconst (v := 1) C dX5_readLine_77 (by decide) rfl ?_
                refine rs_goto (tgt := 82) C dX5_readLine_78 (by decide) ?_
                exact rs_subk (KJ31 _ h) (rs_ac rfl (rs_ac rfl rs_a0))
      · refine rs_icmp_ge (tgt := 51) C dX5_readLine_37 (by decide) rfl (fun z37 => ?_) (fun z37 => ?_)
        · replace h := rs_it z37 h
          refine rs_iconst (v := 1) C dX5_readLine_51 (by decide) rfl ?_
          refine rs_goto (tgt := 56) C dX5_readLine_52 (by decide) ?_
          exact rs_subk (KJ8 _ h) (rs_ac rfl (rs_ac rfl rs_a0))
        · replace h := rs_if z37 h
          refine rs_aload_n (i := 0) C dX5_readLine_40 rfl rfl rfl ?_
          refine rg_X5_3 C kk_91 wl_X5_20 dX5_readLine_41 rfl ?_
          refine rs_bipush (v := 16) C dX5_readLine_44 (by decide) rfl ?_
          refine rs_ialdc C kk_95 ll_95 16 (by decide) (by decide) dX5_readLine_46 rfl ?_
          refine rs_iconst (v := 4) C dX5_readLine_47 (by decide) rfl ?_
          refine rs_icmp_ge (tgt := 55) C dX5_readLine_48 (by decide) rfl (fun z38 => ?_) (fun z38 => ?_)
          · replace h := rs_it z38 h
            refine rs_iconst (v := 0) C dX5_readLine_55 (by decide) rfl ?_
            exact rs_subk (KJ8 _ h) (rs_ac rfl (rs_ac rfl rs_a0))
          · replace h := rs_if z38 h
            refine rs_iconst (v := 1) C dX5_readLine_51 (by decide) rfl ?_
            refine rs_goto (tgt := 56) C dX5_readLine_52 (by decide) ?_
            exact rs_subk (KJ8 _ h) (rs_ac rfl (rs_ac rfl rs_a0))
    · refine rs_icmp_eq (tgt := 29) C dX5_readLine_22 (by decide) rfl (fun z39 => ?_) (fun z39 => ?_)
      · replace h := rs_it z39 h
        refine rs_iconst (v := 0) C dX5_readLine_29 (by decide) rfl ?_
        exact rs_subk (KJ4 _ h) (rs_ac rfl (rs_ac rfl rs_a0))
      · replace h := rs_if z39 h
        refine rs_iconst (v := 1) C dX5_readLine_25 (by decide) rfl ?_
        refine rs_goto (tgt := 30) C dX5_readLine_26 (by decide) ?_
        exact rs_subk (KJ4 _ h) (rs_ac rfl (rs_ac rfl rs_a0))
  · refine rs_icmp_ne (tgt := 15) C dX5_readLine_5 (by decide) rfl (fun z40 => ?_) (fun z40 => ?_)
    · replace h := rs_if z40 h
      refine rs_bipush (v := (-4)) C dX5_readLine_15 (by decide) rfl ?_
      exact rs_subk (KJ2 _ h) (rs_ac rfl rs_a0)
    · replace h := rs_it z40 h
      refine rs_aload_n (i := 0) C dX5_readLine_8 rfl rfl rfl ?_
      obtain ⟨r42, h41, h⟩ := rs_b1e h
      refine rs_callVi (r0 := r42) (S0 := S) C (rs_kd_lt kk_91 (by decide)) (rs_e5 kk_91) rfl (c_X5_lineNow l G hG S _ h41) ⟨wl_X5_130, wi_yX5_lineNow, wx_yX5_lineNow, wn_X5, wc_yX5_lineNow⟩ wy_yX5_lineNow (by decide) ⟨rfl, rfl⟩ rfl rfl (Nat.le_of_ble_eq_true rfl) dX5_readLine_9 rfl ?_
      refine rs_goto (tgt := 17) C dX5_readLine_12 (by decide) ?_
      exact rs_subk (KJ2 _ h) (rs_ac rfl rs_a0)
def xf_X5_text_l20 (K20 : rs_St → Int32 → Option (Int32 × rs_St)) : Nat → rs_St → Int32 → Option (Int32 × rs_St)
  | 0, _, _ => none
  | n20 + 1, S7, x8 => if (rs_gi S7 91 11) = 0 then if (rs_gi S7 91 9) = 0 then K20 S7 x8 else rs_b1 (xf_X5_readLine S7) (fun S12 => rs_lt (x8 + 1) (fun x13 => xf_X5_text_l20 K20 n20 S12 x13)) else K20 S7 x8
def xf_X5_text (S : rs_St) : Option (Int32 × rs_St) := rs_lt (rs_si S 91 11 0) (fun S1 => rs_lt (rs_si S1 91 7 0) (fun S2 => rs_b1 (xf_X5_firstDraft S2) (fun S4 => rs_b1 (xf_X5_reads S4) (fun S6 => xf_X5_text_l20 (fun (S14 : rs_St) (x15 : Int32) => rs_lt (rs_si S14 91 6 0) (fun S16 => if (rs_gi S16 91 11) ≤ 0 then rs_b1 (xf_X5_keepDraft S16) (fun S19 => some (x15, S19)) else some (((-10) - (rs_gi S16 91 12)), S16))) rs_fu S6 0))))
set_option maxRecDepth 100000 in
theorem c_X5_text (l : Launch) (G : rs_G) (hG : rs_ok G) (S : rs_St)  (o : (Int32 × rs_St)) (h : xf_X5_text S = some o) : Met l yX5_text (rs_wz yX5_text cX5_text 2 (some FieldType.int)) (rs_rm 7) (va_Pc [.ref (rs_ad G 91)] (rs_pre G S)) (va_Qi (fun r S2 => (r, S2) = o) (rs_post G) (rs_A G)) 0 0 (rs_A G) := by
  refine rs_met hG (by decide) (Nat.le_of_ble_eq_true rfl) ?_
  intro p e s m args below meth c C hr hlk
  rw [xf_X5_text] at h
  refine rs_iconst (v := 0) C dX5_text_0 (by decide) rfl ?_
  refine rs_istore_n (i := 1) C dX5_text_1 rfl (by decide) rfl ?_
  refine rs_aload_n (i := 0) C dX5_text_2 rfl rfl rfl ?_
  refine rs_iconst (v := 0) C dX5_text_3 (by decide) rfl ?_
  refine rp_X5_11 C kk_91 wl_X5_69 dX5_text_4 rfl h (fun S1 h => ?_)
  refine rs_aload_n (i := 0) C dX5_text_7 rfl rfl rfl ?_
  refine rs_iconst (v := 0) C dX5_text_8 (by decide) rfl ?_
  refine rp_X5_7 C kk_91 wl_X5_78 dX5_text_9 rfl h (fun S2 h => ?_)
  refine rs_aload_n (i := 0) C dX5_text_12 rfl rfl rfl ?_
  obtain ⟨S4, h3, h⟩ := rs_b1e h
  refine rs_callVv (S0 := S4) C (rs_kd_lt kk_91 (by decide)) (rs_e5 kk_91) rfl (c_X5_firstDraft l G hG S2 _ h3) ⟨wl_X5_53, wi_yX5_firstDraft, wx_yX5_firstDraft, wn_X5, wc_yX5_firstDraft⟩ wy_yX5_firstDraft (by decide) ⟨rfl, rfl⟩ rfl rfl (Nat.le_of_ble_eq_true rfl) dX5_text_13 rfl ?_
  refine rs_aload_n (i := 0) C dX5_text_16 rfl rfl rfl ?_
  obtain ⟨S6, h5, h⟩ := rs_b1e h
  refine rs_callVv (S0 := S6) C (rs_kd_lt kk_91 (by decide)) (rs_e5 kk_91) rfl (c_X5_reads l G hG S4 _ h5) ⟨wl_X5_111, wi_yX5_reads, wx_yX5_reads, wn_X5, wc_yX5_reads⟩ wy_yX5_reads (by decide) ⟨rfl, rfl⟩ rfl rfl (Nat.le_of_ble_eq_true rfl) dX5_text_17 rfl ?_
  refine rs_kw (F := fun K => xf_X5_text_l20 K rs_fu S6 0) (P := fun K => ∀ (S14 : rs_St) (x15 : Int32), K S14 x15 = some o → rs_Xi G 2 p l e (rs_rm 7) s m args below meth c o S14 44 [(0, .ref (rs_ad G 91)), (1, .int x15)] []) h (fun S14 x15 h => ?_) (fun K20 hK20 h => ?_)
  · refine rs_aload_n (i := 0) C dX5_text_44 rfl rfl rfl ?_
    refine rs_iconst (v := 0) C dX5_text_45 (by decide) rfl ?_
    refine rp_X5_6 C kk_91 wl_X5_65 dX5_text_46 rfl h (fun S16 h => ?_)
    refine rs_aload_n (i := 0) C dX5_text_49 rfl rfl rfl ?_
    refine rg_X5_11 C kk_91 wl_X5_69 dX5_text_50 rfl ?_
    refine rs_if_le (tgt := 64) C dX5_text_53 (by decide) rfl (fun z17 => ?_) (fun z17 => ?_)
    · replace h := rs_it z17 h
      refine rs_aload_n (i := 0) C dX5_text_64 rfl rfl rfl ?_
      obtain ⟨S19, h18, h⟩ := rs_b1e h
      refine rs_callVv (S0 := S19) C (rs_kd_lt kk_91 (by decide)) (rs_e5 kk_91) rfl (c_X5_keepDraft l G hG S16 _ h18) ⟨wl_X5_56, wi_yX5_keepDraft, wx_yX5_keepDraft, wn_X5, wc_yX5_keepDraft⟩ wy_yX5_keepDraft (by decide) ⟨rfl, rfl⟩ rfl rfl (Nat.le_of_ble_eq_true rfl) dX5_text_65 rfl ?_
      refine rs_iload_n (i := 1) C dX5_text_68 rfl rfl rfl ?_
      exact rs_iret C hr hlk h dX5_text_69
    · replace h := rs_if z17 h
      refine rs_bipush (v := (-10)) C dX5_text_56 (by decide) rfl ?_
      refine rs_aload_n (i := 0) C dX5_text_58 rfl rfl rfl ?_
      refine rg_X5_12 C kk_91 wl_X5_75 dX5_text_59 rfl ?_
      refine rs_isub C dX5_text_62 rfl ?_
      exact rs_iret C hr hlk h dX5_text_63
  · have L20 : ∀ (n20 : Nat) (S7 : rs_St) (x8 : Int32), xf_X5_text_l20 K20 n20 S7 x8 = some o → rs_Xi G 2 p l e (rs_rm 7) s m args below meth c o S7 20 [(0, .ref (rs_ad G 91)), (1, .int x8)] [] := by
      intro n20
      induction n20 with
      | zero => intro S7 x8 h; exact (rs_no h).elim
      | succ n20 ih20 =>
        intro S7 x8 h
        rw [xf_X5_text_l20] at h
        refine rs_aload_n (i := 0) C dX5_text_20 rfl rfl rfl ?_
        refine rg_X5_11 C kk_91 wl_X5_69 dX5_text_21 rfl ?_
        refine rs_if_ne (tgt := 44) C dX5_text_24 (by decide) rfl (fun z9 => ?_) (fun z9 => ?_)
        · replace h := rs_if z9 h
          exact rs_subk (hK20 _ _ h) (rs_ac rfl (rs_ac rfl rs_a0))
        · replace h := rs_it z9 h
          refine rs_aload_n (i := 0) C dX5_text_27 rfl rfl rfl ?_
          refine rg_X5_9 C kk_91 wl_X5_93 dX5_text_28 rfl ?_
          refine rs_if_eq (tgt := 44) C dX5_text_31 (by decide) rfl (fun z10 => ?_) (fun z10 => ?_)
          · replace h := rs_it z10 h
            exact rs_subk (hK20 _ _ h) (rs_ac rfl (rs_ac rfl rs_a0))
          · replace h := rs_if z10 h
            refine rs_aload_n (i := 0) C dX5_text_34 rfl rfl rfl ?_
            obtain ⟨S12, h11, h⟩ := rs_b1e h
            refine rs_callVv (S0 := S12) C (rs_kd_lt kk_91 (by decide)) (rs_e5 kk_91) rfl (c_X5_readLine l G hG S7 _ h11) ⟨wl_X5_138, wi_yX5_readLine, wx_yX5_readLine, wn_X5, wc_yX5_readLine⟩ wy_yX5_readLine (by decide) ⟨rfl, rfl⟩ rfl rfl (Nat.le_of_ble_eq_true rfl) dX5_text_35 rfl ?_
            refine rs_iincn (v := 1) C dX5_text_38 rfl (by decide) (by decide) rfl h (fun x13 h => ?_)
            refine rs_goto (tgt := 20) C dX5_text_41 (by decide) ?_
            exact rs_subk (ih20 _ _ h) (rs_ac rfl (rs_ac rfl rs_a0))
    exact rs_subk (L20 rs_fu _ _ h) (rs_ac rfl (rs_ac rfl rs_a0))
def xf_X5_fault (S : rs_St) : Option Int32 := some (rs_gi S 91 11)
set_option maxRecDepth 100000 in
theorem c_X5_fault (l : Launch) (G : rs_G) (hG : rs_ok G) (S : rs_St)  (o : Int32) (h : xf_X5_fault S = some o) : Met l yX5_fault (rs_wz yX5_fault cX5_fault 1 (some FieldType.int)) (rs_rm 2) (va_Pc [.ref (rs_ad G 91)] (rs_pre G S)) (va_Qi (fun r S2 => (r, S2) = (o, S)) (rs_post G) (rs_A G)) 0 0 (rs_A G) := by
  refine rs_met hG (by decide) (Nat.le_of_ble_eq_true rfl) ?_
  intro p e s m args below meth c C hr hlk
  rw [xf_X5_fault] at h
  refine rs_aload_n (i := 0) C dX5_fault_0 rfl rfl rfl ?_
  refine rg_X5_11 C kk_91 wl_X5_69 dX5_fault_1 rfl ?_
  exact rs_iret C hr hlk (rs_pr h) dX5_fault_4
def xf_X5_isLamp (S : rs_St) (a1 : Int32) : Option Int32 := rs_b1 (xf_X5_in S (a1.toInt64) 0 (((rs_gi S 92 16) - 1).toInt64)) (fun r2 => if r2 = 0 ∨ r2 = 1 then some r2 else none)
set_option maxRecDepth 100000 in
theorem c_X5_isLamp (l : Launch) (G : rs_G) (hG : rs_ok G) (S : rs_St) (a1 : Int32)  (o : Int32) (h : xf_X5_isLamp S a1 = some o) : Met l yX5_isLamp (rs_wz yX5_isLamp cX5_isLamp 2 (some FieldType.boolean)) (rs_rm 3) (va_Pc [.ref (rs_ad G 91), .int a1] (rs_pre G S)) (va_Qi (fun r S2 => (r, S2) = (o, S)) (rs_post G) (rs_A G)) 0 0 (rs_A G) := by
  refine rs_met hG (by decide) (Nat.le_of_ble_eq_true rfl) ?_
  intro p e s m args below meth c C hr hlk
  rw [xf_X5_isLamp] at h
  refine rs_iload_n (i := 1) C dX5_isLamp_0 rfl rfl rfl ?_
  refine rs_i2l C dX5_isLamp_1 rfl ?_
  refine rs_lconst (v := 0) C dX5_isLamp_2 (by decide) rfl ?_
  refine rs_aload_n (i := 0) C dX5_isLamp_3 rfl rfl rfl ?_
  refine rg_X5_0 C kk_91 wl_X5_7 dX5_isLamp_4 rfl ?_
  refine rs_bipush (v := 16) C dX5_isLamp_7 (by decide) rfl ?_
  refine rs_ialdc C kk_92 ll_92 16 (by decide) (by decide) dX5_isLamp_9 rfl ?_
  refine rs_iconst (v := 1) C dX5_isLamp_10 (by decide) rfl ?_
  refine rs_isub C dX5_isLamp_11 rfl ?_
  refine rs_i2l C dX5_isLamp_12 rfl ?_
  obtain ⟨r2, h1, h⟩ := rs_b1e h
  refine rs_callSi (r0 := r2) (S0 := S) C (c_X5_in l G hG S (a1.toInt64) 0 (((rs_gi S 92 16) - 1).toInt64) _ h1) ⟨wl_X5_61, ws_yX5_in, wn_X5, wc_yX5_in⟩ wy_yX5_in (by decide) ⟨rfl, rfl⟩ rfl rfl (Nat.le_of_ble_eq_true rfl) dX5_isLamp_13 rfl ?_
  obtain ⟨z3, h⟩ := rs_ckp h
  exact rs_zret C hr hlk z3 (rs_pr h) dX5_isLamp_16
def xf_X5_isRow (S : rs_St) (a1 : Int32) : Option Int32 := rs_b1 (xf_X5_in S (a1.toInt64) 0 7) (fun r2 => if r2 = 0 ∨ r2 = 1 then some r2 else none)
set_option maxRecDepth 100000 in
theorem c_X5_isRow (l : Launch) (G : rs_G) (hG : rs_ok G) (S : rs_St) (a1 : Int32)  (o : Int32) (h : xf_X5_isRow S a1 = some o) : Met l yX5_isRow (rs_wz yX5_isRow cX5_isRow 1 (some FieldType.boolean)) (rs_rm 3) (va_Pc [.int a1] (rs_pre G S)) (va_Qi (fun r S2 => (r, S2) = (o, S)) (rs_post G) (rs_A G)) 0 0 (rs_A G) := by
  refine rs_met hG (by decide) (Nat.le_of_ble_eq_true rfl) ?_
  intro p e s m args below meth c C hr hlk
  rw [xf_X5_isRow] at h
  refine rs_iload_n (i := 0) C dX5_isRow_0 rfl rfl rfl ?_
  refine rs_i2l C dX5_isRow_1 rfl ?_
  refine rs_lconst (v := 0) C dX5_isRow_2 (by decide) rfl ?_
  refine rs_ldc2 C dX5_isRow_3 wk_X5_141 rfl ?_
  obtain ⟨r2, h1, h⟩ := rs_b1e h
  refine rs_callSi (r0 := r2) (S0 := S) C (c_X5_in l G hG S (a1.toInt64) 0 7 _ h1) ⟨wl_X5_61, ws_yX5_in, wn_X5, wc_yX5_in⟩ wy_yX5_in (by decide) ⟨rfl, rfl⟩ rfl rfl (Nat.le_of_ble_eq_true rfl) dX5_isRow_6 rfl ?_
  obtain ⟨z3, h⟩ := rs_ckp h
  exact rs_zret C hr hlk z3 (rs_pr h) dX5_isRow_9
def xf_X5_isPart (S : rs_St) (a1 : Int32) : Option Int32 := rs_b1 (xf_X5_in S (a1.toInt64) 0 1) (fun r2 => if r2 = 0 ∨ r2 = 1 then some r2 else none)
set_option maxRecDepth 100000 in
theorem c_X5_isPart (l : Launch) (G : rs_G) (hG : rs_ok G) (S : rs_St) (a1 : Int32)  (o : Int32) (h : xf_X5_isPart S a1 = some o) : Met l yX5_isPart (rs_wz yX5_isPart cX5_isPart 1 (some FieldType.boolean)) (rs_rm 3) (va_Pc [.int a1] (rs_pre G S)) (va_Qi (fun r S2 => (r, S2) = (o, S)) (rs_post G) (rs_A G)) 0 0 (rs_A G) := by
  refine rs_met hG (by decide) (Nat.le_of_ble_eq_true rfl) ?_
  intro p e s m args below meth c C hr hlk
  rw [xf_X5_isPart] at h
  refine rs_iload_n (i := 0) C dX5_isPart_0 rfl rfl rfl ?_
  refine rs_i2l C dX5_isPart_1 rfl ?_
  refine rs_lconst (v := 0) C dX5_isPart_2 (by decide) rfl ?_
  refine rs_lconst (v := 1) C dX5_isPart_3 (by decide) rfl ?_
  obtain ⟨r2, h1, h⟩ := rs_b1e h
  refine rs_callSi (r0 := r2) (S0 := S) C (c_X5_in l G hG S (a1.toInt64) 0 1 _ h1) ⟨wl_X5_61, ws_yX5_in, wn_X5, wc_yX5_in⟩ wy_yX5_in (by decide) ⟨rfl, rfl⟩ rfl rfl (Nat.le_of_ble_eq_true rfl) dX5_isPart_4 rfl ?_
  obtain ⟨z3, h⟩ := rs_ckp h
  exact rs_zret C hr hlk z3 (rs_pr h) dX5_isPart_7
def xf_X5_starts_l2 (K2 : rs_St → Int32 → Option rs_St) : Nat → rs_St → Int32 → Option rs_St
  | 0, _, _ => none
  | n2 + 1, S1, x2 => if 51 ≤ x2 then K2 S1 x2 else if x2 < 0 ∨ 153 ≤ x2.toNatClampNeg then none else if x2 < 0 ∨ 51 ≤ x2.toNatClampNeg then none else rs_lt (rs_si S1 93 x2.toNatClampNeg (rs_gi S1 92 x2.toNatClampNeg)) (fun S5 => rs_lt (x2 + 1) (fun x7 => xf_X5_starts_l2 K2 n2 S5 x7))
def xf_X5_starts (S : rs_St) : Option rs_St := xf_X5_starts_l2 (fun (S8 : rs_St) (x9 : Int32) => rs_lt (rs_si S8 91 13 (-4)) (fun S10 => rs_lt (rs_si S10 91 14 0) (fun S11 => rs_lt (rs_si S11 91 15 0) (fun S12 => rs_lt (rs_si S12 91 16 (-4)) (fun S13 => rs_lt (rs_si S13 91 17 0) (fun S14 => rs_lt (rs_si S14 91 18 0) (fun S15 => some S15))))))) rs_fu S 0
set_option maxRecDepth 100000 in
theorem c_X5_starts (l : Launch) (G : rs_G) (hG : rs_ok G) (S : rs_St)  (o : rs_St) (h : xf_X5_starts S = some o) : Met l yX5_starts (rs_wz yX5_starts cX5_starts 2 none) (rs_rm 2) (va_Pc [.ref (rs_ad G 91)] (rs_pre G S)) (va_Qv (fun S2 => S2 = o) (rs_post G) (rs_A G)) 0 0 (rs_A G) := by
  refine rs_met hG (by decide) (Nat.le_of_ble_eq_true rfl) ?_
  intro p e s m args below meth c C hr hlk
  rw [xf_X5_starts] at h
  refine rs_iconst (v := 0) C dX5_starts_0 (by decide) rfl ?_
  refine rs_istore_n (i := 1) C dX5_starts_1 rfl (by decide) rfl ?_
  refine rs_kw (F := fun K => xf_X5_starts_l2 K rs_fu S 0) (P := fun K => ∀ (S8 : rs_St) (x9 : Int32), K S8 x9 = some o → rs_Xv G 2 p l e (rs_rm 2) s m args below meth c o S8 26 [(0, .ref (rs_ad G 91)), (1, .int x9)] []) h (fun S8 x9 h => ?_) (fun K2 hK2 h => ?_)
  · refine rs_aload_n (i := 0) C dX5_starts_26 rfl rfl rfl ?_
    refine rs_bipush (v := (-4)) C dX5_starts_27 (by decide) rfl ?_
    refine rp_X5_13 C kk_91 wl_X5_143 dX5_starts_29 rfl h (fun S10 h => ?_)
    refine rs_aload_n (i := 0) C dX5_starts_32 rfl rfl rfl ?_
    refine rs_iconst (v := 0) C dX5_starts_33 (by decide) rfl ?_
    refine rp_X5_14 C kk_91 wl_X5_146 (Or.inl rfl) dX5_starts_34 rfl h (fun S11 h => ?_)
    refine rs_aload_n (i := 0) C dX5_starts_37 rfl rfl rfl ?_
    refine rs_iconst (v := 0) C dX5_starts_38 (by decide) rfl ?_
    refine rp_X5_15 C kk_91 wl_X5_150 dX5_starts_39 rfl h (fun S12 h => ?_)
    refine rs_aload_n (i := 0) C dX5_starts_42 rfl rfl rfl ?_
    refine rs_bipush (v := (-4)) C dX5_starts_43 (by decide) rfl ?_
    refine rp_X5_16 C kk_91 wl_X5_153 dX5_starts_45 rfl h (fun S13 h => ?_)
    refine rs_aload_n (i := 0) C dX5_starts_48 rfl rfl rfl ?_
    refine rs_iconst (v := 0) C dX5_starts_49 (by decide) rfl ?_
    refine rp_X5_17 C kk_91 wl_X5_156 dX5_starts_50 rfl h (fun S14 h => ?_)
    refine rs_aload_n (i := 0) C dX5_starts_53 rfl rfl rfl ?_
    refine rs_iconst (v := 0) C dX5_starts_54 (by decide) rfl ?_
    refine rp_X5_18 C kk_91 wl_X5_159 dX5_starts_55 rfl h (fun S15 h => ?_)
    exact rs_vret C hr hlk h dX5_starts_58
  · have L2 : ∀ (n2 : Nat) (S1 : rs_St) (x2 : Int32), xf_X5_starts_l2 K2 n2 S1 x2 = some o → rs_Xv G 2 p l e (rs_rm 2) s m args below meth c o S1 2 [(0, .ref (rs_ad G 91)), (1, .int x2)] [] := by
      intro n2
      induction n2 with
      | zero => intro S1 x2 h; exact (rs_no h).elim
      | succ n2 ih2 =>
        intro S1 x2 h
        rw [xf_X5_starts_l2] at h
        refine rs_iload_n (i := 1) C dX5_starts_2 rfl rfl rfl ?_
        refine rs_bipush (v := 51) C dX5_starts_3 (by decide) rfl ?_
        refine rs_icmp_ge (tgt := 26) C dX5_starts_5 (by decide) rfl (fun z3 => ?_) (fun z3 => ?_)
        · replace h := rs_it z3 h
          exact rs_subk (hK2 _ _ h) (rs_ac rfl (rs_ac rfl rs_a0))
        · replace h := rs_if z3 h
          refine rs_aload_n (i := 0) C dX5_starts_8 rfl rfl rfl ?_
          refine rg_X5_1 C kk_91 wl_X5_13 dX5_starts_9 rfl ?_
          refine rs_iload_n (i := 1) C dX5_starts_12 rfl rfl rfl ?_
          refine rs_aload_n (i := 0) C dX5_starts_13 rfl rfl rfl ?_
          refine rg_X5_0 C kk_91 wl_X5_7 dX5_starts_14 rfl ?_
          refine rs_iload_n (i := 1) C dX5_starts_17 rfl rfl rfl ?_
          obtain ⟨z4, h⟩ := rs_ck h
          refine rs_ialdn C kk_92 ll_92 z4 dX5_starts_18 rfl ?_
          obtain ⟨z6, h⟩ := rs_ck h
          refine rs_iastn C kk_93 ll_93 z6 dX5_starts_19 rfl h (fun S5 h => ?_)
          refine rs_iincn (v := 1) C dX5_starts_20 rfl (by decide) (by decide) rfl h (fun x7 h => ?_)
          refine rs_goto (tgt := 2) C dX5_starts_23 (by decide) ?_
          exact rs_subk (ih2 _ _ h) (rs_ac rfl (rs_ac rfl rs_a0))
    exact rs_subk (L2 rs_fu _ _ h) (rs_ac rfl (rs_ac rfl rs_a0))
def xf_X5_settles_l2 (K2 : rs_St → Int32 → Option rs_St) : Nat → rs_St → Int32 → Option rs_St
  | 0, _, _ => none
  | n2 + 1, S1, x2 => if 51 ≤ x2 then K2 S1 x2 else if x2 < 0 ∨ 51 ≤ x2.toNatClampNeg then none else if x2 < 0 ∨ 153 ≤ x2.toNatClampNeg then none else rs_lt (rs_si S1 92 x2.toNatClampNeg (rs_gi S1 93 x2.toNatClampNeg)) (fun S5 => rs_lt (x2 + 1) (fun x7 => xf_X5_settles_l2 K2 n2 S5 x7))
def xf_X5_settles (S : rs_St) : Option rs_St := xf_X5_settles_l2 (fun (S8 : rs_St) (x9 : Int32) => some S8) rs_fu S 0
set_option maxRecDepth 100000 in
theorem c_X5_settles (l : Launch) (G : rs_G) (hG : rs_ok G) (S : rs_St)  (o : rs_St) (h : xf_X5_settles S = some o) : Met l yX5_settles (rs_wz yX5_settles cX5_settles 2 none) (rs_rm 2) (va_Pc [.ref (rs_ad G 91)] (rs_pre G S)) (va_Qv (fun S2 => S2 = o) (rs_post G) (rs_A G)) 0 0 (rs_A G) := by
  refine rs_met hG (by decide) (Nat.le_of_ble_eq_true rfl) ?_
  intro p e s m args below meth c C hr hlk
  rw [xf_X5_settles] at h
  refine rs_iconst (v := 0) C dX5_settles_0 (by decide) rfl ?_
  refine rs_istore_n (i := 1) C dX5_settles_1 rfl (by decide) rfl ?_
  refine rs_kw (F := fun K => xf_X5_settles_l2 K rs_fu S 0) (P := fun K => ∀ (S8 : rs_St) (x9 : Int32), K S8 x9 = some o → rs_Xv G 2 p l e (rs_rm 2) s m args below meth c o S8 26 [(0, .ref (rs_ad G 91)), (1, .int x9)] []) h (fun S8 x9 h => ?_) (fun K2 hK2 h => ?_)
  · exact rs_vret C hr hlk h dX5_settles_26
  · have L2 : ∀ (n2 : Nat) (S1 : rs_St) (x2 : Int32), xf_X5_settles_l2 K2 n2 S1 x2 = some o → rs_Xv G 2 p l e (rs_rm 2) s m args below meth c o S1 2 [(0, .ref (rs_ad G 91)), (1, .int x2)] [] := by
      intro n2
      induction n2 with
      | zero => intro S1 x2 h; exact (rs_no h).elim
      | succ n2 ih2 =>
        intro S1 x2 h
        rw [xf_X5_settles_l2] at h
        refine rs_iload_n (i := 1) C dX5_settles_2 rfl rfl rfl ?_
        refine rs_bipush (v := 51) C dX5_settles_3 (by decide) rfl ?_
        refine rs_icmp_ge (tgt := 26) C dX5_settles_5 (by decide) rfl (fun z3 => ?_) (fun z3 => ?_)
        · replace h := rs_it z3 h
          exact rs_subk (hK2 _ _ h) (rs_ac rfl (rs_ac rfl rs_a0))
        · replace h := rs_if z3 h
          refine rs_aload_n (i := 0) C dX5_settles_8 rfl rfl rfl ?_
          refine rg_X5_0 C kk_91 wl_X5_7 dX5_settles_9 rfl ?_
          refine rs_iload_n (i := 1) C dX5_settles_12 rfl rfl rfl ?_
          refine rs_aload_n (i := 0) C dX5_settles_13 rfl rfl rfl ?_
          refine rg_X5_1 C kk_91 wl_X5_13 dX5_settles_14 rfl ?_
          refine rs_iload_n (i := 1) C dX5_settles_17 rfl rfl rfl ?_
          obtain ⟨z4, h⟩ := rs_ck h
          refine rs_ialdn C kk_93 ll_93 z4 dX5_settles_18 rfl ?_
          obtain ⟨z6, h⟩ := rs_ck h
          refine rs_iastn C kk_92 ll_92 z6 dX5_settles_19 rfl h (fun S5 h => ?_)
          refine rs_iincn (v := 1) C dX5_settles_20 rfl (by decide) (by decide) rfl h (fun x7 h => ?_)
          refine rs_goto (tgt := 2) C dX5_settles_23 (by decide) ?_
          exact rs_subk (ih2 _ _ h) (rs_ac rfl (rs_ac rfl rs_a0))
    exact rs_subk (L2 rs_fu _ _ h) (rs_ac rfl (rs_ac rfl rs_a0))
def xf_X5_of (S : rs_St) (a1 : Int32) (a2 : Int32) : Option Int32 := if ((4 * a1) + a2) < 0 ∨ 51 ≤ ((4 * a1) + a2).toNatClampNeg then none else some (rs_gi S 93 ((4 * a1) + a2).toNatClampNeg)
set_option maxRecDepth 100000 in
theorem c_X5_of (l : Launch) (G : rs_G) (hG : rs_ok G) (S : rs_St) (a1 : Int32) (a2 : Int32)  (o : Int32) (h : xf_X5_of S a1 a2 = some o) : Met l yX5_of (rs_wz yX5_of cX5_of 3 (some FieldType.int)) (rs_rm 2) (va_Pc [.ref (rs_ad G 91), .int a1, .int a2] (rs_pre G S)) (va_Qi (fun r S2 => (r, S2) = (o, S)) (rs_post G) (rs_A G)) 0 0 (rs_A G) := by
  refine rs_met hG (by decide) (Nat.le_of_ble_eq_true rfl) ?_
  intro p e s m args below meth c C hr hlk
  rw [xf_X5_of] at h
  refine rs_aload_n (i := 0) C dX5_of_0 rfl rfl rfl ?_
  refine rg_X5_1 C kk_91 wl_X5_13 dX5_of_1 rfl ?_
  refine rs_iconst (v := 4) C dX5_of_4 (by decide) rfl ?_
  refine rs_iload_n (i := 1) C dX5_of_5 rfl rfl rfl ?_
  refine rs_imul C dX5_of_6 rfl ?_
  refine rs_iload_n (i := 2) C dX5_of_7 rfl rfl rfl ?_
  refine rs_iadd C dX5_of_8 rfl ?_
  obtain ⟨z1, h⟩ := rs_ck h
  refine rs_ialdn C kk_93 ll_93 z1 dX5_of_9 rfl ?_
  exact rs_iret C hr hlk (rs_pr h) dX5_of_10
def xf_X5_gives (S : rs_St) (a1 : Int32) (a2 : Int32) : Option Int32 := rs_b1 (xf_X5_of S a1 3) (fun r2 => rs_b1 (xf_X5_of S a1 2) (fun r4 => if r4 = 0 then none else rs_lt ((a2 + r2) - (a2 + r2) / r4 * r4) (fun x6 => rs_b1 (xf_X5_of S a1 2) (fun r8 => rs_jn (fun (x9 : Int32) => rs_b1 (xf_X5_of S a1 0) (fun r12 => if r12 = 1 then if x9 = 0 then some 0 else rs_b1 (xf_X5_of S a1 1) (fun r17 => some r17) else if r12 = 2 then rs_b1 (xf_X5_of S a1 1) (fun r20 => rs_b1 (xf_X5_of S a1 2) (fun r22 => if r22 = 0 then none else some ((r20 * x6) / r22))) else if r12 = 3 then if x9 = 0 then rs_b1 (xf_X5_of S a1 1) (fun r27 => some (r27 / 2)) else rs_b1 (xf_X5_of S a1 1) (fun r29 => some r29) else rs_b1 (xf_X5_of S a1 1) (fun r31 => some r31))) (fun J10 => if r8 ≤ (2 * x6) then J10 0 else J10 1)))))
set_option maxRecDepth 100000 in
theorem c_X5_gives (l : Launch) (G : rs_G) (hG : rs_ok G) (S : rs_St) (a1 : Int32) (a2 : Int32)  (o : Int32) (h : xf_X5_gives S a1 a2 = some o) : Met l yX5_gives (rs_wz yX5_gives cX5_gives 5 (some FieldType.int)) (rs_rm 3) (va_Pc [.ref (rs_ad G 91), .int a1, .int a2] (rs_pre G S)) (va_Qi (fun r S2 => (r, S2) = (o, S)) (rs_post G) (rs_A G)) 0 0 (rs_A G) := by
  refine rs_met hG (by decide) (Nat.le_of_ble_eq_true rfl) ?_
  intro p e s m args below meth c C hr hlk
  rw [xf_X5_gives] at h
  refine rs_iload_n (i := 2) C dX5_gives_0 rfl rfl rfl ?_
  refine rs_aload_n (i := 0) C dX5_gives_1 rfl rfl rfl ?_
  refine rs_iload_n (i := 1) C dX5_gives_2 rfl rfl rfl ?_
  refine rs_iconst (v := 3) C dX5_gives_3 (by decide) rfl ?_
  obtain ⟨r2, h1, h⟩ := rs_b1e h
  refine rs_callVi (r0 := r2) (S0 := S) C (rs_kd_lt kk_91 (by decide)) (rs_e5 kk_91) rfl (c_X5_of l G hG S a1 3 _ h1) ⟨wl_X5_162, wi_yX5_of, wx_yX5_of, wn_X5, wc_yX5_of⟩ wy_yX5_of (by decide) ⟨rfl, rfl⟩ rfl rfl (Nat.le_of_ble_eq_true rfl) dX5_gives_4 rfl ?_
  refine rs_iadd C dX5_gives_7 rfl ?_
  refine rs_aload_n (i := 0) C dX5_gives_8 rfl rfl rfl ?_
  refine rs_iload_n (i := 1) C dX5_gives_9 rfl rfl rfl ?_
  refine rs_iconst (v := 2) C dX5_gives_10 (by decide) rfl ?_
  obtain ⟨r4, h3, h⟩ := rs_b1e h
  refine rs_callVi (r0 := r4) (S0 := S) C (rs_kd_lt kk_91 (by decide)) (rs_e5 kk_91) rfl (c_X5_of l G hG S a1 2 _ h3) ⟨wl_X5_162, wi_yX5_of, wx_yX5_of, wn_X5, wc_yX5_of⟩ wy_yX5_of (by decide) ⟨rfl, rfl⟩ rfl rfl (Nat.le_of_ble_eq_true rfl) dX5_gives_11 rfl ?_
  obtain ⟨z5, h⟩ := rs_ck h
  refine rs_irem C dX5_gives_14 z5 rfl ?_
  refine rs_nmi h (fun x6 h => ?_)
  refine rs_istore_n (i := 3) C dX5_gives_15 rfl (by decide) rfl ?_
  refine rs_iconst (v := 2) C dX5_gives_16 (by decide) rfl ?_
  refine rs_iload_n (i := 3) C dX5_gives_17 rfl rfl rfl ?_
  refine rs_imul C dX5_gives_18 rfl ?_
  refine rs_aload_n (i := 0) C dX5_gives_19 rfl rfl rfl ?_
  refine rs_iload_n (i := 1) C dX5_gives_20 rfl rfl rfl ?_
  refine rs_iconst (v := 2) C dX5_gives_21 (by decide) rfl ?_
  obtain ⟨r8, h7, h⟩ := rs_b1e h
  refine rs_callVi (r0 := r8) (S0 := S) C (rs_kd_lt kk_91 (by decide)) (rs_e5 kk_91) rfl (c_X5_of l G hG S a1 2 _ h7) ⟨wl_X5_162, wi_yX5_of, wx_yX5_of, wn_X5, wc_yX5_of⟩ wy_yX5_of (by decide) ⟨rfl, rfl⟩ rfl rfl (Nat.le_of_ble_eq_true rfl) dX5_gives_22 rfl ?_
  refine rs_jw (P := fun J => ∀ (x9 : Int32), J x9 = some o → rs_Xi G 5 p l e (rs_rm 3) s m args below meth c (o, S) S 33 [(0, .ref (rs_ad G 91)), (1, .int a1), (2, .int a2), (3, .int x6)] [.int x9]) h (fun x9 h => ?_) (fun J10 KJ10 h => ?_)
  · refine rs_istore C dX5_gives_33 (by decide) rfl ?_
    refine rs_aload_n (i := 0) C dX5_gives_35 rfl rfl rfl ?_
    refine rs_iload_n (i := 1) C dX5_gives_36 rfl rfl rfl ?_
    refine rs_iconst (v := 0) C dX5_gives_37 (by decide) rfl ?_
    obtain ⟨r12, h11, h⟩ := rs_b1e h
    refine rs_callVi (r0 := r12) (S0 := S) C (rs_kd_lt kk_91 (by decide)) (rs_e5 kk_91) rfl (c_X5_of l G hG S a1 0 _ h11) ⟨wl_X5_162, wi_yX5_of, wx_yX5_of, wn_X5, wc_yX5_of⟩ wy_yX5_of (by decide) ⟨rfl, rfl⟩ rfl rfl (Nat.le_of_ble_eq_true rfl) dX5_gives_38 rfl ?_
    by_cases z14 : r12 = 1
    · replace h := rs_it z14 h
      refine rs_tabIn (tgt := 68) C (27) dX5_gives_41 1 z14 (by decide) (by decide) rfl (by decide) ?_
      refine rs_iload C dX5_gives_68 rfl rfl ?_
      refine rs_if_eq (tgt := 82) C dX5_gives_70 (by decide) rfl (fun z15 => ?_) (fun z15 => ?_)
      · replace h := rs_it z15 h
        refine rs_iconst (v := 0) C dX5_gives_82 (by decide) rfl ?_
        exact rs_iret C hr hlk (rs_pr h) dX5_gives_83
      · replace h := rs_if z15 h
        refine rs_aload_n (i := 0) C dX5_gives_73 rfl rfl rfl ?_
        refine rs_iload_n (i := 1) C dX5_gives_74 rfl rfl rfl ?_
        refine rs_iconst (v := 1) C dX5_gives_75 (by decide) rfl ?_
        obtain ⟨r17, h16, h⟩ := rs_b1e h
        refine rs_callVi (r0 := r17) (S0 := S) C (rs_kd_lt kk_91 (by decide)) (rs_e5 kk_91) rfl (c_X5_of l G hG S a1 1 _ h16) ⟨wl_X5_162, wi_yX5_of, wx_yX5_of, wn_X5, wc_yX5_of⟩ wy_yX5_of (by decide) ⟨rfl, rfl⟩ rfl rfl (Nat.le_of_ble_eq_true rfl) dX5_gives_76 rfl ?_
        refine rs_goto (tgt := 83) C dX5_gives_79 (by decide) ?_
        exact rs_iret C hr hlk (rs_pr h) dX5_gives_83
    · replace h := rs_if z14 h
      by_cases z18 : r12 = 2
      · replace h := rs_it z18 h
        refine rs_tabIn (tgt := 84) C (43) dX5_gives_41 2 z18 (by decide) (by decide) rfl (by decide) ?_
        refine rs_aload_n (i := 0) C dX5_gives_84 rfl rfl rfl ?_
        refine rs_iload_n (i := 1) C dX5_gives_85 rfl rfl rfl ?_
        refine rs_iconst (v := 1) C dX5_gives_86 (by decide) rfl ?_
        obtain ⟨r20, h19, h⟩ := rs_b1e h
        refine rs_callVi (r0 := r20) (S0 := S) C (rs_kd_lt kk_91 (by decide)) (rs_e5 kk_91) rfl (c_X5_of l G hG S a1 1 _ h19) ⟨wl_X5_162, wi_yX5_of, wx_yX5_of, wn_X5, wc_yX5_of⟩ wy_yX5_of (by decide) ⟨rfl, rfl⟩ rfl rfl (Nat.le_of_ble_eq_true rfl) dX5_gives_87 rfl ?_
        refine rs_iload_n (i := 3) C dX5_gives_90 rfl rfl rfl ?_
        refine rs_imul C dX5_gives_91 rfl ?_
        refine rs_aload_n (i := 0) C dX5_gives_92 rfl rfl rfl ?_
        refine rs_iload_n (i := 1) C dX5_gives_93 rfl rfl rfl ?_
        refine rs_iconst (v := 2) C dX5_gives_94 (by decide) rfl ?_
        obtain ⟨r22, h21, h⟩ := rs_b1e h
        refine rs_callVi (r0 := r22) (S0 := S) C (rs_kd_lt kk_91 (by decide)) (rs_e5 kk_91) rfl (c_X5_of l G hG S a1 2 _ h21) ⟨wl_X5_162, wi_yX5_of, wx_yX5_of, wn_X5, wc_yX5_of⟩ wy_yX5_of (by decide) ⟨rfl, rfl⟩ rfl rfl (Nat.le_of_ble_eq_true rfl) dX5_gives_95 rfl ?_
        obtain ⟨z23, h⟩ := rs_ck h
        refine rs_idiv C dX5_gives_98 z23 rfl ?_
        exact rs_iret C hr hlk (rs_pr h) dX5_gives_99
      · replace h := rs_if z18 h
        by_cases z24 : r12 = 3
        · replace h := rs_it z24 h
          refine rs_tabIn (tgt := 100) C (59) dX5_gives_41 3 z24 (by decide) (by decide) rfl (by decide) ?_
          refine rs_iload C dX5_gives_100 rfl rfl ?_
          refine rs_if_eq (tgt := 114) C dX5_gives_102 (by decide) rfl (fun z25 => ?_) (fun z25 => ?_)
          · replace h := rs_it z25 h
            refine rs_aload_n (i := 0) C dX5_gives_114 rfl rfl rfl ?_
            refine rs_iload_n (i := 1) C dX5_gives_115 rfl rfl rfl ?_
            refine rs_iconst (v := 1) C dX5_gives_116 (by decide) rfl ?_
            obtain ⟨r27, h26, h⟩ := rs_b1e h
            refine rs_callVi (r0 := r27) (S0 := S) C (rs_kd_lt kk_91 (by decide)) (rs_e5 kk_91) rfl (c_X5_of l G hG S a1 1 _ h26) ⟨wl_X5_162, wi_yX5_of, wx_yX5_of, wn_X5, wc_yX5_of⟩ wy_yX5_of (by decide) ⟨rfl, rfl⟩ rfl rfl (Nat.le_of_ble_eq_true rfl) dX5_gives_117 rfl ?_
            refine rs_iconst (v := 2) C dX5_gives_120 (by decide) rfl ?_
            refine rs_idiv C dX5_gives_121 (by decide) rfl ?_
            exact rs_iret C hr hlk (rs_pr h) dX5_gives_122
          · replace h := rs_if z25 h
            refine rs_aload_n (i := 0) C dX5_gives_105 rfl rfl rfl ?_
            refine rs_iload_n (i := 1) C dX5_gives_106 rfl rfl rfl ?_
            refine rs_iconst (v := 1) C dX5_gives_107 (by decide) rfl ?_
            obtain ⟨r29, h28, h⟩ := rs_b1e h
            refine rs_callVi (r0 := r29) (S0 := S) C (rs_kd_lt kk_91 (by decide)) (rs_e5 kk_91) rfl (c_X5_of l G hG S a1 1 _ h28) ⟨wl_X5_162, wi_yX5_of, wx_yX5_of, wn_X5, wc_yX5_of⟩ wy_yX5_of (by decide) ⟨rfl, rfl⟩ rfl rfl (Nat.le_of_ble_eq_true rfl) dX5_gives_108 rfl ?_
            refine rs_goto (tgt := 122) C dX5_gives_111 (by decide) ?_
            exact rs_iret C hr hlk (rs_pr h) dX5_gives_122
        · replace h := rs_if z24 h
          refine rs_tabOut (tgt := 123) C dX5_gives_41 (by have e0 := rs_nev z14 (1) (by decide); have e1 := rs_nev z18 (2) (by decide); have e2 := rs_nev z24 (3) (by decide); omega) (by decide) ?_
          refine rs_aload_n (i := 0) C dX5_gives_123 rfl rfl rfl ?_
          refine rs_iload_n (i := 1) C dX5_gives_124 rfl rfl rfl ?_
          refine rs_iconst (v := 1) C dX5_gives_125 (by decide) rfl ?_
          obtain ⟨r31, h30, h⟩ := rs_b1e h
          refine rs_callVi (r0 := r31) (S0 := S) C (rs_kd_lt kk_91 (by decide)) (rs_e5 kk_91) rfl (c_X5_of l G hG S a1 1 _ h30) ⟨wl_X5_162, wi_yX5_of, wx_yX5_of, wn_X5, wc_yX5_of⟩ wy_yX5_of (by decide) ⟨rfl, rfl⟩ rfl rfl (Nat.le_of_ble_eq_true rfl) dX5_gives_126 rfl ?_
          exact rs_iret C hr hlk (rs_pr h) dX5_gives_129
  · refine rs_icmp_ge (tgt := 32) C dX5_gives_25 (by decide) rfl (fun z32 => ?_) (fun z32 => ?_)
    · replace h := rs_it z32 h
      refine rs_iconst (v := 0) C dX5_gives_32 (by decide) rfl ?_
      exact rs_subk (KJ10 _ h) (rs_ac rfl (rs_ac rfl (rs_ac rfl (rs_ac rfl rs_a0))))
    · replace h := rs_if z32 h
      refine rs_iconst (v := 1) C dX5_gives_28 (by decide) rfl ?_
      refine rs_goto (tgt := 33) C dX5_gives_29 (by decide) ?_
      exact rs_subk (KJ10 _ h) (rs_ac rfl (rs_ac rfl (rs_ac rfl (rs_ac rfl rs_a0))))
def xf_X5_shine_l4 (S : rs_St) (a1 : Int32) (K4 : Int32 → Int32 → Option Int32) : Nat → Int32 → Int32 → Option Int32
  | 0, _, _ => none
  | n4 + 1, x1, x2 => if (rs_gi S 93 16) ≤ x2 then K4 x1 x2 else rs_jn (fun (x4 : Int32) => rs_jn (fun (x6 : Int32) => rs_lt (x1 + x6) (fun x8 => rs_lt (x2 + 1) (fun x9 => xf_X5_shine_l4 S a1 K4 n4 x8 x9))) (fun J7 => if x4 = 0 then J7 0 else rs_b1 (xf_X5_gives S x2 a1) (fun r12 => J7 r12))) (fun J5 => if x2 = (rs_gi S 91 13) then J5 0 else rs_jn (J5 1) (fun J14 => if (rs_gi S 91 14) = 0 then J14 else rs_b1 (xf_X5_of S x2 0) (fun r17 => if r17 = 0 then J14 else J5 0)))
def xf_X5_shine (S : rs_St) (a1 : Int32) : Option Int32 := xf_X5_shine_l4 S a1 (fun (x19 : Int32) (x20 : Int32) => some x19) rs_fu 0 0
set_option maxRecDepth 100000 in
theorem c_X5_shine (l : Launch) (G : rs_G) (hG : rs_ok G) (S : rs_St) (a1 : Int32)  (o : Int32) (h : xf_X5_shine S a1 = some o) : Met l yX5_shine (rs_wz yX5_shine cX5_shine 5 (some FieldType.int)) (rs_rm 4) (va_Pc [.ref (rs_ad G 91), .int a1] (rs_pre G S)) (va_Qi (fun r S2 => (r, S2) = (o, S)) (rs_post G) (rs_A G)) 0 0 (rs_A G) := by
  refine rs_met hG (by decide) (Nat.le_of_ble_eq_true rfl) ?_
  intro p e s m args below meth c C hr hlk
  rw [xf_X5_shine] at h
  refine rs_iconst (v := 0) C dX5_shine_0 (by decide) rfl ?_
  refine rs_istore_n (i := 2) C dX5_shine_1 rfl (by decide) rfl ?_
  refine rs_iconst (v := 0) C dX5_shine_2 (by decide) rfl ?_
  refine rs_istore_n (i := 3) C dX5_shine_3 rfl (by decide) rfl ?_
  refine rs_kw (F := fun K => xf_X5_shine_l4 S a1 K rs_fu 0 0) (P := fun K => ∀ (x19 : Int32) (x20 : Int32), K x19 x20 = some o → rs_Xi G 5 p l e (rs_rm 4) s m args below meth c (o, S) S 70 [(0, .ref (rs_ad G 91)), (1, .int a1), (2, .int x19), (3, .int x20)] []) h (fun x19 x20 h => ?_) (fun K4 hK4 h => ?_)
  · refine rs_iload_n (i := 2) C dX5_shine_70 rfl rfl rfl ?_
    exact rs_iret C hr hlk (rs_pr h) dX5_shine_71
  · have L4 : ∀ (n4 : Nat) (x1 : Int32) (x2 : Int32), xf_X5_shine_l4 S a1 K4 n4 x1 x2 = some o → rs_Xi G 5 p l e (rs_rm 4) s m args below meth c (o, S) S 4 [(0, .ref (rs_ad G 91)), (1, .int a1), (2, .int x1), (3, .int x2)] [] := by
      intro n4
      induction n4 with
      | zero => intro x1 x2 h; exact (rs_no h).elim
      | succ n4 ih4 =>
        intro x1 x2 h
        rw [xf_X5_shine_l4] at h
        refine rs_iload_n (i := 3) C dX5_shine_4 rfl rfl rfl ?_
        refine rs_aload_n (i := 0) C dX5_shine_5 rfl rfl rfl ?_
        refine rg_X5_1 C kk_91 wl_X5_13 dX5_shine_6 rfl ?_
        refine rs_bipush (v := 16) C dX5_shine_9 (by decide) rfl ?_
        refine rs_ialdc C kk_93 ll_93 16 (by decide) (by decide) dX5_shine_11 rfl ?_
        refine rs_icmp_ge (tgt := 70) C dX5_shine_12 (by decide) rfl (fun z3 => ?_) (fun z3 => ?_)
        · replace h := rs_it z3 h
          exact rs_subk (hK4 _ _ h) (rs_ac rfl (rs_ac rfl (rs_ac rfl (rs_ac rfl rs_a0))))
        · replace h := rs_if z3 h
          refine rs_iload_n (i := 3) C dX5_shine_15 rfl rfl rfl ?_
          refine rs_aload_n (i := 0) C dX5_shine_16 rfl rfl rfl ?_
          refine rg_X5_13 C kk_91 wl_X5_143 dX5_shine_17 rfl ?_
          refine rs_jw (P := fun J => ∀ (x4 : Int32), J x4 = some o → rs_Xi G 5 p l e (rs_rm 4) s m args below meth c (o, S) S 44 [(0, .ref (rs_ad G 91)), (1, .int a1), (2, .int x1), (3, .int x2)] [.int x4]) h (fun x4 h => ?_) (fun J5 KJ5 h => ?_)
          · refine rs_istore C dX5_shine_44 (by decide) rfl ?_
            refine rs_iload_n (i := 2) C dX5_shine_46 rfl rfl rfl ?_
            refine rs_iload C dX5_shine_47 rfl rfl ?_
            refine rs_jw (P := fun J => ∀ (x6 : Int32), J x6 = some o → rs_Xi G 5 p l e (rs_rm 4) s m args below meth c (o, S) S 62 [(0, .ref (rs_ad G 91)), (1, .int a1), (2, .int x1), (3, .int x2), (4, .int x4)] [.int x6, .int x1]) h (fun x6 h => ?_) (fun J7 KJ7 h => ?_)
            · refine rs_iadd C dX5_shine_62 rfl ?_
              refine rs_nmi h (fun x8 h => ?_)
              refine rs_istore_n (i := 2) C dX5_shine_63 rfl (by decide) rfl ?_
              refine rs_iincn (v := 1) C dX5_shine_64 rfl (by decide) (by decide) rfl h (fun x9 h => ?_)
              refine rs_goto (tgt := 4) C dX5_shine_67 (by decide) ?_
              exact rs_subk (ih4 _ _ h) (rs_ac rfl (rs_ac rfl (rs_ac rfl (rs_ac rfl rs_a0))))
            · refine rs_if_eq (tgt := 61) C dX5_shine_49 (by decide) rfl (fun z10 => ?_) (fun z10 => ?_)
              · replace h := rs_it z10 h
                refine rs_iconst (v := 0) C dX5_shine_61 (by decide) rfl ?_
                exact rs_subk (KJ7 _ h) (rs_ac rfl (rs_ac rfl (rs_ac rfl (rs_ac rfl (rs_ac rfl rs_a0)))))
              · replace h := rs_if z10 h
                refine rs_aload_n (i := 0) C dX5_shine_52 rfl rfl rfl ?_
                refine rs_iload_n (i := 3) C dX5_shine_53 rfl rfl rfl ?_
                refine rs_iload_n (i := 1) C dX5_shine_54 rfl rfl rfl ?_
                obtain ⟨r12, h11, h⟩ := rs_b1e h
                refine rs_callVi (r0 := r12) (S0 := S) C (rs_kd_lt kk_91 (by decide)) (rs_e5 kk_91) rfl (c_X5_gives l G hG S x2 a1 _ h11) ⟨wl_X5_165, wi_yX5_gives, wx_yX5_gives, wn_X5, wc_yX5_gives⟩ wy_yX5_gives (by decide) ⟨rfl, rfl⟩ rfl rfl (Nat.le_of_ble_eq_true rfl) dX5_shine_55 rfl ?_
                refine rs_goto (tgt := 62) C dX5_shine_58 (by decide) ?_
                exact rs_subk (KJ7 _ h) (rs_ac rfl (rs_ac rfl (rs_ac rfl (rs_ac rfl (rs_ac rfl rs_a0)))))
          · refine rs_icmp_eq (tgt := 43) C dX5_shine_20 (by decide) rfl (fun z13 => ?_) (fun z13 => ?_)
            · replace h := rs_it z13 h
              refine rs_iconst (v := 0) C dX5_shine_43 (by decide) rfl ?_
              exact rs_subk (KJ5 _ h) (rs_ac rfl (rs_ac rfl (rs_ac rfl (rs_ac rfl rs_a0))))
            · replace h := rs_if z13 h
              refine rs_aload_n (i := 0) C dX5_shine_23 rfl rfl rfl ?_
              refine rg_X5_14 C kk_91 wl_X5_146 dX5_shine_24 rfl ?_
              refine rs_jw (P := fun J => J = some o → rs_Xi G 5 p l e (rs_rm 4) s m args below meth c (o, S) S 39 [(0, .ref (rs_ad G 91)), (1, .int a1), (2, .int x1), (3, .int x2)] []) h (fun  h => ?_) (fun J14 KJ14 h => ?_)
              · refine rs_iconst (v := 1) C dX5_shine_39 (by decide) rfl ?_
                refine rs_goto (tgt := 44) C dX5_shine_40 (by decide) ?_
                exact rs_subk (KJ5 _ h) (rs_ac rfl (rs_ac rfl (rs_ac rfl (rs_ac rfl rs_a0))))
              · refine rs_if_eq (tgt := 39) C dX5_shine_27 (by decide) rfl (fun z15 => ?_) (fun z15 => ?_)
                · replace h := rs_it z15 h
                  exact rs_subk (KJ14 h) (rs_ac rfl (rs_ac rfl (rs_ac rfl (rs_ac rfl rs_a0))))
                · replace h := rs_if z15 h
                  refine rs_aload_n (i := 0) C dX5_shine_30 rfl rfl rfl ?_
                  refine rs_iload_n (i := 3) C dX5_shine_31 rfl rfl rfl ?_
                  refine rs_iconst (v := 0) C dX5_shine_32 (by decide) rfl ?_
                  obtain ⟨r17, h16, h⟩ := rs_b1e h
                  refine rs_callVi (r0 := r17) (S0 := S) C (rs_kd_lt kk_91 (by decide)) (rs_e5 kk_91) rfl (c_X5_of l G hG S x2 0 _ h16) ⟨wl_X5_162, wi_yX5_of, wx_yX5_of, wn_X5, wc_yX5_of⟩ wy_yX5_of (by decide) ⟨rfl, rfl⟩ rfl rfl (Nat.le_of_ble_eq_true rfl) dX5_shine_33 rfl ?_
                  refine rs_if_ne (tgt := 43) C dX5_shine_36 (by decide) rfl (fun z18 => ?_) (fun z18 => ?_)
                  · replace h := rs_if z18 h
                    refine rs_iconst (v := 0) C dX5_shine_43 (by decide) rfl ?_
                    exact rs_subk (KJ5 _ h) (rs_ac rfl (rs_ac rfl (rs_ac rfl (rs_ac rfl rs_a0))))
                  · replace h := rs_it z18 h
                    exact rs_subk (KJ14 h) (rs_ac rfl (rs_ac rfl (rs_ac rfl (rs_ac rfl rs_a0))))
    exact rs_subk (L4 rs_fu _ _ h) (rs_ac rfl (rs_ac rfl (rs_ac rfl (rs_ac rfl rs_a0))))
def xf_X5_rowAt_l23 (S : rs_St) (x1 : Int32) (K23 : Int32 → Int32 → Option Int32) : Nat → Int32 → Int32 → Option Int32
  | 0, _, _ => none
  | n23 + 1, x2, x3 => if (rs_gi S 93 19) ≤ x3 then K23 x2 x3 else rs_b1 (xf_X5_shine S (x1 + x3)) (fun r6 => rs_lt (x2 + r6) (fun x7 => rs_lt (x3 + 1) (fun x8 => xf_X5_rowAt_l23 S x1 K23 n23 x7 x8)))
def xf_X5_rowAt (S : rs_St) (a1 : Int32) : Option Int32 := rs_lt ((rs_gi S 93 21) + ((rs_gi S 93 18) * a1)) (fun x1 => xf_X5_rowAt_l23 S x1 (fun (x9 : Int32) (x10 : Int32) => if x9 ≤ 255 then some x9 else some 255) rs_fu 0 0)
set_option maxRecDepth 100000 in
theorem c_X5_rowAt (l : Launch) (G : rs_G) (hG : rs_ok G) (S : rs_St) (a1 : Int32)  (o : Int32) (h : xf_X5_rowAt S a1 = some o) : Met l yX5_rowAt (rs_wz yX5_rowAt cX5_rowAt 5 (some FieldType.int)) (rs_rm 5) (va_Pc [.ref (rs_ad G 91), .int a1] (rs_pre G S)) (va_Qi (fun r S2 => (r, S2) = (o, S)) (rs_post G) (rs_A G)) 0 0 (rs_A G) := by
  refine rs_met hG (by decide) (Nat.le_of_ble_eq_true rfl) ?_
  intro p e s m args below meth c C hr hlk
  rw [xf_X5_rowAt] at h
  refine rs_iconst (v := 0) C dX5_rowAt_0 (by decide) rfl ?_
  refine rs_istore_n (i := 2) C dX5_rowAt_1 rfl (by decide) rfl ?_
  refine rs_aload_n (i := 0) C dX5_rowAt_2 rfl rfl rfl ?_
  refine rg_X5_1 C kk_91 wl_X5_13 dX5_rowAt_3 rfl ?_
  refine rs_bipush (v := 21) C dX5_rowAt_6 (by decide) rfl ?_
  refine rs_ialdc C kk_93 ll_93 21 (by decide) (by decide) dX5_rowAt_8 rfl ?_
  refine rs_aload_n (i := 0) C dX5_rowAt_9 rfl rfl rfl ?_
  refine rg_X5_1 C kk_91 wl_X5_13 dX5_rowAt_10 rfl ?_
  refine rs_bipush (v := 18) C dX5_rowAt_13 (by decide) rfl ?_
  refine rs_ialdc C kk_93 ll_93 18 (by decide) (by decide) dX5_rowAt_15 rfl ?_
  refine rs_iload_n (i := 1) C dX5_rowAt_16 rfl rfl rfl ?_
  refine rs_imul C dX5_rowAt_17 rfl ?_
  refine rs_iadd C dX5_rowAt_18 rfl ?_
  refine rs_nmi h (fun x1 h => ?_)
  refine rs_istore_n (i := 3) C dX5_rowAt_19 rfl (by decide) rfl ?_
  refine rs_iconst (v := 0) C dX5_rowAt_20 (by decide) rfl ?_
  refine rs_istore C dX5_rowAt_21 (by decide) rfl ?_
  refine rs_kw (F := fun K => xf_X5_rowAt_l23 S x1 K rs_fu 0 0) (P := fun K => ∀ (x9 : Int32) (x10 : Int32), K x9 x10 = some o → rs_Xi G 5 p l e (rs_rm 5) s m args below meth c (o, S) S 52 [(0, .ref (rs_ad G 91)), (1, .int a1), (2, .int x9), (3, .int x1), (4, .int x10)] []) h (fun x9 x10 h => ?_) (fun K23 hK23 h => ?_)
  · refine rs_iload_n (i := 2) C dX5_rowAt_52 rfl rfl rfl ?_
    refine rs_sipush (v := 255) C dX5_rowAt_53 (by decide) rfl ?_
    refine rs_icmp_le (tgt := 65) C dX5_rowAt_56 (by decide) rfl (fun z11 => ?_) (fun z11 => ?_)
    · replace h := rs_it z11 h
      refine rs_iload_n (i := 2) C dX5_rowAt_65 rfl rfl rfl ?_
      exact rs_iret C hr hlk (rs_pr h) dX5_rowAt_66
    · replace h := rs_if z11 h
      refine rs_sipush (v := 255) C dX5_rowAt_59 (by decide) rfl ?_
      refine rs_goto (tgt := 66) C dX5_rowAt_62 (by decide) ?_
      exact rs_iret C hr hlk (rs_pr h) dX5_rowAt_66
  · have L23 : ∀ (n23 : Nat) (x2 : Int32) (x3 : Int32), xf_X5_rowAt_l23 S x1 K23 n23 x2 x3 = some o → rs_Xi G 5 p l e (rs_rm 5) s m args below meth c (o, S) S 23 [(0, .ref (rs_ad G 91)), (1, .int a1), (2, .int x2), (3, .int x1), (4, .int x3)] [] := by
      intro n23
      induction n23 with
      | zero => intro x2 x3 h; exact (rs_no h).elim
      | succ n23 ih23 =>
        intro x2 x3 h
        rw [xf_X5_rowAt_l23] at h
        refine rs_iload C dX5_rowAt_23 rfl rfl ?_
        refine rs_aload_n (i := 0) C dX5_rowAt_25 rfl rfl rfl ?_
        refine rg_X5_1 C kk_91 wl_X5_13 dX5_rowAt_26 rfl ?_
        refine rs_bipush (v := 19) C dX5_rowAt_29 (by decide) rfl ?_
        refine rs_ialdc C kk_93 ll_93 19 (by decide) (by decide) dX5_rowAt_31 rfl ?_
        refine rs_icmp_ge (tgt := 52) C dX5_rowAt_32 (by decide) rfl (fun z4 => ?_) (fun z4 => ?_)
        · replace h := rs_it z4 h
          exact rs_subk (hK23 _ _ h) (rs_ac rfl (rs_ac rfl (rs_ac rfl (rs_ac rfl (rs_ac rfl rs_a0)))))
        · replace h := rs_if z4 h
          refine rs_iload_n (i := 2) C dX5_rowAt_35 rfl rfl rfl ?_
          refine rs_aload_n (i := 0) C dX5_rowAt_36 rfl rfl rfl ?_
          refine rs_iload_n (i := 3) C dX5_rowAt_37 rfl rfl rfl ?_
          refine rs_iload C dX5_rowAt_38 rfl rfl ?_
          refine rs_iadd C dX5_rowAt_40 rfl ?_
          obtain ⟨r6, h5, h⟩ := rs_b1e h
          refine rs_callVi (r0 := r6) (S0 := S) C (rs_kd_lt kk_91 (by decide)) (rs_e5 kk_91) rfl (c_X5_shine l G hG S (x1 + x3) _ h5) ⟨wl_X5_168, wi_yX5_shine, wx_yX5_shine, wn_X5, wc_yX5_shine⟩ wy_yX5_shine (by decide) ⟨rfl, rfl⟩ rfl rfl (Nat.le_of_ble_eq_true rfl) dX5_rowAt_41 rfl ?_
          refine rs_iadd C dX5_rowAt_44 rfl ?_
          refine rs_nmi h (fun x7 h => ?_)
          refine rs_istore_n (i := 2) C dX5_rowAt_45 rfl (by decide) rfl ?_
          refine rs_iincn (v := 1) C dX5_rowAt_46 rfl (by decide) (by decide) rfl h (fun x8 h => ?_)
          refine rs_goto (tgt := 23) C dX5_rowAt_49 (by decide) ?_
          exact rs_subk (ih23 _ _ h) (rs_ac rfl (rs_ac rfl (rs_ac rfl (rs_ac rfl (rs_ac rfl rs_a0)))))
    exact rs_subk (L23 rs_fu _ _ h) (rs_ac rfl (rs_ac rfl (rs_ac rfl (rs_ac rfl (rs_ac rfl rs_a0)))))
def xf_X5_shotGoes_l8 (K8 : rs_St → Int32 → Int32 → Int32 → Option rs_St) : Nat → rs_St → Int32 → Int32 → Int32 → Option rs_St
  | 0, _, _, _, _ => none
  | n8 + 1, S1, x2, x3, x4 => if (rs_gi S1 93 17) ≤ x4 then K8 S1 x2 x3 x4 else rs_b1 (xf_X5_rowAt S1 x4) (fun r7 => if x4 < 0 ∨ 8 ≤ x4.toNatClampNeg then none else rs_lt (rs_si S1 98 x4.toNatClampNeg r7) (fun S8 => if (24 + x4) < 0 ∨ 51 ≤ (24 + x4).toNatClampNeg then none else rs_lt (rs_si S8 93 (24 + x4).toNatClampNeg r7) (fun S10 => rs_jn (fun (x12 : Int32) => rs_jn (fun (x14 : Int32) => rs_lt (rs_si S10 91 17 ((rs_gi S10 91 17) + r7)) (fun S16 => rs_jn (fun (x17 : Int32) => rs_b1 (xf_X5_flag S16 x17) (fun r20 => rs_lt (rs_si S16 91 18 ((rs_gi S16 91 18) + r20)) (fun S21 => rs_lt (x4 + 1) (fun x22 => xf_X5_shotGoes_l8 K8 n8 S21 x12 x14 x22)))) (fun J18 => if r7 = 255 then J18 1 else J18 0))) (fun J15 => if r7 ≤ x3 then J15 x3 else J15 r7)) (fun J13 => if x2 ≤ r7 then J13 x2 else J13 r7))))
def xf_X5_shotGoes (S : rs_St) : Option rs_St := xf_X5_shotGoes_l8 (fun (S26 : rs_St) (x27 : Int32) (x28 : Int32) (x29 : Int32) => rs_lt (rs_si S26 91 19 (x28 - x27)) (fun S30 => rs_jn (fun (x31 : Int32) => rs_lt (rs_si S30 91 15 x31) (fun S33 => rs_jn (fun (x34 : Int32) => rs_lt (rs_si S33 91 16 x34) (fun S36 => rs_lt (rs_si S36 93 23 (rs_gi S36 93 17)) (fun S37 => rs_lt (rs_si S37 93 21 ((rs_gi S37 93 21) + (rs_gi S37 93 20))) (fun S38 => rs_lt (rs_si S38 93 22 ((rs_gi S38 93 22) + 1)) (fun S39 => some S39))))) (fun J35 => if (rs_gi S33 91 16) = (-4) then J35 (rs_gi S33 91 19) else if (rs_gi S33 91 16) ≤ (rs_gi S33 91 19) then J35 (rs_gi S33 91 16) else J35 (rs_gi S33 91 19)))) (fun J32 => if (rs_gi S30 91 19) ≤ (rs_gi S30 91 15) then J32 (rs_gi S30 91 15) else J32 (rs_gi S30 91 19)))) rs_fu S 255 0 0
set_option maxRecDepth 100000 in
theorem c_X5_shotGoes (l : Launch) (G : rs_G) (hG : rs_ok G) (S : rs_St)  (o : rs_St) (h : xf_X5_shotGoes S = some o) : Met l yX5_shotGoes (rs_wz yX5_shotGoes cX5_shotGoes 5 none) (rs_rm 6) (va_Pc [.ref (rs_ad G 91)] (rs_pre G S)) (va_Qv (fun S2 => S2 = o) (rs_post G) (rs_A G)) 0 0 (rs_A G) := by
  refine rs_met hG (by decide) (Nat.le_of_ble_eq_true rfl) ?_
  intro p e s m args below meth c C hr hlk
  rw [xf_X5_shotGoes] at h
  refine rs_sipush (v := 255) C dX5_shotGoes_0 (by decide) rfl ?_
  refine rs_istore_n (i := 1) C dX5_shotGoes_3 rfl (by decide) rfl ?_
  refine rs_iconst (v := 0) C dX5_shotGoes_4 (by decide) rfl ?_
  refine rs_istore_n (i := 2) C dX5_shotGoes_5 rfl (by decide) rfl ?_
  refine rs_iconst (v := 0) C dX5_shotGoes_6 (by decide) rfl ?_
  refine rs_istore_n (i := 3) C dX5_shotGoes_7 rfl (by decide) rfl ?_
  refine rs_kw (F := fun K => xf_X5_shotGoes_l8 K rs_fu S 255 0 0) (P := fun K => ∀ (S26 : rs_St) (x27 : Int32) (x28 : Int32) (x29 : Int32), K S26 x27 x28 x29 = some o → rs_Xv G 5 p l e (rs_rm 6) s m args below meth c o S26 113 [(0, .ref (rs_ad G 91)), (1, .int x27), (2, .int x28), (3, .int x29)] []) h (fun S26 x27 x28 x29 h => ?_) (fun K8 hK8 h => ?_)
  · refine rs_aload_n (i := 0) C dX5_shotGoes_113 rfl rfl rfl ?_
    refine rs_iload_n (i := 2) C dX5_shotGoes_114 rfl rfl rfl ?_
    refine rs_iload_n (i := 1) C dX5_shotGoes_115 rfl rfl rfl ?_
    refine rs_isub C dX5_shotGoes_116 rfl ?_
    refine rp_X5_19 C kk_91 wl_X5_178 dX5_shotGoes_117 rfl h (fun S30 h => ?_)
    refine rs_aload_n (i := 0) C dX5_shotGoes_120 rfl rfl rfl ?_
    refine rs_aload_n (i := 0) C dX5_shotGoes_121 rfl rfl rfl ?_
    refine rg_X5_19 C kk_91 wl_X5_178 dX5_shotGoes_122 rfl ?_
    refine rs_aload_n (i := 0) C dX5_shotGoes_125 rfl rfl rfl ?_
    refine rg_X5_15 C kk_91 wl_X5_150 dX5_shotGoes_126 rfl ?_
    refine rs_jw (P := fun J => ∀ (x31 : Int32), J x31 = some o → rs_Xv G 5 p l e (rs_rm 6) s m args below meth c o S30 143 [(0, .ref (rs_ad G 91)), (1, .int x27), (2, .int x28), (3, .int x29)] [.int x31, .ref (rs_ad G 91)]) h (fun x31 h => ?_) (fun J32 KJ32 h => ?_)
    · refine rp_X5_15 C kk_91 wl_X5_150 dX5_shotGoes_143 rfl h (fun S33 h => ?_)
      refine rs_aload_n (i := 0) C dX5_shotGoes_146 rfl rfl rfl ?_
      refine rs_aload_n (i := 0) C dX5_shotGoes_147 rfl rfl rfl ?_
      refine rg_X5_16 C kk_91 wl_X5_153 dX5_shotGoes_148 rfl ?_
      refine rs_bipush (v := (-4)) C dX5_shotGoes_151 (by decide) rfl ?_
      refine rs_jw (P := fun J => ∀ (x34 : Int32), J x34 = some o → rs_Xv G 5 p l e (rs_rm 6) s m args below meth c o S33 178 [(0, .ref (rs_ad G 91)), (1, .int x27), (2, .int x28), (3, .int x29)] [.int x34, .ref (rs_ad G 91)]) h (fun x34 h => ?_) (fun J35 KJ35 h => ?_)
      · refine rp_X5_16 C kk_91 wl_X5_153 dX5_shotGoes_178 rfl h (fun S36 h => ?_)
        refine rs_aload_n (i := 0) C dX5_shotGoes_181 rfl rfl rfl ?_
        refine rg_X5_1 C kk_91 wl_X5_13 dX5_shotGoes_182 rfl ?_
        refine rs_bipush (v := 23) C dX5_shotGoes_185 (by decide) rfl ?_
        refine rs_aload_n (i := 0) C dX5_shotGoes_187 rfl rfl rfl ?_
        refine rg_X5_1 C kk_91 wl_X5_13 dX5_shotGoes_188 rfl ?_
        refine rs_bipush (v := 17) C dX5_shotGoes_191 (by decide) rfl ?_
        refine rs_ialdc C kk_93 ll_93 17 (by decide) (by decide) dX5_shotGoes_193 rfl ?_
        refine rs_iastc C kk_93 ll_93 23 (by decide) (by decide) dX5_shotGoes_194 rfl h (fun S37 h => ?_)
        refine rs_aload_n (i := 0) C dX5_shotGoes_195 rfl rfl rfl ?_
        refine rg_X5_1 C kk_91 wl_X5_13 dX5_shotGoes_196 rfl ?_
        refine rs_bipush (v := 21) C dX5_shotGoes_199 (by decide) rfl ?_
        refine rs_dup2 C dX5_shotGoes_201 rfl rfl rfl ?_
        refine rs_ialdc C kk_93 ll_93 21 (by decide) (by decide) dX5_shotGoes_202 rfl ?_
        refine rs_aload_n (i := 0) C dX5_shotGoes_203 rfl rfl rfl ?_
        refine rg_X5_1 C kk_91 wl_X5_13 dX5_shotGoes_204 rfl ?_
        refine rs_bipush (v := 20) C dX5_shotGoes_207 (by decide) rfl ?_
        refine rs_ialdc C kk_93 ll_93 20 (by decide) (by decide) dX5_shotGoes_209 rfl ?_
        refine rs_iadd C dX5_shotGoes_210 rfl ?_
        refine rs_iastc C kk_93 ll_93 21 (by decide) (by decide) dX5_shotGoes_211 rfl h (fun S38 h => ?_)
        refine rs_aload_n (i := 0) C dX5_shotGoes_212 rfl rfl rfl ?_
        refine rg_X5_1 C kk_91 wl_X5_13 dX5_shotGoes_213 rfl ?_
        refine rs_bipush (v := 22) C dX5_shotGoes_216 (by decide) rfl ?_
        refine rs_dup2 C dX5_shotGoes_218 rfl rfl rfl ?_
        refine rs_ialdc C kk_93 ll_93 22 (by decide) (by decide) dX5_shotGoes_219 rfl ?_
        refine rs_iconst (v := 1) C dX5_shotGoes_220 (by decide) rfl ?_
        refine rs_iadd C dX5_shotGoes_221 rfl ?_
        refine rs_iastc C kk_93 ll_93 22 (by decide) (by decide) dX5_shotGoes_222 rfl h (fun S39 h => ?_)
        exact rs_vret C hr hlk h dX5_shotGoes_223
      · refine rs_icmp_eq (tgt := 167) C dX5_shotGoes_153 (by decide) rfl (fun z40 => ?_) (fun z40 => ?_)
        · replace h := rs_it z40 h
          refine rs_aload_n (i := 0) C dX5_shotGoes_167 rfl rfl rfl ?_
          refine rg_X5_19 C kk_91 wl_X5_178 dX5_shotGoes_168 rfl ?_
          refine rs_goto (tgt := 178) C dX5_shotGoes_171 (by decide) ?_
          exact rs_subk (KJ35 _ h) (rs_ac rfl (rs_ac rfl (rs_ac rfl (rs_ac rfl rs_a0))))
        · replace h := rs_if z40 h
          refine rs_aload_n (i := 0) C dX5_shotGoes_156 rfl rfl rfl ?_
          refine rg_X5_19 C kk_91 wl_X5_178 dX5_shotGoes_157 rfl ?_
          refine rs_aload_n (i := 0) C dX5_shotGoes_160 rfl rfl rfl ?_
          refine rg_X5_16 C kk_91 wl_X5_153 dX5_shotGoes_161 rfl ?_
          refine rs_icmp_ge (tgt := 174) C dX5_shotGoes_164 (by decide) rfl (fun z41 => ?_) (fun z41 => ?_)
          · replace h := rs_it z41 h
            refine rs_aload_n (i := 0) C dX5_shotGoes_174 rfl rfl rfl ?_
            refine rg_X5_16 C kk_91 wl_X5_153 dX5_shotGoes_175 rfl ?_
            exact rs_subk (KJ35 _ h) (rs_ac rfl (rs_ac rfl (rs_ac rfl (rs_ac rfl rs_a0))))
          · replace h := rs_if z41 h
            refine rs_aload_n (i := 0) C dX5_shotGoes_167 rfl rfl rfl ?_
            refine rg_X5_19 C kk_91 wl_X5_178 dX5_shotGoes_168 rfl ?_
            refine rs_goto (tgt := 178) C dX5_shotGoes_171 (by decide) ?_
            exact rs_subk (KJ35 _ h) (rs_ac rfl (rs_ac rfl (rs_ac rfl (rs_ac rfl rs_a0))))
    · refine rs_icmp_le (tgt := 139) C dX5_shotGoes_129 (by decide) rfl (fun z42 => ?_) (fun z42 => ?_)
      · replace h := rs_it z42 h
        refine rs_aload_n (i := 0) C dX5_shotGoes_139 rfl rfl rfl ?_
        refine rg_X5_15 C kk_91 wl_X5_150 dX5_shotGoes_140 rfl ?_
        exact rs_subk (KJ32 _ h) (rs_ac rfl (rs_ac rfl (rs_ac rfl (rs_ac rfl rs_a0))))
      · replace h := rs_if z42 h
        refine rs_aload_n (i := 0) C dX5_shotGoes_132 rfl rfl rfl ?_
        refine rg_X5_19 C kk_91 wl_X5_178 dX5_shotGoes_133 rfl ?_
        refine rs_goto (tgt := 143) C dX5_shotGoes_136 (by decide) ?_
        exact rs_subk (KJ32 _ h) (rs_ac rfl (rs_ac rfl (rs_ac rfl (rs_ac rfl rs_a0))))
  · have L8 : ∀ (n8 : Nat) (S1 : rs_St) (x2 : Int32) (x3 : Int32) (x4 : Int32), xf_X5_shotGoes_l8 K8 n8 S1 x2 x3 x4 = some o → rs_Xv G 5 p l e (rs_rm 6) s m args below meth c o S1 8 [(0, .ref (rs_ad G 91)), (1, .int x2), (2, .int x3), (3, .int x4)] [] := by
      intro n8
      induction n8 with
      | zero => intro S1 x2 x3 x4 h; exact (rs_no h).elim
      | succ n8 ih8 =>
        intro S1 x2 x3 x4 h
        rw [xf_X5_shotGoes_l8] at h
        refine rs_iload_n (i := 3) C dX5_shotGoes_8 rfl rfl rfl ?_
        refine rs_aload_n (i := 0) C dX5_shotGoes_9 rfl rfl rfl ?_
        refine rg_X5_1 C kk_91 wl_X5_13 dX5_shotGoes_10 rfl ?_
        refine rs_bipush (v := 17) C dX5_shotGoes_13 (by decide) rfl ?_
        refine rs_ialdc C kk_93 ll_93 17 (by decide) (by decide) dX5_shotGoes_15 rfl ?_
        refine rs_icmp_ge (tgt := 113) C dX5_shotGoes_16 (by decide) rfl (fun z5 => ?_) (fun z5 => ?_)
        · replace h := rs_it z5 h
          exact rs_subk (hK8 _ _ _ _ h) (rs_ac rfl (rs_ac rfl (rs_ac rfl (rs_ac rfl rs_a0))))
        · replace h := rs_if z5 h
          refine rs_aload_n (i := 0) C dX5_shotGoes_19 rfl rfl rfl ?_
          refine rs_iload_n (i := 3) C dX5_shotGoes_20 rfl rfl rfl ?_
          obtain ⟨r7, h6, h⟩ := rs_b1e h
          refine rs_callVi (r0 := r7) (S0 := S1) C (rs_kd_lt kk_91 (by decide)) (rs_e5 kk_91) rfl (c_X5_rowAt l G hG S1 x4 _ h6) ⟨wl_X5_171, wi_yX5_rowAt, wx_yX5_rowAt, wn_X5, wc_yX5_rowAt⟩ wy_yX5_rowAt (by decide) ⟨rfl, rfl⟩ rfl rfl (Nat.le_of_ble_eq_true rfl) dX5_shotGoes_21 rfl ?_
          refine rs_istore C dX5_shotGoes_24 (by decide) rfl ?_
          refine rs_aload_n (i := 0) C dX5_shotGoes_26 rfl rfl rfl ?_
          refine rg_X5_20 C kk_91 wl_X5_29 dX5_shotGoes_27 rfl ?_
          refine rs_iload_n (i := 3) C dX5_shotGoes_30 rfl rfl rfl ?_
          refine rs_iload C dX5_shotGoes_31 rfl rfl ?_
          obtain ⟨z9, h⟩ := rs_ck h
          refine rs_iastn C kk_98 ll_98 z9 dX5_shotGoes_33 rfl h (fun S8 h => ?_)
          refine rs_aload_n (i := 0) C dX5_shotGoes_34 rfl rfl rfl ?_
          refine rg_X5_1 C kk_91 wl_X5_13 dX5_shotGoes_35 rfl ?_
          refine rs_bipush (v := 24) C dX5_shotGoes_38 (by decide) rfl ?_
          refine rs_iload_n (i := 3) C dX5_shotGoes_40 rfl rfl rfl ?_
          refine rs_iadd C dX5_shotGoes_41 rfl ?_
          refine rs_iload C dX5_shotGoes_42 rfl rfl ?_
          obtain ⟨z11, h⟩ := rs_ck h
          refine rs_iastn C kk_93 ll_93 z11 dX5_shotGoes_44 rfl h (fun S10 h => ?_)
          refine rs_iload C dX5_shotGoes_45 rfl rfl ?_
          refine rs_iload_n (i := 1) C dX5_shotGoes_47 rfl rfl rfl ?_
          refine rs_jw (P := fun J => ∀ (x12 : Int32), J x12 = some o → rs_Xv G 5 p l e (rs_rm 6) s m args below meth c o S10 57 [(0, .ref (rs_ad G 91)), (1, .int x2), (2, .int x3), (3, .int x4), (4, .int r7)] [.int x12]) h (fun x12 h => ?_) (fun J13 KJ13 h => ?_)
          · refine rs_istore_n (i := 1) C dX5_shotGoes_57 rfl (by decide) rfl ?_
            refine rs_iload C dX5_shotGoes_58 rfl rfl ?_
            refine rs_iload_n (i := 2) C dX5_shotGoes_60 rfl rfl rfl ?_
            refine rs_jw (P := fun J => ∀ (x14 : Int32), J x14 = some o → rs_Xv G 5 p l e (rs_rm 6) s m args below meth c o S10 70 [(0, .ref (rs_ad G 91)), (1, .int x12), (2, .int x3), (3, .int x4), (4, .int r7)] [.int x14]) h (fun x14 h => ?_) (fun J15 KJ15 h => ?_)
            · refine rs_istore_n (i := 2) C dX5_shotGoes_70 rfl (by decide) rfl ?_
              refine rs_aload_n (i := 0) C dX5_shotGoes_71 rfl rfl rfl ?_
              refine rs_dup C dX5_shotGoes_72 rfl rfl ?_
              refine rg_X5_17 C kk_91 wl_X5_156 dX5_shotGoes_73 rfl ?_
              refine rs_iload C dX5_shotGoes_76 rfl rfl ?_
              refine rs_iadd C dX5_shotGoes_78 rfl ?_
              refine rp_X5_17 C kk_91 wl_X5_156 dX5_shotGoes_79 rfl h (fun S16 h => ?_)
              refine rs_aload_n (i := 0) C dX5_shotGoes_82 rfl rfl rfl ?_
              refine rs_dup C dX5_shotGoes_83 rfl rfl ?_
              refine rg_X5_18 C kk_91 wl_X5_159 dX5_shotGoes_84 rfl ?_
              refine rs_iload C dX5_shotGoes_87 rfl rfl ?_
              refine rs_sipush (v := 255) C dX5_shotGoes_89 (by decide) rfl ?_
              refine rs_jw (P := fun J => ∀ (x17 : Int32), J x17 = some o → rs_Xv G 5 p l e (rs_rm 6) s m args below meth c o S16 100 [(0, .ref (rs_ad G 91)), (1, .int x12), (2, .int x14), (3, .int x4), (4, .int r7)] [.int x17, .int (rs_gi S16 91 18), .ref (rs_ad G 91)]) h (fun x17 h => ?_) (fun J18 KJ18 h => ?_)
              · obtain ⟨r20, h19, h⟩ := rs_b1e h
                refine rs_callSi (r0 := r20) (S0 := S16) C (c_X5_flag l G hG S16 x17 _ h19) ⟨wl_X5_174, ws_yX5_flag, wn_X5, wc_yX5_flag⟩ wy_yX5_flag (by decide) ⟨rfl, rfl⟩ rfl rfl (Nat.le_of_ble_eq_true rfl) dX5_shotGoes_100 rfl ?_
                refine rs_iadd C dX5_shotGoes_103 rfl ?_
                refine rp_X5_18 C kk_91 wl_X5_159 dX5_shotGoes_104 rfl h (fun S21 h => ?_)
                refine rs_iincn (v := 1) C dX5_shotGoes_107 rfl (by decide) (by decide) rfl h (fun x22 h => ?_)
                refine rs_goto (tgt := 8) C dX5_shotGoes_110 (by decide) ?_
                exact rs_subk (ih8 _ _ _ _ h) (rs_ac rfl (rs_ac rfl (rs_ac rfl (rs_ac rfl rs_a0))))
              · refine rs_icmp_ne (tgt := 99) C dX5_shotGoes_92 (by decide) rfl (fun z23 => ?_) (fun z23 => ?_)
                · replace h := rs_if z23 h
                  refine rs_iconst (v := 0) C dX5_shotGoes_99 (by decide) rfl ?_
                  exact rs_subk (KJ18 _ h) (rs_ac rfl (rs_ac rfl (rs_ac rfl (rs_ac rfl (rs_ac rfl rs_a0)))))
                · replace h := rs_it z23 h
                  refine rs_iconst (v := 1) C dX5_shotGoes_95 (by decide) rfl ?_
                  refine rs_goto (tgt := 100) C dX5_shotGoes_96 (by decide) ?_
                  exact rs_subk (KJ18 _ h) (rs_ac rfl (rs_ac rfl (rs_ac rfl (rs_ac rfl (rs_ac rfl rs_a0)))))
            · refine rs_icmp_le (tgt := 69) C dX5_shotGoes_61 (by decide) rfl (fun z24 => ?_) (fun z24 => ?_)
              · replace h := rs_it z24 h
                refine rs_iload_n (i := 2) C dX5_shotGoes_69 rfl rfl rfl ?_
                exact rs_subk (KJ15 _ h) (rs_ac rfl (rs_ac rfl (rs_ac rfl (rs_ac rfl (rs_ac rfl rs_a0)))))
              · replace h := rs_if z24 h
                refine rs_iload C dX5_shotGoes_64 rfl rfl ?_
                refine rs_goto (tgt := 70) C dX5_shotGoes_66 (by decide) ?_
                exact rs_subk (KJ15 _ h) (rs_ac rfl (rs_ac rfl (rs_ac rfl (rs_ac rfl (rs_ac rfl rs_a0)))))
          · refine rs_icmp_ge (tgt := 56) C dX5_shotGoes_48 (by decide) rfl (fun z25 => ?_) (fun z25 => ?_)
            · replace h := rs_it z25 h
              refine rs_iload_n (i := 1) C dX5_shotGoes_56 rfl rfl rfl ?_
              exact rs_subk (KJ13 _ h) (rs_ac rfl (rs_ac rfl (rs_ac rfl (rs_ac rfl (rs_ac rfl rs_a0)))))
            · replace h := rs_if z25 h
              refine rs_iload C dX5_shotGoes_51 rfl rfl ?_
              refine rs_goto (tgt := 57) C dX5_shotGoes_53 (by decide) ?_
              exact rs_subk (KJ13 _ h) (rs_ac rfl (rs_ac rfl (rs_ac rfl (rs_ac rfl (rs_ac rfl rs_a0)))))
    exact rs_subk (L8 rs_fu _ _ _ _ h) (rs_ac rfl (rs_ac rfl (rs_ac rfl (rs_ac rfl rs_a0))))
def xf_X5_shotsGo_l2 (a1 : Int32) (K2 : rs_St → Int32 → Option rs_St) : Nat → rs_St → Int32 → Option rs_St
  | 0, _, _ => none
  | n2 + 1, S1, x2 => if a1 ≤ x2 then K2 S1 x2 else rs_b1 (xf_X5_shotGoes S1) (fun S5 => rs_lt (x2 + 1) (fun x6 => xf_X5_shotsGo_l2 a1 K2 n2 S5 x6))
def xf_X5_shotsGo (S : rs_St) (a1 : Int32) : Option rs_St := xf_X5_shotsGo_l2 a1 (fun (S7 : rs_St) (x8 : Int32) => some S7) rs_fu S 0
set_option maxRecDepth 100000 in
theorem c_X5_shotsGo (l : Launch) (G : rs_G) (hG : rs_ok G) (S : rs_St) (a1 : Int32)  (o : rs_St) (h : xf_X5_shotsGo S a1 = some o) : Met l yX5_shotsGo (rs_wz yX5_shotsGo cX5_shotsGo 3 none) (rs_rm 7) (va_Pc [.ref (rs_ad G 91), .int a1] (rs_pre G S)) (va_Qv (fun S2 => S2 = o) (rs_post G) (rs_A G)) 0 0 (rs_A G) := by
  refine rs_met hG (by decide) (Nat.le_of_ble_eq_true rfl) ?_
  intro p e s m args below meth c C hr hlk
  rw [xf_X5_shotsGo] at h
  refine rs_iconst (v := 0) C dX5_shotsGo_0 (by decide) rfl ?_
  refine rs_istore_n (i := 2) C dX5_shotsGo_1 rfl (by decide) rfl ?_
  refine rs_kw (F := fun K => xf_X5_shotsGo_l2 a1 K rs_fu S 0) (P := fun K => ∀ (S7 : rs_St) (x8 : Int32), K S7 x8 = some o → rs_Xv G 3 p l e (rs_rm 7) s m args below meth c o S7 17 [(0, .ref (rs_ad G 91)), (1, .int a1), (2, .int x8)] []) h (fun S7 x8 h => ?_) (fun K2 hK2 h => ?_)
  · exact rs_vret C hr hlk h dX5_shotsGo_17
  · have L2 : ∀ (n2 : Nat) (S1 : rs_St) (x2 : Int32), xf_X5_shotsGo_l2 a1 K2 n2 S1 x2 = some o → rs_Xv G 3 p l e (rs_rm 7) s m args below meth c o S1 2 [(0, .ref (rs_ad G 91)), (1, .int a1), (2, .int x2)] [] := by
      intro n2
      induction n2 with
      | zero => intro S1 x2 h; exact (rs_no h).elim
      | succ n2 ih2 =>
        intro S1 x2 h
        rw [xf_X5_shotsGo_l2] at h
        refine rs_iload_n (i := 2) C dX5_shotsGo_2 rfl rfl rfl ?_
        refine rs_iload_n (i := 1) C dX5_shotsGo_3 rfl rfl rfl ?_
        refine rs_icmp_ge (tgt := 17) C dX5_shotsGo_4 (by decide) rfl (fun z3 => ?_) (fun z3 => ?_)
        · replace h := rs_it z3 h
          exact rs_subk (hK2 _ _ h) (rs_ac rfl (rs_ac rfl (rs_ac rfl rs_a0)))
        · replace h := rs_if z3 h
          refine rs_aload_n (i := 0) C dX5_shotsGo_7 rfl rfl rfl ?_
          obtain ⟨S5, h4, h⟩ := rs_b1e h
          refine rs_callVv (S0 := S5) C (rs_kd_lt kk_91 (by decide)) (rs_e5 kk_91) rfl (c_X5_shotGoes l G hG S1 _ h4) ⟨wl_X5_181, wi_yX5_shotGoes, wx_yX5_shotGoes, wn_X5, wc_yX5_shotGoes⟩ wy_yX5_shotGoes (by decide) ⟨rfl, rfl⟩ rfl rfl (Nat.le_of_ble_eq_true rfl) dX5_shotsGo_8 rfl ?_
          refine rs_iincn (v := 1) C dX5_shotsGo_11 rfl (by decide) (by decide) rfl h (fun x6 h => ?_)
          refine rs_goto (tgt := 2) C dX5_shotsGo_14 (by decide) ?_
          exact rs_subk (ih2 _ _ h) (rs_ac rfl (rs_ac rfl (rs_ac rfl rs_a0)))
    exact rs_subk (L2 rs_fu _ _ h) (rs_ac rfl (rs_ac rfl (rs_ac rfl rs_a0)))
def xf_X5_rule (S : rs_St) (a1 : Int32) : Option (Int32 × rs_St) := rs_b1 (xf_X5_starts S) (fun S2 => if a1 = 0 then some ((rs_gi S2 92 16), S2) else if a1 = 1 then some ((rs_gi S2 92 22), S2) else if a1 = 2 then some ((rs_gi S2 92 21), S2) else if a1 = 3 then if ((17 + a1) - 3) < 0 ∨ 153 ≤ ((17 + a1) - 3).toNatClampNeg then none else some ((rs_gi S2 92 ((17 + a1) - 3).toNatClampNeg), S2) else if a1 = 4 then if ((17 + a1) - 3) < 0 ∨ 153 ≤ ((17 + a1) - 3).toNatClampNeg then none else some ((rs_gi S2 92 ((17 + a1) - 3).toNatClampNeg), S2) else if a1 = 5 then if ((17 + a1) - 3) < 0 ∨ 153 ≤ ((17 + a1) - 3).toNatClampNeg then none else some ((rs_gi S2 92 ((17 + a1) - 3).toNatClampNeg), S2) else if a1 = 6 then if ((17 + a1) - 3) < 0 ∨ 153 ≤ ((17 + a1) - 3).toNatClampNeg then none else some ((rs_gi S2 92 ((17 + a1) - 3).toNatClampNeg), S2) else if a1 = 7 then rs_b1 (xf_X5_shine S2 (rs_gi S2 92 21)) (fun r17 => some (r17, S2)) else some ((-1), S2))
set_option maxRecDepth 100000 in
theorem c_X5_rule (l : Launch) (G : rs_G) (hG : rs_ok G) (S : rs_St) (a1 : Int32)  (o : (Int32 × rs_St)) (h : xf_X5_rule S a1 = some o) : Met l yX5_rule (rs_wz yX5_rule cX5_rule 2 (some FieldType.int)) (rs_rm 5) (va_Pc [.ref (rs_ad G 91), .int a1] (rs_pre G S)) (va_Qi (fun r S2 => (r, S2) = o) (rs_post G) (rs_A G)) 0 0 (rs_A G) := by
  refine rs_met hG (by decide) (Nat.le_of_ble_eq_true rfl) ?_
  intro p e s m args below meth c C hr hlk
  rw [xf_X5_rule] at h
  refine rs_aload_n (i := 0) C dX5_rule_0 rfl rfl rfl ?_
  obtain ⟨S2, h1, h⟩ := rs_b1e h
  refine rs_callVv (S0 := S2) C (rs_kd_lt kk_91 (by decide)) (rs_e5 kk_91) rfl (c_X5_starts l G hG S _ h1) ⟨wl_X5_184, wi_yX5_starts, wx_yX5_starts, wn_X5, wc_yX5_starts⟩ wy_yX5_starts (by decide) ⟨rfl, rfl⟩ rfl rfl (Nat.le_of_ble_eq_true rfl) dX5_rule_1 rfl ?_
  refine rs_iload_n (i := 1) C dX5_rule_4 rfl rfl rfl ?_
  by_cases z4 : a1 = 0
  · replace h := rs_it z4 h
    refine rs_tabIn (tgt := 52) C (47) dX5_rule_5 0 z4 (by decide) (by decide) rfl (by decide) ?_
    refine rs_aload_n (i := 0) C dX5_rule_52 rfl rfl rfl ?_
    refine rg_X5_0 C kk_91 wl_X5_7 dX5_rule_53 rfl ?_
    refine rs_bipush (v := 16) C dX5_rule_56 (by decide) rfl ?_
    refine rs_ialdc C kk_92 ll_92 16 (by decide) (by decide) dX5_rule_58 rfl ?_
    exact rs_iret C hr hlk h dX5_rule_59
  · replace h := rs_if z4 h
    by_cases z5 : a1 = 1
    · replace h := rs_it z5 h
      refine rs_tabIn (tgt := 60) C (55) dX5_rule_5 1 z5 (by decide) (by decide) rfl (by decide) ?_
      refine rs_aload_n (i := 0) C dX5_rule_60 rfl rfl rfl ?_
      refine rg_X5_0 C kk_91 wl_X5_7 dX5_rule_61 rfl ?_
      refine rs_bipush (v := 22) C dX5_rule_64 (by decide) rfl ?_
      refine rs_ialdc C kk_92 ll_92 22 (by decide) (by decide) dX5_rule_66 rfl ?_
      exact rs_iret C hr hlk h dX5_rule_67
    · replace h := rs_if z5 h
      by_cases z6 : a1 = 2
      · replace h := rs_it z6 h
        refine rs_tabIn (tgt := 68) C (63) dX5_rule_5 2 z6 (by decide) (by decide) rfl (by decide) ?_
        refine rs_aload_n (i := 0) C dX5_rule_68 rfl rfl rfl ?_
        refine rg_X5_0 C kk_91 wl_X5_7 dX5_rule_69 rfl ?_
        refine rs_bipush (v := 21) C dX5_rule_72 (by decide) rfl ?_
        refine rs_ialdc C kk_92 ll_92 21 (by decide) (by decide) dX5_rule_74 rfl ?_
        exact rs_iret C hr hlk h dX5_rule_75
      · replace h := rs_if z6 h
        by_cases z7 : a1 = 3
        · replace h := rs_it z7 h
          refine rs_tabIn (tgt := 76) C (71) dX5_rule_5 3 z7 (by decide) (by decide) rfl (by decide) ?_
          refine rs_aload_n (i := 0) C dX5_rule_76 rfl rfl rfl ?_
          refine rg_X5_0 C kk_91 wl_X5_7 dX5_rule_77 rfl ?_
          refine rs_bipush (v := 17) C dX5_rule_80 (by decide) rfl ?_
          refine rs_iload_n (i := 1) C dX5_rule_82 rfl rfl rfl ?_
          refine rs_iadd C dX5_rule_83 rfl ?_
          refine rs_iconst (v := 3) C dX5_rule_84 (by decide) rfl ?_
          refine rs_isub C dX5_rule_85 rfl ?_
          obtain ⟨z8, h⟩ := rs_ck h
          refine rs_ialdn C kk_92 ll_92 z8 dX5_rule_86 rfl ?_
          exact rs_iret C hr hlk h dX5_rule_87
        · replace h := rs_if z7 h
          by_cases z9 : a1 = 4
          · replace h := rs_it z9 h
            refine rs_tabIn (tgt := 76) C (71) dX5_rule_5 4 z9 (by decide) (by decide) rfl (by decide) ?_
            refine rs_aload_n (i := 0) C dX5_rule_76 rfl rfl rfl ?_
            refine rg_X5_0 C kk_91 wl_X5_7 dX5_rule_77 rfl ?_
            refine rs_bipush (v := 17) C dX5_rule_80 (by decide) rfl ?_
            refine rs_iload_n (i := 1) C dX5_rule_82 rfl rfl rfl ?_
            refine rs_iadd C dX5_rule_83 rfl ?_
            refine rs_iconst (v := 3) C dX5_rule_84 (by decide) rfl ?_
            refine rs_isub C dX5_rule_85 rfl ?_
            obtain ⟨z10, h⟩ := rs_ck h
            refine rs_ialdn C kk_92 ll_92 z10 dX5_rule_86 rfl ?_
            exact rs_iret C hr hlk h dX5_rule_87
          · replace h := rs_if z9 h
            by_cases z11 : a1 = 5
            · replace h := rs_it z11 h
              refine rs_tabIn (tgt := 76) C (71) dX5_rule_5 5 z11 (by decide) (by decide) rfl (by decide) ?_
              refine rs_aload_n (i := 0) C dX5_rule_76 rfl rfl rfl ?_
              refine rg_X5_0 C kk_91 wl_X5_7 dX5_rule_77 rfl ?_
              refine rs_bipush (v := 17) C dX5_rule_80 (by decide) rfl ?_
              refine rs_iload_n (i := 1) C dX5_rule_82 rfl rfl rfl ?_
              refine rs_iadd C dX5_rule_83 rfl ?_
              refine rs_iconst (v := 3) C dX5_rule_84 (by decide) rfl ?_
              refine rs_isub C dX5_rule_85 rfl ?_
              obtain ⟨z12, h⟩ := rs_ck h
              refine rs_ialdn C kk_92 ll_92 z12 dX5_rule_86 rfl ?_
              exact rs_iret C hr hlk h dX5_rule_87
            · replace h := rs_if z11 h
              by_cases z13 : a1 = 6
              · replace h := rs_it z13 h
                refine rs_tabIn (tgt := 76) C (71) dX5_rule_5 6 z13 (by decide) (by decide) rfl (by decide) ?_
                refine rs_aload_n (i := 0) C dX5_rule_76 rfl rfl rfl ?_
                refine rg_X5_0 C kk_91 wl_X5_7 dX5_rule_77 rfl ?_
                refine rs_bipush (v := 17) C dX5_rule_80 (by decide) rfl ?_
                refine rs_iload_n (i := 1) C dX5_rule_82 rfl rfl rfl ?_
                refine rs_iadd C dX5_rule_83 rfl ?_
                refine rs_iconst (v := 3) C dX5_rule_84 (by decide) rfl ?_
                refine rs_isub C dX5_rule_85 rfl ?_
                obtain ⟨z14, h⟩ := rs_ck h
                refine rs_ialdn C kk_92 ll_92 z14 dX5_rule_86 rfl ?_
                exact rs_iret C hr hlk h dX5_rule_87
              · replace h := rs_if z13 h
                by_cases z15 : a1 = 7
                · replace h := rs_it z15 h
                  refine rs_tabIn (tgt := 88) C (83) dX5_rule_5 7 z15 (by decide) (by decide) rfl (by decide) ?_
                  refine rs_aload_n (i := 0) C dX5_rule_88 rfl rfl rfl ?_
                  refine rs_aload_n (i := 0) C dX5_rule_89 rfl rfl rfl ?_
                  refine rg_X5_0 C kk_91 wl_X5_7 dX5_rule_90 rfl ?_
                  refine rs_bipush (v := 21) C dX5_rule_93 (by decide) rfl ?_
                  refine rs_ialdc C kk_92 ll_92 21 (by decide) (by decide) dX5_rule_95 rfl ?_
                  obtain ⟨r17, h16, h⟩ := rs_b1e h
                  refine rs_callVi (r0 := r17) (S0 := S2) C (rs_kd_lt kk_91 (by decide)) (rs_e5 kk_91) rfl (c_X5_shine l G hG S2 (rs_gi S2 92 21) _ h16) ⟨wl_X5_168, wi_yX5_shine, wx_yX5_shine, wn_X5, wc_yX5_shine⟩ wy_yX5_shine (by decide) ⟨rfl, rfl⟩ rfl rfl (Nat.le_of_ble_eq_true rfl) dX5_rule_96 rfl ?_
                  exact rs_iret C hr hlk h dX5_rule_99
                · replace h := rs_if z15 h
                  refine rs_tabOut (tgt := 100) C dX5_rule_5 (by have e0 := rs_nev z4 (0) (by decide); have e1 := rs_nev z5 (1) (by decide); have e2 := rs_nev z6 (2) (by decide); have e3 := rs_nev z7 (3) (by decide); have e4 := rs_nev z9 (4) (by decide); have e5 := rs_nev z11 (5) (by decide); have e6 := rs_nev z13 (6) (by decide); have e7 := rs_nev z15 (7) (by decide); omega) (by decide) ?_
                  refine rs_iconst (v := (-1)) C dX5_rule_100 (by decide) rfl ?_
                  exact rs_iret C hr hlk h dX5_rule_101
def xf_X5_lamp (S : rs_St) (a1 : Int32) (a2 : Int32) : Option (Int32 × rs_St) := rs_b1 (xf_X5_isLamp S a1) (fun r2 => if r2 = 0 then some ((-1), S) else rs_b1 (xf_X5_in S (a2.toInt64) 0 4) (fun r5 => if r5 = 0 then some ((-1), S) else rs_b1 (xf_X5_starts S) (fun S8 => if a2 = 4 then rs_b1 (xf_X5_gives S8 a1 (rs_gi S8 92 21)) (fun r13 => some (r13, S8)) else rs_b1 (xf_X5_of S8 a1 a2) (fun r11 => some (r11, S8)))))
set_option maxRecDepth 100000 in
theorem c_X5_lamp (l : Launch) (G : rs_G) (hG : rs_ok G) (S : rs_St) (a1 : Int32) (a2 : Int32)  (o : (Int32 × rs_St)) (h : xf_X5_lamp S a1 a2 = some o) : Met l yX5_lamp (rs_wz yX5_lamp cX5_lamp 3 (some FieldType.int)) (rs_rm 4) (va_Pc [.ref (rs_ad G 91), .int a1, .int a2] (rs_pre G S)) (va_Qi (fun r S2 => (r, S2) = o) (rs_post G) (rs_A G)) 0 0 (rs_A G) := by
  refine rs_met hG (by decide) (Nat.le_of_ble_eq_true rfl) ?_
  intro p e s m args below meth c C hr hlk
  rw [xf_X5_lamp] at h
  refine rs_aload_n (i := 0) C dX5_lamp_0 rfl rfl rfl ?_
  refine rs_iload_n (i := 1) C dX5_lamp_1 rfl rfl rfl ?_
  obtain ⟨r2, h1, h⟩ := rs_b1e h
  refine rs_callVi (r0 := r2) (S0 := S) C (rs_kd_lt kk_91 (by decide)) (rs_e5 kk_91) rfl (c_X5_isLamp l G hG S a1 _ h1) ⟨wl_X5_187, wi_yX5_isLamp, wx_yX5_isLamp, wn_X5, wc_yX5_isLamp⟩ wy_yX5_isLamp (by decide) ⟨rfl, rfl⟩ rfl rfl (Nat.le_of_ble_eq_true rfl) dX5_lamp_2 rfl ?_
  refine rs_if_eq (tgt := 20) C dX5_lamp_5 (by decide) rfl (fun z3 => ?_) (fun z3 => ?_)
  · replace h := rs_it z3 h
    refine rs_iconst (v := (-1)) C dX5_lamp_20 (by decide) rfl ?_
    exact rs_iret C hr hlk h dX5_lamp_21
  · replace h := rs_if z3 h
    refine rs_iload_n (i := 2) C dX5_lamp_8 rfl rfl rfl ?_
    refine rs_i2l C dX5_lamp_9 rfl ?_
    refine rs_lconst (v := 0) C dX5_lamp_10 (by decide) rfl ?_
    refine rs_ldc2 C dX5_lamp_11 wk_X5_191 rfl ?_
    obtain ⟨r5, h4, h⟩ := rs_b1e h
    refine rs_callSi (r0 := r5) (S0 := S) C (c_X5_in l G hG S (a2.toInt64) 0 4 _ h4) ⟨wl_X5_61, ws_yX5_in, wn_X5, wc_yX5_in⟩ wy_yX5_in (by decide) ⟨rfl, rfl⟩ rfl rfl (Nat.le_of_ble_eq_true rfl) dX5_lamp_14 rfl ?_
    refine rs_if_ne (tgt := 22) C dX5_lamp_17 (by decide) rfl (fun z6 => ?_) (fun z6 => ?_)
    · replace h := rs_if z6 h
      refine rs_aload_n (i := 0) C dX5_lamp_22 rfl rfl rfl ?_
      obtain ⟨S8, h7, h⟩ := rs_b1e h
      refine rs_callVv (S0 := S8) C (rs_kd_lt kk_91 (by decide)) (rs_e5 kk_91) rfl (c_X5_starts l G hG S _ h7) ⟨wl_X5_184, wi_yX5_starts, wx_yX5_starts, wn_X5, wc_yX5_starts⟩ wy_yX5_starts (by decide) ⟨rfl, rfl⟩ rfl rfl (Nat.le_of_ble_eq_true rfl) dX5_lamp_23 rfl ?_
      refine rs_iload_n (i := 2) C dX5_lamp_26 rfl rfl rfl ?_
      refine rs_iconst (v := 4) C dX5_lamp_27 (by decide) rfl ?_
      refine rs_icmp_ne (tgt := 46) C dX5_lamp_28 (by decide) rfl (fun z9 => ?_) (fun z9 => ?_)
      · replace h := rs_if z9 h
        refine rs_aload_n (i := 0) C dX5_lamp_46 rfl rfl rfl ?_
        refine rs_iload_n (i := 1) C dX5_lamp_47 rfl rfl rfl ?_
        refine rs_iload_n (i := 2) C dX5_lamp_48 rfl rfl rfl ?_
        obtain ⟨r11, h10, h⟩ := rs_b1e h
        refine rs_callVi (r0 := r11) (S0 := S8) C (rs_kd_lt kk_91 (by decide)) (rs_e5 kk_91) rfl (c_X5_of l G hG S8 a1 a2 _ h10) ⟨wl_X5_162, wi_yX5_of, wx_yX5_of, wn_X5, wc_yX5_of⟩ wy_yX5_of (by decide) ⟨rfl, rfl⟩ rfl rfl (Nat.le_of_ble_eq_true rfl) dX5_lamp_49 rfl ?_
        exact rs_iret C hr hlk h dX5_lamp_52
      · replace h := rs_it z9 h
        refine rs_aload_n (i := 0) C dX5_lamp_31 rfl rfl rfl ?_
        refine rs_iload_n (i := 1) C dX5_lamp_32 rfl rfl rfl ?_
        refine rs_aload_n (i := 0) C dX5_lamp_33 rfl rfl rfl ?_
        refine rg_X5_0 C kk_91 wl_X5_7 dX5_lamp_34 rfl ?_
        refine rs_bipush (v := 21) C dX5_lamp_37 (by decide) rfl ?_
        refine rs_ialdc C kk_92 ll_92 21 (by decide) (by decide) dX5_lamp_39 rfl ?_
        obtain ⟨r13, h12, h⟩ := rs_b1e h
        refine rs_callVi (r0 := r13) (S0 := S8) C (rs_kd_lt kk_91 (by decide)) (rs_e5 kk_91) rfl (c_X5_gives l G hG S8 a1 (rs_gi S8 92 21) _ h12) ⟨wl_X5_165, wi_yX5_gives, wx_yX5_gives, wn_X5, wc_yX5_gives⟩ wy_yX5_gives (by decide) ⟨rfl, rfl⟩ rfl rfl (Nat.le_of_ble_eq_true rfl) dX5_lamp_40 rfl ?_
        refine rs_goto (tgt := 52) C dX5_lamp_43 (by decide) ?_
        exact rs_iret C hr hlk h dX5_lamp_52
    · replace h := rs_it z6 h
      refine rs_iconst (v := (-1)) C dX5_lamp_20 (by decide) rfl ?_
      exact rs_iret C hr hlk h dX5_lamp_21
def xf_X5_row (S : rs_St) (a1 : Int32) : Option Int32 := rs_b1 (xf_X5_isRow S a1) (fun r2 => if r2 = 0 then some (-1) else if (rs_gi S 92 23) = 0 then some (-2) else if (rs_gi S 92 23) ≤ a1 then some (-4) else if (24 + a1) < 0 ∨ 153 ≤ (24 + a1).toNatClampNeg then none else some (rs_gi S 92 (24 + a1).toNatClampNeg))
set_option maxRecDepth 100000 in
theorem c_X5_row (l : Launch) (G : rs_G) (hG : rs_ok G) (S : rs_St) (a1 : Int32)  (o : Int32) (h : xf_X5_row S a1 = some o) : Met l yX5_row (rs_wz yX5_row cX5_row 2 (some FieldType.int)) (rs_rm 4) (va_Pc [.ref (rs_ad G 91), .int a1] (rs_pre G S)) (va_Qi (fun r S2 => (r, S2) = (o, S)) (rs_post G) (rs_A G)) 0 0 (rs_A G) := by
  refine rs_met hG (by decide) (Nat.le_of_ble_eq_true rfl) ?_
  intro p e s m args below meth c C hr hlk
  rw [xf_X5_row] at h
  refine rs_iload_n (i := 1) C dX5_row_0 rfl rfl rfl ?_
  obtain ⟨r2, h1, h⟩ := rs_b1e h
  refine rs_callSi (r0 := r2) (S0 := S) C (c_X5_isRow l G hG S a1 _ h1) ⟨wl_X5_193, ws_yX5_isRow, wn_X5, wc_yX5_isRow⟩ wy_yX5_isRow (by decide) ⟨rfl, rfl⟩ rfl rfl (Nat.le_of_ble_eq_true rfl) dX5_row_1 rfl ?_
  refine rs_if_ne (tgt := 9) C dX5_row_4 (by decide) rfl (fun z3 => ?_) (fun z3 => ?_)
  · replace h := rs_if z3 h
    refine rs_aload_n (i := 0) C dX5_row_9 rfl rfl rfl ?_
    refine rg_X5_0 C kk_91 wl_X5_7 dX5_row_10 rfl ?_
    refine rs_bipush (v := 23) C dX5_row_13 (by decide) rfl ?_
    refine rs_ialdc C kk_92 ll_92 23 (by decide) (by decide) dX5_row_15 rfl ?_
    refine rs_if_ne (tgt := 22) C dX5_row_16 (by decide) rfl (fun z4 => ?_) (fun z4 => ?_)
    · replace h := rs_if z4 h
      refine rs_iload_n (i := 1) C dX5_row_22 rfl rfl rfl ?_
      refine rs_aload_n (i := 0) C dX5_row_23 rfl rfl rfl ?_
      refine rg_X5_0 C kk_91 wl_X5_7 dX5_row_24 rfl ?_
      refine rs_bipush (v := 23) C dX5_row_27 (by decide) rfl ?_
      refine rs_ialdc C kk_92 ll_92 23 (by decide) (by decide) dX5_row_29 rfl ?_
      refine rs_icmp_ge (tgt := 45) C dX5_row_30 (by decide) rfl (fun z5 => ?_) (fun z5 => ?_)
      · replace h := rs_it z5 h
        refine rs_bipush (v := (-4)) C dX5_row_45 (by decide) rfl ?_
        exact rs_iret C hr hlk (rs_pr h) dX5_row_47
      · replace h := rs_if z5 h
        refine rs_aload_n (i := 0) C dX5_row_33 rfl rfl rfl ?_
        refine rg_X5_0 C kk_91 wl_X5_7 dX5_row_34 rfl ?_
        refine rs_bipush (v := 24) C dX5_row_37 (by decide) rfl ?_
        refine rs_iload_n (i := 1) C dX5_row_39 rfl rfl rfl ?_
        refine rs_iadd C dX5_row_40 rfl ?_
        obtain ⟨z6, h⟩ := rs_ck h
        refine rs_ialdn C kk_92 ll_92 z6 dX5_row_41 rfl ?_
        refine rs_goto (tgt := 47) C dX5_row_42 (by decide) ?_
        exact rs_iret C hr hlk (rs_pr h) dX5_row_47
    · replace h := rs_it z4 h
      refine rs_bipush (v := (-2)) C dX5_row_19 (by decide) rfl ?_
      exact rs_iret C hr hlk (rs_pr h) dX5_row_21
  · replace h := rs_it z3 h
    refine rs_iconst (v := (-1)) C dX5_row_7 (by decide) rfl ?_
    exact rs_iret C hr hlk (rs_pr h) dX5_row_8
def xf_X5_becomes (S : rs_St) (a1 : Int32) (a2 : Int32) : Option (Int32 × rs_St) := if a1 < 0 ∨ 153 ≤ a1.toNatClampNeg then none else rs_lt (rs_gi S 92 a1.toNatClampNeg) (fun x2 => if a1 < 0 ∨ 153 ≤ a1.toNatClampNeg then none else rs_lt (rs_si S 92 a1.toNatClampNeg a2) (fun S3 => some (x2, S3)))
set_option maxRecDepth 100000 in
theorem c_X5_becomes (l : Launch) (G : rs_G) (hG : rs_ok G) (S : rs_St) (a1 : Int32) (a2 : Int32)  (o : (Int32 × rs_St)) (h : xf_X5_becomes S a1 a2 = some o) : Met l yX5_becomes (rs_wz yX5_becomes cX5_becomes 4 (some FieldType.int)) (rs_rm 2) (va_Pc [.ref (rs_ad G 91), .int a1, .int a2] (rs_pre G S)) (va_Qi (fun r S2 => (r, S2) = o) (rs_post G) (rs_A G)) 0 0 (rs_A G) := by
  refine rs_met hG (by decide) (Nat.le_of_ble_eq_true rfl) ?_
  intro p e s m args below meth c C hr hlk
  rw [xf_X5_becomes] at h
  refine rs_aload_n (i := 0) C dX5_becomes_0 rfl rfl rfl ?_
  refine rg_X5_0 C kk_91 wl_X5_7 dX5_becomes_1 rfl ?_
  refine rs_iload_n (i := 1) C dX5_becomes_4 rfl rfl rfl ?_
  obtain ⟨z1, h⟩ := rs_ck h
  refine rs_ialdn C kk_92 ll_92 z1 dX5_becomes_5 rfl ?_
  refine rs_nmi h (fun x2 h => ?_)
  refine rs_istore_n (i := 3) C dX5_becomes_6 rfl (by decide) rfl ?_
  refine rs_aload_n (i := 0) C dX5_becomes_7 rfl rfl rfl ?_
  refine rg_X5_0 C kk_91 wl_X5_7 dX5_becomes_8 rfl ?_
  refine rs_iload_n (i := 1) C dX5_becomes_11 rfl rfl rfl ?_
  refine rs_iload_n (i := 2) C dX5_becomes_12 rfl rfl rfl ?_
  obtain ⟨z4, h⟩ := rs_ck h
  refine rs_iastn C kk_92 ll_92 z4 dX5_becomes_13 rfl h (fun S3 h => ?_)
  refine rs_iload_n (i := 3) C dX5_becomes_14 rfl rfl rfl ?_
  exact rs_iret C hr hlk h dX5_becomes_15
def xf_X5_alter (S : rs_St) (a1 : Int32) (a2 : Int32) (a3 : Int32) : Option (Int32 × rs_St) := rs_b1 (xf_X5_isLamp S a1) (fun r2 => if r2 = 0 then some ((-1), S) else rs_b1 (xf_X5_in S (a2.toInt64) 0 3) (fun r5 => if r5 = 0 then some ((-1), S) else rs_b1 (xf_X5_lowOf S a2) (fun r8 => rs_b1 (xf_X5_mostOf S a2) (fun r10 => rs_b1 (xf_X5_in S (a3.toInt64) (r8.toInt64) (r10.toInt64)) (fun r12 => if r12 = 0 then some ((-1), S) else rs_b2 (xf_X5_becomes S ((4 * a1) + a2) a3) (fun r16 S15 => some (r16, S15)))))))
set_option maxRecDepth 100000 in
theorem c_X5_alter (l : Launch) (G : rs_G) (hG : rs_ok G) (S : rs_St) (a1 : Int32) (a2 : Int32) (a3 : Int32)  (o : (Int32 × rs_St)) (h : xf_X5_alter S a1 a2 a3 = some o) : Met l yX5_alter (rs_wz yX5_alter cX5_alter 4 (some FieldType.int)) (rs_rm 4) (va_Pc [.ref (rs_ad G 91), .int a1, .int a2, .int a3] (rs_pre G S)) (va_Qi (fun r S2 => (r, S2) = o) (rs_post G) (rs_A G)) 0 0 (rs_A G) := by
  refine rs_met hG (by decide) (Nat.le_of_ble_eq_true rfl) ?_
  intro p e s m args below meth c C hr hlk
  rw [xf_X5_alter] at h
  refine rs_aload_n (i := 0) C dX5_alter_0 rfl rfl rfl ?_
  refine rs_iload_n (i := 1) C dX5_alter_1 rfl rfl rfl ?_
  obtain ⟨r2, h1, h⟩ := rs_b1e h
  refine rs_callVi (r0 := r2) (S0 := S) C (rs_kd_lt kk_91 (by decide)) (rs_e5 kk_91) rfl (c_X5_isLamp l G hG S a1 _ h1) ⟨wl_X5_187, wi_yX5_isLamp, wx_yX5_isLamp, wn_X5, wc_yX5_isLamp⟩ wy_yX5_isLamp (by decide) ⟨rfl, rfl⟩ rfl rfl (Nat.le_of_ble_eq_true rfl) dX5_alter_2 rfl ?_
  refine rs_if_eq (tgt := 51) C dX5_alter_5 (by decide) rfl (fun z3 => ?_) (fun z3 => ?_)
  · replace h := rs_it z3 h
    refine rs_iconst (v := (-1)) C dX5_alter_51 (by decide) rfl ?_
    exact rs_iret C hr hlk h dX5_alter_52
  · replace h := rs_if z3 h
    refine rs_iload_n (i := 2) C dX5_alter_8 rfl rfl rfl ?_
    refine rs_i2l C dX5_alter_9 rfl ?_
    refine rs_lconst (v := 0) C dX5_alter_10 (by decide) rfl ?_
    refine rs_ldc2 C dX5_alter_11 wk_X5_196 rfl ?_
    obtain ⟨r5, h4, h⟩ := rs_b1e h
    refine rs_callSi (r0 := r5) (S0 := S) C (c_X5_in l G hG S (a2.toInt64) 0 3 _ h4) ⟨wl_X5_61, ws_yX5_in, wn_X5, wc_yX5_in⟩ wy_yX5_in (by decide) ⟨rfl, rfl⟩ rfl rfl (Nat.le_of_ble_eq_true rfl) dX5_alter_14 rfl ?_
    refine rs_if_eq (tgt := 51) C dX5_alter_17 (by decide) rfl (fun z6 => ?_) (fun z6 => ?_)
    · replace h := rs_it z6 h
      refine rs_iconst (v := (-1)) C dX5_alter_51 (by decide) rfl ?_
      exact rs_iret C hr hlk h dX5_alter_52
    · replace h := rs_if z6 h
      refine rs_iload_n (i := 3) C dX5_alter_20 rfl rfl rfl ?_
      refine rs_i2l C dX5_alter_21 rfl ?_
      refine rs_iload_n (i := 2) C dX5_alter_22 rfl rfl rfl ?_
      obtain ⟨r8, h7, h⟩ := rs_b1e h
      refine rs_callSi (r0 := r8) (S0 := S) C (c_X5_lowOf l G hG S a2 _ h7) ⟨wl_X5_124, ws_yX5_lowOf, wn_X5, wc_yX5_lowOf⟩ wy_yX5_lowOf (by decide) ⟨rfl, rfl⟩ rfl rfl (Nat.le_of_ble_eq_true rfl) dX5_alter_23 rfl ?_
      refine rs_i2l C dX5_alter_26 rfl ?_
      refine rs_iload_n (i := 2) C dX5_alter_27 rfl rfl rfl ?_
      obtain ⟨r10, h9, h⟩ := rs_b1e h
      refine rs_callSi (r0 := r10) (S0 := S) C (c_X5_mostOf l G hG S a2 _ h9) ⟨wl_X5_127, ws_yX5_mostOf, wn_X5, wc_yX5_mostOf⟩ wy_yX5_mostOf (by decide) ⟨rfl, rfl⟩ rfl rfl (Nat.le_of_ble_eq_true rfl) dX5_alter_28 rfl ?_
      refine rs_i2l C dX5_alter_31 rfl ?_
      obtain ⟨r12, h11, h⟩ := rs_b1e h
      refine rs_callSi (r0 := r12) (S0 := S) C (c_X5_in l G hG S (a3.toInt64) (r8.toInt64) (r10.toInt64) _ h11) ⟨wl_X5_61, ws_yX5_in, wn_X5, wc_yX5_in⟩ wy_yX5_in (by decide) ⟨rfl, rfl⟩ rfl rfl (Nat.le_of_ble_eq_true rfl) dX5_alter_32 rfl ?_
      refine rs_if_eq (tgt := 51) C dX5_alter_35 (by decide) rfl (fun z13 => ?_) (fun z13 => ?_)
      · replace h := rs_it z13 h
        refine rs_iconst (v := (-1)) C dX5_alter_51 (by decide) rfl ?_
        exact rs_iret C hr hlk h dX5_alter_52
      · replace h := rs_if z13 h
        refine rs_aload_n (i := 0) C dX5_alter_38 rfl rfl rfl ?_
        refine rs_iconst (v := 4) C dX5_alter_39 (by decide) rfl ?_
        refine rs_iload_n (i := 1) C dX5_alter_40 rfl rfl rfl ?_
        refine rs_imul C dX5_alter_41 rfl ?_
        refine rs_iload_n (i := 2) C dX5_alter_42 rfl rfl rfl ?_
        refine rs_iadd C dX5_alter_43 rfl ?_
        refine rs_iload_n (i := 3) C dX5_alter_44 rfl rfl rfl ?_
        obtain ⟨r16, S15, h14, h⟩ := rs_b2e h
        refine rs_callVi (r0 := r16) (S0 := S15) C (rs_kd_lt kk_91 (by decide)) (rs_e5 kk_91) rfl (c_X5_becomes l G hG S ((4 * a1) + a2) a3 _ h14) ⟨wl_X5_198, wi_yX5_becomes, wx_yX5_becomes, wn_X5, wc_yX5_becomes⟩ wy_yX5_becomes (by decide) ⟨rfl, rfl⟩ rfl rfl (Nat.le_of_ble_eq_true rfl) dX5_alter_45 rfl ?_
        refine rs_goto (tgt := 52) C dX5_alter_48 (by decide) ?_
        exact rs_iret C hr hlk h dX5_alter_52
def xf_X5_tell (S : rs_St) (a1 : Int32) (a2 : Int32) : Option (Int32 × rs_St) := rs_b1 (xf_X5_in S (a1.toInt64) 0 3) (fun r2 => if r2 = 0 then some ((-1), S) else rs_b1 (xf_X5_lowTold S a1) (fun r5 => rs_b1 (xf_X5_mostTold S a1) (fun r7 => rs_b1 (xf_X5_in S (a2.toInt64) (r5.toInt64) (r7.toInt64)) (fun r9 => if r9 = 0 then some ((-1), S) else rs_b2 (xf_X5_becomes S (17 + a1) a2) (fun r13 S12 => some (r13, S12))))))
set_option maxRecDepth 100000 in
theorem c_X5_tell (l : Launch) (G : rs_G) (hG : rs_ok G) (S : rs_St) (a1 : Int32) (a2 : Int32)  (o : (Int32 × rs_St)) (h : xf_X5_tell S a1 a2 = some o) : Met l yX5_tell (rs_wz yX5_tell cX5_tell 3 (some FieldType.int)) (rs_rm 3) (va_Pc [.ref (rs_ad G 91), .int a1, .int a2] (rs_pre G S)) (va_Qi (fun r S2 => (r, S2) = o) (rs_post G) (rs_A G)) 0 0 (rs_A G) := by
  refine rs_met hG (by decide) (Nat.le_of_ble_eq_true rfl) ?_
  intro p e s m args below meth c C hr hlk
  rw [xf_X5_tell] at h
  refine rs_iload_n (i := 1) C dX5_tell_0 rfl rfl rfl ?_
  refine rs_i2l C dX5_tell_1 rfl ?_
  refine rs_lconst (v := 0) C dX5_tell_2 (by decide) rfl ?_
  refine rs_ldc2 C dX5_tell_3 wk_X5_196 rfl ?_
  obtain ⟨r2, h1, h⟩ := rs_b1e h
  refine rs_callSi (r0 := r2) (S0 := S) C (c_X5_in l G hG S (a1.toInt64) 0 3 _ h1) ⟨wl_X5_61, ws_yX5_in, wn_X5, wc_yX5_in⟩ wy_yX5_in (by decide) ⟨rfl, rfl⟩ rfl rfl (Nat.le_of_ble_eq_true rfl) dX5_tell_6 rfl ?_
  refine rs_if_eq (tgt := 42) C dX5_tell_9 (by decide) rfl (fun z3 => ?_) (fun z3 => ?_)
  · replace h := rs_it z3 h
    refine rs_iconst (v := (-1)) C dX5_tell_42 (by decide) rfl ?_
    exact rs_iret C hr hlk h dX5_tell_43
  · replace h := rs_if z3 h
    refine rs_iload_n (i := 2) C dX5_tell_12 rfl rfl rfl ?_
    refine rs_i2l C dX5_tell_13 rfl ?_
    refine rs_iload_n (i := 1) C dX5_tell_14 rfl rfl rfl ?_
    obtain ⟨r5, h4, h⟩ := rs_b1e h
    refine rs_callSi (r0 := r5) (S0 := S) C (c_X5_lowTold l G hG S a1 _ h4) ⟨wl_X5_114, ws_yX5_lowTold, wn_X5, wc_yX5_lowTold⟩ wy_yX5_lowTold (by decide) ⟨rfl, rfl⟩ rfl rfl (Nat.le_of_ble_eq_true rfl) dX5_tell_15 rfl ?_
    refine rs_i2l C dX5_tell_18 rfl ?_
    refine rs_iload_n (i := 1) C dX5_tell_19 rfl rfl rfl ?_
    obtain ⟨r7, h6, h⟩ := rs_b1e h
    refine rs_callSi (r0 := r7) (S0 := S) C (c_X5_mostTold l G hG S a1 _ h6) ⟨wl_X5_117, ws_yX5_mostTold, wn_X5, wc_yX5_mostTold⟩ wy_yX5_mostTold (by decide) ⟨rfl, rfl⟩ rfl rfl (Nat.le_of_ble_eq_true rfl) dX5_tell_20 rfl ?_
    refine rs_i2l C dX5_tell_23 rfl ?_
    obtain ⟨r9, h8, h⟩ := rs_b1e h
    refine rs_callSi (r0 := r9) (S0 := S) C (c_X5_in l G hG S (a2.toInt64) (r5.toInt64) (r7.toInt64) _ h8) ⟨wl_X5_61, ws_yX5_in, wn_X5, wc_yX5_in⟩ wy_yX5_in (by decide) ⟨rfl, rfl⟩ rfl rfl (Nat.le_of_ble_eq_true rfl) dX5_tell_24 rfl ?_
    refine rs_if_eq (tgt := 42) C dX5_tell_27 (by decide) rfl (fun z10 => ?_) (fun z10 => ?_)
    · replace h := rs_it z10 h
      refine rs_iconst (v := (-1)) C dX5_tell_42 (by decide) rfl ?_
      exact rs_iret C hr hlk h dX5_tell_43
    · replace h := rs_if z10 h
      refine rs_aload_n (i := 0) C dX5_tell_30 rfl rfl rfl ?_
      refine rs_bipush (v := 17) C dX5_tell_31 (by decide) rfl ?_
      refine rs_iload_n (i := 1) C dX5_tell_33 rfl rfl rfl ?_
      refine rs_iadd C dX5_tell_34 rfl ?_
      refine rs_iload_n (i := 2) C dX5_tell_35 rfl rfl rfl ?_
      obtain ⟨r13, S12, h11, h⟩ := rs_b2e h
      refine rs_callVi (r0 := r13) (S0 := S12) C (rs_kd_lt kk_91 (by decide)) (rs_e5 kk_91) rfl (c_X5_becomes l G hG S (17 + a1) a2 _ h11) ⟨wl_X5_198, wi_yX5_becomes, wx_yX5_becomes, wn_X5, wc_yX5_becomes⟩ wy_yX5_becomes (by decide) ⟨rfl, rfl⟩ rfl rfl (Nat.le_of_ble_eq_true rfl) dX5_tell_36 rfl ?_
      refine rs_goto (tgt := 43) C dX5_tell_39 (by decide) ?_
      exact rs_iret C hr hlk h dX5_tell_43
def xf_X5_put (S : rs_St) (a1 : Int32) (a2 : Int32) (a3 : Int32) : Option (Int32 × rs_St) := rs_b1 (xf_X5_in S (a1.toInt64) 0 3) (fun r2 => if r2 = 0 then some ((-1), S) else rs_b1 (xf_X5_in S (a2.toInt64) 1 9) (fun r5 => if r5 = 0 then some ((-1), S) else rs_b1 (xf_X5_in S (a3.toInt64) 1 12) (fun r8 => if r8 = 0 then some ((-1), S) else if (rs_gi S 92 16) = 4 then some ((-3), S) else rs_lt (4 * (rs_gi S 92 16)) (fun x11 => if (x11 + 0) < 0 ∨ 153 ≤ (x11 + 0).toNatClampNeg then none else rs_lt (rs_si S 92 (x11 + 0).toNatClampNeg a1) (fun S12 => if (x11 + 1) < 0 ∨ 153 ≤ (x11 + 1).toNatClampNeg then none else rs_lt (rs_si S12 92 (x11 + 1).toNatClampNeg a2) (fun S14 => if (x11 + 2) < 0 ∨ 153 ≤ (x11 + 2).toNatClampNeg then none else rs_lt (rs_si S14 92 (x11 + 2).toNatClampNeg a3) (fun S16 => if (x11 + 3) < 0 ∨ 153 ≤ (x11 + 3).toNatClampNeg then none else rs_lt (rs_si S16 92 (x11 + 3).toNatClampNeg 0) (fun S18 => rs_lt (rs_si S18 92 16 ((rs_gi S18 92 16) + 1)) (fun S20 => some ((rs_gi S20 92 16), S20))))))))))
set_option maxRecDepth 100000 in
theorem c_X5_put (l : Launch) (G : rs_G) (hG : rs_ok G) (S : rs_St) (a1 : Int32) (a2 : Int32) (a3 : Int32)  (o : (Int32 × rs_St)) (h : xf_X5_put S a1 a2 a3 = some o) : Met l yX5_put (rs_wz yX5_put cX5_put 5 (some FieldType.int)) (rs_rm 3) (va_Pc [.ref (rs_ad G 91), .int a1, .int a2, .int a3] (rs_pre G S)) (va_Qi (fun r S2 => (r, S2) = o) (rs_post G) (rs_A G)) 0 0 (rs_A G) := by
  refine rs_met hG (by decide) (Nat.le_of_ble_eq_true rfl) ?_
  intro p e s m args below meth c C hr hlk
  rw [xf_X5_put] at h
  refine rs_iload_n (i := 1) C dX5_put_0 rfl rfl rfl ?_
  refine rs_i2l C dX5_put_1 rfl ?_
  refine rs_lconst (v := 0) C dX5_put_2 (by decide) rfl ?_
  refine rs_ldc2 C dX5_put_3 wk_X5_196 rfl ?_
  obtain ⟨r2, h1, h⟩ := rs_b1e h
  refine rs_callSi (r0 := r2) (S0 := S) C (c_X5_in l G hG S (a1.toInt64) 0 3 _ h1) ⟨wl_X5_61, ws_yX5_in, wn_X5, wc_yX5_in⟩ wy_yX5_in (by decide) ⟨rfl, rfl⟩ rfl rfl (Nat.le_of_ble_eq_true rfl) dX5_put_6 rfl ?_
  refine rs_if_eq (tgt := 36) C dX5_put_9 (by decide) rfl (fun z3 => ?_) (fun z3 => ?_)
  · replace h := rs_it z3 h
    refine rs_iconst (v := (-1)) C dX5_put_36 (by decide) rfl ?_
    exact rs_iret C hr hlk h dX5_put_37
  · replace h := rs_if z3 h
    refine rs_iload_n (i := 2) C dX5_put_12 rfl rfl rfl ?_
    refine rs_i2l C dX5_put_13 rfl ?_
    refine rs_lconst (v := 1) C dX5_put_14 (by decide) rfl ?_
    refine rs_ldc2 C dX5_put_15 wk_X5_201 rfl ?_
    obtain ⟨r5, h4, h⟩ := rs_b1e h
    refine rs_callSi (r0 := r5) (S0 := S) C (c_X5_in l G hG S (a2.toInt64) 1 9 _ h4) ⟨wl_X5_61, ws_yX5_in, wn_X5, wc_yX5_in⟩ wy_yX5_in (by decide) ⟨rfl, rfl⟩ rfl rfl (Nat.le_of_ble_eq_true rfl) dX5_put_18 rfl ?_
    refine rs_if_eq (tgt := 36) C dX5_put_21 (by decide) rfl (fun z6 => ?_) (fun z6 => ?_)
    · replace h := rs_it z6 h
      refine rs_iconst (v := (-1)) C dX5_put_36 (by decide) rfl ?_
      exact rs_iret C hr hlk h dX5_put_37
    · replace h := rs_if z6 h
      refine rs_iload_n (i := 3) C dX5_put_24 rfl rfl rfl ?_
      refine rs_i2l C dX5_put_25 rfl ?_
      refine rs_lconst (v := 1) C dX5_put_26 (by decide) rfl ?_
      refine rs_ldc2 C dX5_put_27 wk_X5_203 rfl ?_
      obtain ⟨r8, h7, h⟩ := rs_b1e h
      refine rs_callSi (r0 := r8) (S0 := S) C (c_X5_in l G hG S (a3.toInt64) 1 12 _ h7) ⟨wl_X5_61, ws_yX5_in, wn_X5, wc_yX5_in⟩ wy_yX5_in (by decide) ⟨rfl, rfl⟩ rfl rfl (Nat.le_of_ble_eq_true rfl) dX5_put_30 rfl ?_
      refine rs_if_ne (tgt := 38) C dX5_put_33 (by decide) rfl (fun z9 => ?_) (fun z9 => ?_)
      · replace h := rs_if z9 h
        refine rs_aload_n (i := 0) C dX5_put_38 rfl rfl rfl ?_
        refine rg_X5_0 C kk_91 wl_X5_7 dX5_put_39 rfl ?_
        refine rs_bipush (v := 16) C dX5_put_42 (by decide) rfl ?_
        refine rs_ialdc C kk_92 ll_92 16 (by decide) (by decide) dX5_put_44 rfl ?_
        refine rs_iconst (v := 4) C dX5_put_45 (by decide) rfl ?_
        refine rs_icmp_ne (tgt := 52) C dX5_put_46 (by decide) rfl (fun z10 => ?_) (fun z10 => ?_)
        · replace h := rs_if z10 h
          refine rs_iconst (v := 4) C dX5_put_52 (by decide) rfl ?_
          refine rs_aload_n (i := 0) C dX5_put_53 rfl rfl rfl ?_
          refine rg_X5_0 C kk_91 wl_X5_7 dX5_put_54 rfl ?_
          refine rs_bipush (v := 16) C dX5_put_57 (by decide) rfl ?_
          refine rs_ialdc C kk_92 ll_92 16 (by decide) (by decide) dX5_put_59 rfl ?_
          refine rs_imul C dX5_put_60 rfl ?_
          refine rs_nmi h (fun x11 h => ?_)
          refine rs_istore C dX5_put_61 (by decide) rfl ?_
          refine rs_aload_n (i := 0) C dX5_put_63 rfl rfl rfl ?_
          refine rg_X5_0 C kk_91 wl_X5_7 dX5_put_64 rfl ?_
          refine rs_iload C dX5_put_67 rfl rfl ?_
          refine rs_iconst (v := 0) C dX5_put_69 (by decide) rfl ?_
          refine rs_iadd C dX5_put_70 rfl ?_
          refine rs_iload_n (i := 1) C dX5_put_71 rfl rfl rfl ?_
          obtain ⟨z13, h⟩ := rs_ck h
          refine rs_iastn C kk_92 ll_92 z13 dX5_put_72 rfl h (fun S12 h => ?_)
          refine rs_aload_n (i := 0) C dX5_put_73 rfl rfl rfl ?_
          refine rg_X5_0 C kk_91 wl_X5_7 dX5_put_74 rfl ?_
          refine rs_iload C dX5_put_77 rfl rfl ?_
          refine rs_iconst (v := 1) C dX5_put_79 (by decide) rfl ?_
          refine rs_iadd C dX5_put_80 rfl ?_
          refine rs_iload_n (i := 2) C dX5_put_81 rfl rfl rfl ?_
          obtain ⟨z15, h⟩ := rs_ck h
          refine rs_iastn C kk_92 ll_92 z15 dX5_put_82 rfl h (fun S14 h => ?_)
          refine rs_aload_n (i := 0) C dX5_put_83 rfl rfl rfl ?_
          refine rg_X5_0 C kk_91 wl_X5_7 dX5_put_84 rfl ?_
          refine rs_iload C dX5_put_87 rfl rfl ?_
          refine rs_iconst (v := 2) C dX5_put_89 (by decide) rfl ?_
          refine rs_iadd C dX5_put_90 rfl ?_
          refine rs_iload_n (i := 3) C dX5_put_91 rfl rfl rfl ?_
          obtain ⟨z17, h⟩ := rs_ck h
          refine rs_iastn C kk_92 ll_92 z17 dX5_put_92 rfl h (fun S16 h => ?_)
          refine rs_aload_n (i := 0) C dX5_put_93 rfl rfl rfl ?_
          refine rg_X5_0 C kk_91 wl_X5_7 dX5_put_94 rfl ?_
          refine rs_iload C dX5_put_97 rfl rfl ?_
          refine rs_iconst (v := 3) C dX5_put_99 (by decide) rfl ?_
          refine rs_iadd C dX5_put_100 rfl ?_
          refine rs_iconst (v := 0) C dX5_put_101 (by decide) rfl ?_
          obtain ⟨z19, h⟩ := rs_ck h
          refine rs_iastn C kk_92 ll_92 z19 dX5_put_102 rfl h (fun S18 h => ?_)
          refine rs_aload_n (i := 0) C dX5_put_103 rfl rfl rfl ?_
          refine rg_X5_0 C kk_91 wl_X5_7 dX5_put_104 rfl ?_
          refine rs_bipush (v := 16) C dX5_put_107 (by decide) rfl ?_
          refine rs_dup2 C dX5_put_109 rfl rfl rfl ?_
          refine rs_ialdc C kk_92 ll_92 16 (by decide) (by decide) dX5_put_110 rfl ?_
          refine rs_iconst (v := 1) C dX5_put_111 (by decide) rfl ?_
          refine rs_iadd C dX5_put_112 rfl ?_
          refine rs_iastc C kk_92 ll_92 16 (by decide) (by decide) dX5_put_113 rfl h (fun S20 h => ?_)
          refine rs_aload_n (i := 0) C dX5_put_114 rfl rfl rfl ?_
          refine rg_X5_0 C kk_91 wl_X5_7 dX5_put_115 rfl ?_
          refine rs_bipush (v := 16) C dX5_put_118 (by decide) rfl ?_
          refine rs_ialdc C kk_92 ll_92 16 (by decide) (by decide) dX5_put_120 rfl ?_
          exact rs_iret C hr hlk h dX5_put_121
        · replace h := rs_it z10 h
          refine rs_bipush (v := (-3)) C dX5_put_49 (by decide) rfl ?_
          exact rs_iret C hr hlk h dX5_put_51
      · replace h := rs_it z9 h
        refine rs_iconst (v := (-1)) C dX5_put_36 (by decide) rfl ?_
        exact rs_iret C hr hlk h dX5_put_37
def xf_X5_cut (S : rs_St) (a1 : Int32) : Option (Int32 × rs_St) := rs_b1 (xf_X5_in S (a1.toInt64) 0 ((rs_gi S 92 16).toInt64)) (fun r2 => if r2 = 0 then some ((-1), S) else rs_b2 (xf_X5_becomes S 16 a1) (fun r6 S5 => some (r6, S5)))
set_option maxRecDepth 100000 in
theorem c_X5_cut (l : Launch) (G : rs_G) (hG : rs_ok G) (S : rs_St) (a1 : Int32)  (o : (Int32 × rs_St)) (h : xf_X5_cut S a1 = some o) : Met l yX5_cut (rs_wz yX5_cut cX5_cut 2 (some FieldType.int)) (rs_rm 3) (va_Pc [.ref (rs_ad G 91), .int a1] (rs_pre G S)) (va_Qi (fun r S2 => (r, S2) = o) (rs_post G) (rs_A G)) 0 0 (rs_A G) := by
  refine rs_met hG (by decide) (Nat.le_of_ble_eq_true rfl) ?_
  intro p e s m args below meth c C hr hlk
  rw [xf_X5_cut] at h
  refine rs_iload_n (i := 1) C dX5_cut_0 rfl rfl rfl ?_
  refine rs_i2l C dX5_cut_1 rfl ?_
  refine rs_lconst (v := 0) C dX5_cut_2 (by decide) rfl ?_
  refine rs_aload_n (i := 0) C dX5_cut_3 rfl rfl rfl ?_
  refine rg_X5_0 C kk_91 wl_X5_7 dX5_cut_4 rfl ?_
  refine rs_bipush (v := 16) C dX5_cut_7 (by decide) rfl ?_
  refine rs_ialdc C kk_92 ll_92 16 (by decide) (by decide) dX5_cut_9 rfl ?_
  refine rs_i2l C dX5_cut_10 rfl ?_
  obtain ⟨r2, h1, h⟩ := rs_b1e h
  refine rs_callSi (r0 := r2) (S0 := S) C (c_X5_in l G hG S (a1.toInt64) 0 ((rs_gi S 92 16).toInt64) _ h1) ⟨wl_X5_61, ws_yX5_in, wn_X5, wc_yX5_in⟩ wy_yX5_in (by decide) ⟨rfl, rfl⟩ rfl rfl (Nat.le_of_ble_eq_true rfl) dX5_cut_11 rfl ?_
  refine rs_if_eq (tgt := 27) C dX5_cut_14 (by decide) rfl (fun z3 => ?_) (fun z3 => ?_)
  · replace h := rs_it z3 h
    refine rs_iconst (v := (-1)) C dX5_cut_27 (by decide) rfl ?_
    exact rs_iret C hr hlk h dX5_cut_28
  · replace h := rs_if z3 h
    refine rs_aload_n (i := 0) C dX5_cut_17 rfl rfl rfl ?_
    refine rs_bipush (v := 16) C dX5_cut_18 (by decide) rfl ?_
    refine rs_iload_n (i := 1) C dX5_cut_20 rfl rfl rfl ?_
    obtain ⟨r6, S5, h4, h⟩ := rs_b2e h
    refine rs_callVi (r0 := r6) (S0 := S5) C (rs_kd_lt kk_91 (by decide)) (rs_e5 kk_91) rfl (c_X5_becomes l G hG S 16 a1 _ h4) ⟨wl_X5_198, wi_yX5_becomes, wx_yX5_becomes, wn_X5, wc_yX5_becomes⟩ wy_yX5_becomes (by decide) ⟨rfl, rfl⟩ rfl rfl (Nat.le_of_ble_eq_true rfl) dX5_cut_21 rfl ?_
    refine rs_goto (tgt := 28) C dX5_cut_24 (by decide) ?_
    exact rs_iret C hr hlk h dX5_cut_28
def xf_X5_rest (S : rs_St) (a1 : Int32) : Option (Int32 × rs_St) := rs_b1 (xf_X5_in S (a1.toInt64) 0 60) (fun r2 => if r2 = 0 then some ((-1), S) else if ((rs_gi S 92 21) + a1) ≤ 99999 then rs_lt (rs_si S 92 21 ((rs_gi S 92 21) + a1)) (fun S5 => some ((rs_gi S5 92 21), S5)) else some ((-3), S))
set_option maxRecDepth 100000 in
theorem c_X5_rest (l : Launch) (G : rs_G) (hG : rs_ok G) (S : rs_St) (a1 : Int32)  (o : (Int32 × rs_St)) (h : xf_X5_rest S a1 = some o) : Met l yX5_rest (rs_wz yX5_rest cX5_rest 2 (some FieldType.int)) (rs_rm 3) (va_Pc [.ref (rs_ad G 91), .int a1] (rs_pre G S)) (va_Qi (fun r S2 => (r, S2) = o) (rs_post G) (rs_A G)) 0 0 (rs_A G) := by
  refine rs_met hG (by decide) (Nat.le_of_ble_eq_true rfl) ?_
  intro p e s m args below meth c C hr hlk
  rw [xf_X5_rest] at h
  refine rs_iload_n (i := 1) C dX5_rest_0 rfl rfl rfl ?_
  refine rs_i2l C dX5_rest_1 rfl ?_
  refine rs_lconst (v := 0) C dX5_rest_2 (by decide) rfl ?_
  refine rs_ldc2 C dX5_rest_3 wk_X5_205 rfl ?_
  obtain ⟨r2, h1, h⟩ := rs_b1e h
  refine rs_callSi (r0 := r2) (S0 := S) C (c_X5_in l G hG S (a1.toInt64) 0 60 _ h1) ⟨wl_X5_61, ws_yX5_in, wn_X5, wc_yX5_in⟩ wy_yX5_in (by decide) ⟨rfl, rfl⟩ rfl rfl (Nat.le_of_ble_eq_true rfl) dX5_rest_6 rfl ?_
  refine rs_if_ne (tgt := 14) C dX5_rest_9 (by decide) rfl (fun z3 => ?_) (fun z3 => ?_)
  · replace h := rs_if z3 h
    refine rs_aload_n (i := 0) C dX5_rest_14 rfl rfl rfl ?_
    refine rg_X5_0 C kk_91 wl_X5_7 dX5_rest_15 rfl ?_
    refine rs_bipush (v := 21) C dX5_rest_18 (by decide) rfl ?_
    refine rs_ialdc C kk_92 ll_92 21 (by decide) (by decide) dX5_rest_20 rfl ?_
    refine rs_iload_n (i := 1) C dX5_rest_21 rfl rfl rfl ?_
    refine rs_iadd C dX5_rest_22 rfl ?_
    refine rs_ldc C dX5_rest_23 wk_X5_207 rfl ?_
    refine rs_icmp_le (tgt := 31) C dX5_rest_25 (by decide) rfl (fun z4 => ?_) (fun z4 => ?_)
    · replace h := rs_it z4 h
      refine rs_aload_n (i := 0) C dX5_rest_31 rfl rfl rfl ?_
      refine rg_X5_0 C kk_91 wl_X5_7 dX5_rest_32 rfl ?_
      refine rs_bipush (v := 21) C dX5_rest_35 (by decide) rfl ?_
      refine rs_dup2 C dX5_rest_37 rfl rfl rfl ?_
      refine rs_ialdc C kk_92 ll_92 21 (by decide) (by decide) dX5_rest_38 rfl ?_
      refine rs_iload_n (i := 1) C dX5_rest_39 rfl rfl rfl ?_
      refine rs_iadd C dX5_rest_40 rfl ?_
      refine rs_iastc C kk_92 ll_92 21 (by decide) (by decide) dX5_rest_41 rfl h (fun S5 h => ?_)
      refine rs_aload_n (i := 0) C dX5_rest_42 rfl rfl rfl ?_
      refine rg_X5_0 C kk_91 wl_X5_7 dX5_rest_43 rfl ?_
      refine rs_bipush (v := 21) C dX5_rest_46 (by decide) rfl ?_
      refine rs_ialdc C kk_92 ll_92 21 (by decide) (by decide) dX5_rest_48 rfl ?_
      exact rs_iret C hr hlk h dX5_rest_49
    · replace h := rs_if z4 h
      refine rs_bipush (v := (-3)) C dX5_rest_28 (by decide) rfl ?_
      exact rs_iret C hr hlk h dX5_rest_30
  · replace h := rs_it z3 h
    refine rs_iconst (v := (-1)) C dX5_rest_12 (by decide) rfl ?_
    exact rs_iret C hr hlk h dX5_rest_13
def xf_X5_isFar (S : rs_St) (a1 : Int32) : Option Int32 := rs_b1 (xf_X5_in S (a1.toInt64) 0 40) (fun r2 => if r2 = 0 ∨ r2 = 1 then some r2 else none)
set_option maxRecDepth 100000 in
theorem c_X5_isFar (l : Launch) (G : rs_G) (hG : rs_ok G) (S : rs_St) (a1 : Int32)  (o : Int32) (h : xf_X5_isFar S a1 = some o) : Met l yX5_isFar (rs_wz yX5_isFar cX5_isFar 1 (some FieldType.boolean)) (rs_rm 3) (va_Pc [.int a1] (rs_pre G S)) (va_Qi (fun r S2 => (r, S2) = (o, S)) (rs_post G) (rs_A G)) 0 0 (rs_A G) := by
  refine rs_met hG (by decide) (Nat.le_of_ble_eq_true rfl) ?_
  intro p e s m args below meth c C hr hlk
  rw [xf_X5_isFar] at h
  refine rs_iload_n (i := 0) C dX5_isFar_0 rfl rfl rfl ?_
  refine rs_i2l C dX5_isFar_1 rfl ?_
  refine rs_lconst (v := 0) C dX5_isFar_2 (by decide) rfl ?_
  refine rs_ldc2 C dX5_isFar_3 wk_X5_208 rfl ?_
  obtain ⟨r2, h1, h⟩ := rs_b1e h
  refine rs_callSi (r0 := r2) (S0 := S) C (c_X5_in l G hG S (a1.toInt64) 0 40 _ h1) ⟨wl_X5_61, ws_yX5_in, wn_X5, wc_yX5_in⟩ wy_yX5_in (by decide) ⟨rfl, rfl⟩ rfl rfl (Nat.le_of_ble_eq_true rfl) dX5_isFar_6 rfl ?_
  obtain ⟨z3, h⟩ := rs_ckp h
  exact rs_zret C hr hlk z3 (rs_pr h) dX5_isFar_9
def xf_X5_shoot (S : rs_St) (a1 : Int32) : Option (Int32 × rs_St) := rs_b1 (xf_X5_isFar S a1) (fun r2 => if r2 = 0 then some ((-1), S) else if ((rs_gi S 92 21) + (a1 * (rs_gi S 92 20))) ≤ 99999 then rs_b1 (xf_X5_starts S) (fun S6 => rs_b1 (xf_X5_shotsGo S6 a1) (fun S8 => rs_b1 (xf_X5_settles S8) (fun S10 => some ((rs_gi S10 91 15), S10)))) else some ((-3), S))
set_option maxRecDepth 100000 in
theorem c_X5_shoot (l : Launch) (G : rs_G) (hG : rs_ok G) (S : rs_St) (a1 : Int32)  (o : (Int32 × rs_St)) (h : xf_X5_shoot S a1 = some o) : Met l yX5_shoot (rs_wz yX5_shoot cX5_shoot 2 (some FieldType.int)) (rs_rm 8) (va_Pc [.ref (rs_ad G 91), .int a1] (rs_pre G S)) (va_Qi (fun r S2 => (r, S2) = o) (rs_post G) (rs_A G)) 0 0 (rs_A G) := by
  refine rs_met hG (by decide) (Nat.le_of_ble_eq_true rfl) ?_
  intro p e s m args below meth c C hr hlk
  rw [xf_X5_shoot] at h
  refine rs_iload_n (i := 1) C dX5_shoot_0 rfl rfl rfl ?_
  obtain ⟨r2, h1, h⟩ := rs_b1e h
  refine rs_callSi (r0 := r2) (S0 := S) C (c_X5_isFar l G hG S a1 _ h1) ⟨wl_X5_210, ws_yX5_isFar, wn_X5, wc_yX5_isFar⟩ wy_yX5_isFar (by decide) ⟨rfl, rfl⟩ rfl rfl (Nat.le_of_ble_eq_true rfl) dX5_shoot_1 rfl ?_
  refine rs_if_ne (tgt := 9) C dX5_shoot_4 (by decide) rfl (fun z3 => ?_) (fun z3 => ?_)
  · replace h := rs_if z3 h
    refine rs_aload_n (i := 0) C dX5_shoot_9 rfl rfl rfl ?_
    refine rg_X5_0 C kk_91 wl_X5_7 dX5_shoot_10 rfl ?_
    refine rs_bipush (v := 21) C dX5_shoot_13 (by decide) rfl ?_
    refine rs_ialdc C kk_92 ll_92 21 (by decide) (by decide) dX5_shoot_15 rfl ?_
    refine rs_iload_n (i := 1) C dX5_shoot_16 rfl rfl rfl ?_
    refine rs_aload_n (i := 0) C dX5_shoot_17 rfl rfl rfl ?_
    refine rg_X5_0 C kk_91 wl_X5_7 dX5_shoot_18 rfl ?_
    refine rs_bipush (v := 20) C dX5_shoot_21 (by decide) rfl ?_
    refine rs_ialdc C kk_92 ll_92 20 (by decide) (by decide) dX5_shoot_23 rfl ?_
    refine rs_imul C dX5_shoot_24 rfl ?_
    refine rs_iadd C dX5_shoot_25 rfl ?_
    refine rs_ldc C dX5_shoot_26 wk_X5_207 rfl ?_
    refine rs_icmp_le (tgt := 34) C dX5_shoot_28 (by decide) rfl (fun z4 => ?_) (fun z4 => ?_)
    · replace h := rs_it z4 h
      refine rs_aload_n (i := 0) C dX5_shoot_34 rfl rfl rfl ?_
      obtain ⟨S6, h5, h⟩ := rs_b1e h
      refine rs_callVv (S0 := S6) C (rs_kd_lt kk_91 (by decide)) (rs_e5 kk_91) rfl (c_X5_starts l G hG S _ h5) ⟨wl_X5_184, wi_yX5_starts, wx_yX5_starts, wn_X5, wc_yX5_starts⟩ wy_yX5_starts (by decide) ⟨rfl, rfl⟩ rfl rfl (Nat.le_of_ble_eq_true rfl) dX5_shoot_35 rfl ?_
      refine rs_aload_n (i := 0) C dX5_shoot_38 rfl rfl rfl ?_
      refine rs_iload_n (i := 1) C dX5_shoot_39 rfl rfl rfl ?_
      obtain ⟨S8, h7, h⟩ := rs_b1e h
      refine rs_callVv (S0 := S8) C (rs_kd_lt kk_91 (by decide)) (rs_e5 kk_91) rfl (c_X5_shotsGo l G hG S6 a1 _ h7) ⟨wl_X5_213, wi_yX5_shotsGo, wx_yX5_shotsGo, wn_X5, wc_yX5_shotsGo⟩ wy_yX5_shotsGo (by decide) ⟨rfl, rfl⟩ rfl rfl (Nat.le_of_ble_eq_true rfl) dX5_shoot_40 rfl ?_
      refine rs_aload_n (i := 0) C dX5_shoot_43 rfl rfl rfl ?_
      obtain ⟨S10, h9, h⟩ := rs_b1e h
      refine rs_callVv (S0 := S10) C (rs_kd_lt kk_91 (by decide)) (rs_e5 kk_91) rfl (c_X5_settles l G hG S8 _ h9) ⟨wl_X5_216, wi_yX5_settles, wx_yX5_settles, wn_X5, wc_yX5_settles⟩ wy_yX5_settles (by decide) ⟨rfl, rfl⟩ rfl rfl (Nat.le_of_ble_eq_true rfl) dX5_shoot_44 rfl ?_
      refine rs_aload_n (i := 0) C dX5_shoot_47 rfl rfl rfl ?_
      refine rg_X5_15 C kk_91 wl_X5_150 dX5_shoot_48 rfl ?_
      exact rs_iret C hr hlk h dX5_shoot_51
    · replace h := rs_if z4 h
      refine rs_bipush (v := (-3)) C dX5_shoot_31 (by decide) rfl ?_
      exact rs_iret C hr hlk h dX5_shoot_33
  · replace h := rs_it z3 h
    refine rs_iconst (v := (-1)) C dX5_shoot_7 (by decide) rfl ?_
    exact rs_iret C hr hlk h dX5_shoot_8
def xf_X5_runs (S : rs_St) (a1 : Int32) (a2 : Int32) : Option (Int32 × rs_St) := rs_b1 (xf_X5_isFar S a1) (fun r2 => if r2 = 0 then some ((-1), S) else rs_b1 (xf_X5_in S (a2.toInt64) 0 3) (fun r5 => if r5 = 0 then some ((-1), S) else rs_b1 (xf_X5_starts S) (fun S8 => rs_b1 (xf_X5_shotsGo S8 a1) (fun S10 => if a2 = 0 then some ((rs_gi S10 91 15), S10) else if a2 = 1 then some ((rs_gi S10 91 16), S10) else if a2 = 2 then some ((rs_gi S10 91 17), S10) else some ((rs_gi S10 91 18), S10)))))
set_option maxRecDepth 100000 in
theorem c_X5_runs (l : Launch) (G : rs_G) (hG : rs_ok G) (S : rs_St) (a1 : Int32) (a2 : Int32)  (o : (Int32 × rs_St)) (h : xf_X5_runs S a1 a2 = some o) : Met l yX5_runs (rs_wz yX5_runs cX5_runs 3 (some FieldType.int)) (rs_rm 8) (va_Pc [.ref (rs_ad G 91), .int a1, .int a2] (rs_pre G S)) (va_Qi (fun r S2 => (r, S2) = o) (rs_post G) (rs_A G)) 0 0 (rs_A G) := by
  refine rs_met hG (by decide) (Nat.le_of_ble_eq_true rfl) ?_
  intro p e s m args below meth c C hr hlk
  rw [xf_X5_runs] at h
  refine rs_iload_n (i := 1) C dX5_runs_0 rfl rfl rfl ?_
  obtain ⟨r2, h1, h⟩ := rs_b1e h
  refine rs_callSi (r0 := r2) (S0 := S) C (c_X5_isFar l G hG S a1 _ h1) ⟨wl_X5_210, ws_yX5_isFar, wn_X5, wc_yX5_isFar⟩ wy_yX5_isFar (by decide) ⟨rfl, rfl⟩ rfl rfl (Nat.le_of_ble_eq_true rfl) dX5_runs_1 rfl ?_
  refine rs_if_eq (tgt := 19) C dX5_runs_4 (by decide) rfl (fun z3 => ?_) (fun z3 => ?_)
  · replace h := rs_it z3 h
    refine rs_iconst (v := (-1)) C dX5_runs_19 (by decide) rfl ?_
    exact rs_iret C hr hlk h dX5_runs_20
  · replace h := rs_if z3 h
    refine rs_iload_n (i := 2) C dX5_runs_7 rfl rfl rfl ?_
    refine rs_i2l C dX5_runs_8 rfl ?_
    refine rs_lconst (v := 0) C dX5_runs_9 (by decide) rfl ?_
    refine rs_ldc2 C dX5_runs_10 wk_X5_196 rfl ?_
    obtain ⟨r5, h4, h⟩ := rs_b1e h
    refine rs_callSi (r0 := r5) (S0 := S) C (c_X5_in l G hG S (a2.toInt64) 0 3 _ h4) ⟨wl_X5_61, ws_yX5_in, wn_X5, wc_yX5_in⟩ wy_yX5_in (by decide) ⟨rfl, rfl⟩ rfl rfl (Nat.le_of_ble_eq_true rfl) dX5_runs_13 rfl ?_
    refine rs_if_ne (tgt := 21) C dX5_runs_16 (by decide) rfl (fun z6 => ?_) (fun z6 => ?_)
    · replace h := rs_if z6 h
      refine rs_aload_n (i := 0) C dX5_runs_21 rfl rfl rfl ?_
      obtain ⟨S8, h7, h⟩ := rs_b1e h
      refine rs_callVv (S0 := S8) C (rs_kd_lt kk_91 (by decide)) (rs_e5 kk_91) rfl (c_X5_starts l G hG S _ h7) ⟨wl_X5_184, wi_yX5_starts, wx_yX5_starts, wn_X5, wc_yX5_starts⟩ wy_yX5_starts (by decide) ⟨rfl, rfl⟩ rfl rfl (Nat.le_of_ble_eq_true rfl) dX5_runs_22 rfl ?_
      refine rs_aload_n (i := 0) C dX5_runs_25 rfl rfl rfl ?_
      refine rs_iload_n (i := 1) C dX5_runs_26 rfl rfl rfl ?_
      obtain ⟨S10, h9, h⟩ := rs_b1e h
      refine rs_callVv (S0 := S10) C (rs_kd_lt kk_91 (by decide)) (rs_e5 kk_91) rfl (c_X5_shotsGo l G hG S8 a1 _ h9) ⟨wl_X5_213, wi_yX5_shotsGo, wx_yX5_shotsGo, wn_X5, wc_yX5_shotsGo⟩ wy_yX5_shotsGo (by decide) ⟨rfl, rfl⟩ rfl rfl (Nat.le_of_ble_eq_true rfl) dX5_runs_27 rfl ?_
      refine rs_iload_n (i := 2) C dX5_runs_30 rfl rfl rfl ?_
      by_cases z12 : a2 = 0
      · replace h := rs_it z12 h
        refine rs_tabIn (tgt := 56) C (25) dX5_runs_31 0 z12 (by decide) (by decide) rfl (by decide) ?_
        refine rs_aload_n (i := 0) C dX5_runs_56 rfl rfl rfl ?_
        refine rg_X5_15 C kk_91 wl_X5_150 dX5_runs_57 rfl ?_
        exact rs_iret C hr hlk h dX5_runs_60
      · replace h := rs_if z12 h
        by_cases z13 : a2 = 1
        · replace h := rs_it z13 h
          refine rs_tabIn (tgt := 61) C (30) dX5_runs_31 1 z13 (by decide) (by decide) rfl (by decide) ?_
          refine rs_aload_n (i := 0) C dX5_runs_61 rfl rfl rfl ?_
          refine rg_X5_16 C kk_91 wl_X5_153 dX5_runs_62 rfl ?_
          exact rs_iret C hr hlk h dX5_runs_65
        · replace h := rs_if z13 h
          by_cases z14 : a2 = 2
          · replace h := rs_it z14 h
            refine rs_tabIn (tgt := 66) C (35) dX5_runs_31 2 z14 (by decide) (by decide) rfl (by decide) ?_
            refine rs_aload_n (i := 0) C dX5_runs_66 rfl rfl rfl ?_
            refine rg_X5_17 C kk_91 wl_X5_156 dX5_runs_67 rfl ?_
            exact rs_iret C hr hlk h dX5_runs_70
          · replace h := rs_if z14 h
            refine rs_tabOut (tgt := 71) C dX5_runs_31 (by have e0 := rs_nev z12 (0) (by decide); have e1 := rs_nev z13 (1) (by decide); have e2 := rs_nev z14 (2) (by decide); omega) (by decide) ?_
            refine rs_aload_n (i := 0) C dX5_runs_71 rfl rfl rfl ?_
            refine rg_X5_18 C kk_91 wl_X5_159 dX5_runs_72 rfl ?_
            exact rs_iret C hr hlk h dX5_runs_75
    · replace h := rs_it z6 h
      refine rs_iconst (v := (-1)) C dX5_runs_19 (by decide) rfl ?_
      exact rs_iret C hr hlk h dX5_runs_20
def xf_X5_ahead (S : rs_St) (a1 : Int32) (a2 : Int32) : Option (Int32 × rs_St) := rs_b1 (xf_X5_isFar S a1) (fun r2 => if r2 = 0 then some ((-1), S) else rs_b1 (xf_X5_in S (a2.toInt64) 0 (((rs_gi S 92 17) - 1).toInt64)) (fun r5 => if r5 = 0 then some ((-1), S) else rs_b1 (xf_X5_starts S) (fun S8 => rs_b1 (xf_X5_shotsGo S8 (a1 + 1)) (fun S10 => if a2 < 0 ∨ 8 ≤ a2.toNatClampNeg then none else some ((rs_gi S10 98 a2.toNatClampNeg), S10)))))
set_option maxRecDepth 100000 in
theorem c_X5_ahead (l : Launch) (G : rs_G) (hG : rs_ok G) (S : rs_St) (a1 : Int32) (a2 : Int32)  (o : (Int32 × rs_St)) (h : xf_X5_ahead S a1 a2 = some o) : Met l yX5_ahead (rs_wz yX5_ahead cX5_ahead 3 (some FieldType.int)) (rs_rm 8) (va_Pc [.ref (rs_ad G 91), .int a1, .int a2] (rs_pre G S)) (va_Qi (fun r S2 => (r, S2) = o) (rs_post G) (rs_A G)) 0 0 (rs_A G) := by
  refine rs_met hG (by decide) (Nat.le_of_ble_eq_true rfl) ?_
  intro p e s m args below meth c C hr hlk
  rw [xf_X5_ahead] at h
  refine rs_iload_n (i := 1) C dX5_ahead_0 rfl rfl rfl ?_
  obtain ⟨r2, h1, h⟩ := rs_b1e h
  refine rs_callSi (r0 := r2) (S0 := S) C (c_X5_isFar l G hG S a1 _ h1) ⟨wl_X5_210, ws_yX5_isFar, wn_X5, wc_yX5_isFar⟩ wy_yX5_isFar (by decide) ⟨rfl, rfl⟩ rfl rfl (Nat.le_of_ble_eq_true rfl) dX5_ahead_1 rfl ?_
  refine rs_if_eq (tgt := 26) C dX5_ahead_4 (by decide) rfl (fun z3 => ?_) (fun z3 => ?_)
  · replace h := rs_it z3 h
    refine rs_iconst (v := (-1)) C dX5_ahead_26 (by decide) rfl ?_
    exact rs_iret C hr hlk h dX5_ahead_27
  · replace h := rs_if z3 h
    refine rs_iload_n (i := 2) C dX5_ahead_7 rfl rfl rfl ?_
    refine rs_i2l C dX5_ahead_8 rfl ?_
    refine rs_lconst (v := 0) C dX5_ahead_9 (by decide) rfl ?_
    refine rs_aload_n (i := 0) C dX5_ahead_10 rfl rfl rfl ?_
    refine rg_X5_0 C kk_91 wl_X5_7 dX5_ahead_11 rfl ?_
    refine rs_bipush (v := 17) C dX5_ahead_14 (by decide) rfl ?_
    refine rs_ialdc C kk_92 ll_92 17 (by decide) (by decide) dX5_ahead_16 rfl ?_
    refine rs_iconst (v := 1) C dX5_ahead_17 (by decide) rfl ?_
    refine rs_isub C dX5_ahead_18 rfl ?_
    refine rs_i2l C dX5_ahead_19 rfl ?_
    obtain ⟨r5, h4, h⟩ := rs_b1e h
    refine rs_callSi (r0 := r5) (S0 := S) C (c_X5_in l G hG S (a2.toInt64) 0 (((rs_gi S 92 17) - 1).toInt64) _ h4) ⟨wl_X5_61, ws_yX5_in, wn_X5, wc_yX5_in⟩ wy_yX5_in (by decide) ⟨rfl, rfl⟩ rfl rfl (Nat.le_of_ble_eq_true rfl) dX5_ahead_20 rfl ?_
    refine rs_if_ne (tgt := 28) C dX5_ahead_23 (by decide) rfl (fun z6 => ?_) (fun z6 => ?_)
    · replace h := rs_if z6 h
      refine rs_aload_n (i := 0) C dX5_ahead_28 rfl rfl rfl ?_
      obtain ⟨S8, h7, h⟩ := rs_b1e h
      refine rs_callVv (S0 := S8) C (rs_kd_lt kk_91 (by decide)) (rs_e5 kk_91) rfl (c_X5_starts l G hG S _ h7) ⟨wl_X5_184, wi_yX5_starts, wx_yX5_starts, wn_X5, wc_yX5_starts⟩ wy_yX5_starts (by decide) ⟨rfl, rfl⟩ rfl rfl (Nat.le_of_ble_eq_true rfl) dX5_ahead_29 rfl ?_
      refine rs_aload_n (i := 0) C dX5_ahead_32 rfl rfl rfl ?_
      refine rs_iload_n (i := 1) C dX5_ahead_33 rfl rfl rfl ?_
      refine rs_iconst (v := 1) C dX5_ahead_34 (by decide) rfl ?_
      refine rs_iadd C dX5_ahead_35 rfl ?_
      obtain ⟨S10, h9, h⟩ := rs_b1e h
      refine rs_callVv (S0 := S10) C (rs_kd_lt kk_91 (by decide)) (rs_e5 kk_91) rfl (c_X5_shotsGo l G hG S8 (a1 + 1) _ h9) ⟨wl_X5_213, wi_yX5_shotsGo, wx_yX5_shotsGo, wn_X5, wc_yX5_shotsGo⟩ wy_yX5_shotsGo (by decide) ⟨rfl, rfl⟩ rfl rfl (Nat.le_of_ble_eq_true rfl) dX5_ahead_36 rfl ?_
      refine rs_aload_n (i := 0) C dX5_ahead_39 rfl rfl rfl ?_
      refine rg_X5_20 C kk_91 wl_X5_29 dX5_ahead_40 rfl ?_
      refine rs_iload_n (i := 2) C dX5_ahead_43 rfl rfl rfl ?_
      obtain ⟨z11, h⟩ := rs_ck h
      refine rs_ialdn C kk_98 ll_98 z11 dX5_ahead_44 rfl ?_
      exact rs_iret C hr hlk h dX5_ahead_45
    · replace h := rs_it z6 h
      refine rs_iconst (v := (-1)) C dX5_ahead_26 (by decide) rfl ?_
      exact rs_iret C hr hlk h dX5_ahead_27
def xf_X5_when_l20 (a1 : Int32) (K20 : rs_St → Int32 → Option (Int32 × rs_St)) : Nat → rs_St → Int32 → Option (Int32 × rs_St)
  | 0, _, _ => none
  | n20 + 1, S6, x7 => if 40 < x7 then K20 S6 x7 else rs_b1 (xf_X5_shotGoes S6) (fun S10 => if (rs_gi S10 91 19) < a1 then rs_lt (x7 + 1) (fun x12 => xf_X5_when_l20 a1 K20 n20 S10 x12) else some (x7, S10))
def xf_X5_when (S : rs_St) (a1 : Int32) : Option (Int32 × rs_St) := rs_b1 (xf_X5_in S (a1.toInt64) 0 255) (fun r2 => if r2 = 0 then some ((-1), S) else rs_b1 (xf_X5_starts S) (fun S5 => xf_X5_when_l20 a1 (fun (S13 : rs_St) (x14 : Int32) => some ((-4), S13)) rs_fu S5 0))
set_option maxRecDepth 100000 in
theorem c_X5_when (l : Launch) (G : rs_G) (hG : rs_ok G) (S : rs_St) (a1 : Int32)  (o : (Int32 × rs_St)) (h : xf_X5_when S a1 = some o) : Met l yX5_when (rs_wz yX5_when cX5_when 3 (some FieldType.int)) (rs_rm 7) (va_Pc [.ref (rs_ad G 91), .int a1] (rs_pre G S)) (va_Qi (fun r S2 => (r, S2) = o) (rs_post G) (rs_A G)) 0 0 (rs_A G) := by
  refine rs_met hG (by decide) (Nat.le_of_ble_eq_true rfl) ?_
  intro p e s m args below meth c C hr hlk
  rw [xf_X5_when] at h
  refine rs_iload_n (i := 1) C dX5_when_0 rfl rfl rfl ?_
  refine rs_i2l C dX5_when_1 rfl ?_
  refine rs_lconst (v := 0) C dX5_when_2 (by decide) rfl ?_
  refine rs_ldc2 C dX5_when_3 wk_X5_219 rfl ?_
  obtain ⟨r2, h1, h⟩ := rs_b1e h
  refine rs_callSi (r0 := r2) (S0 := S) C (c_X5_in l G hG S (a1.toInt64) 0 255 _ h1) ⟨wl_X5_61, ws_yX5_in, wn_X5, wc_yX5_in⟩ wy_yX5_in (by decide) ⟨rfl, rfl⟩ rfl rfl (Nat.le_of_ble_eq_true rfl) dX5_when_6 rfl ?_
  refine rs_if_ne (tgt := 14) C dX5_when_9 (by decide) rfl (fun z3 => ?_) (fun z3 => ?_)
  · replace h := rs_if z3 h
    refine rs_aload_n (i := 0) C dX5_when_14 rfl rfl rfl ?_
    obtain ⟨S5, h4, h⟩ := rs_b1e h
    refine rs_callVv (S0 := S5) C (rs_kd_lt kk_91 (by decide)) (rs_e5 kk_91) rfl (c_X5_starts l G hG S _ h4) ⟨wl_X5_184, wi_yX5_starts, wx_yX5_starts, wn_X5, wc_yX5_starts⟩ wy_yX5_starts (by decide) ⟨rfl, rfl⟩ rfl rfl (Nat.le_of_ble_eq_true rfl) dX5_when_15 rfl ?_
    refine rs_iconst (v := 0) C dX5_when_18 (by decide) rfl ?_
    refine rs_istore_n (i := 2) C dX5_when_19 rfl (by decide) rfl ?_
    refine rs_kw (F := fun K => xf_X5_when_l20 a1 K rs_fu S5 0) (P := fun K => ∀ (S13 : rs_St) (x14 : Int32), K S13 x14 = some o → rs_Xi G 3 p l e (rs_rm 7) s m args below meth c o S13 46 [(0, .ref (rs_ad G 91)), (1, .int a1), (2, .int x14)] []) h (fun S13 x14 h => ?_) (fun K20 hK20 h => ?_)
    · refine rs_bipush (v := (-4)) C dX5_when_46 (by decide) rfl ?_
      exact rs_iret C hr hlk h dX5_when_48
    · have L20 : ∀ (n20 : Nat) (S6 : rs_St) (x7 : Int32), xf_X5_when_l20 a1 K20 n20 S6 x7 = some o → rs_Xi G 3 p l e (rs_rm 7) s m args below meth c o S6 20 [(0, .ref (rs_ad G 91)), (1, .int a1), (2, .int x7)] [] := by
        intro n20
        induction n20 with
        | zero => intro S6 x7 h; exact (rs_no h).elim
        | succ n20 ih20 =>
          intro S6 x7 h
          rw [xf_X5_when_l20] at h
          refine rs_iload_n (i := 2) C dX5_when_20 rfl rfl rfl ?_
          refine rs_bipush (v := 40) C dX5_when_21 (by decide) rfl ?_
          refine rs_icmp_gt (tgt := 46) C dX5_when_23 (by decide) rfl (fun z8 => ?_) (fun z8 => ?_)
          · replace h := rs_it z8 h
            exact rs_subk (hK20 _ _ h) (rs_ac rfl (rs_ac rfl (rs_ac rfl rs_a0)))
          · replace h := rs_if z8 h
            refine rs_aload_n (i := 0) C dX5_when_26 rfl rfl rfl ?_
            obtain ⟨S10, h9, h⟩ := rs_b1e h
            refine rs_callVv (S0 := S10) C (rs_kd_lt kk_91 (by decide)) (rs_e5 kk_91) rfl (c_X5_shotGoes l G hG S6 _ h9) ⟨wl_X5_181, wi_yX5_shotGoes, wx_yX5_shotGoes, wn_X5, wc_yX5_shotGoes⟩ wy_yX5_shotGoes (by decide) ⟨rfl, rfl⟩ rfl rfl (Nat.le_of_ble_eq_true rfl) dX5_when_27 rfl ?_
            refine rs_aload_n (i := 0) C dX5_when_30 rfl rfl rfl ?_
            refine rg_X5_19 C kk_91 wl_X5_178 dX5_when_31 rfl ?_
            refine rs_iload_n (i := 1) C dX5_when_34 rfl rfl rfl ?_
            refine rs_icmp_lt (tgt := 40) C dX5_when_35 (by decide) rfl (fun z11 => ?_) (fun z11 => ?_)
            · replace h := rs_it z11 h
              refine rs_iincn (v := 1) C dX5_when_40 rfl (by decide) (by decide) rfl h (fun x12 h => ?_)
              refine rs_goto (tgt := 20) C dX5_when_43 (by decide) ?_
              exact rs_subk (ih20 _ _ h) (rs_ac rfl (rs_ac rfl (rs_ac rfl rs_a0)))
            · replace h := rs_if z11 h
              refine rs_iload_n (i := 2) C dX5_when_38 rfl rfl rfl ?_
              exact rs_iret C hr hlk h dX5_when_39
      exact rs_subk (L20 rs_fu _ _ h) (rs_ac rfl (rs_ac rfl (rs_ac rfl rs_a0)))
  · replace h := rs_it z3 h
    refine rs_iconst (v := (-1)) C dX5_when_12 (by decide) rfl ?_
    exact rs_iret C hr hlk h dX5_when_13
def xf_X5_again_l55 (S18 : rs_St) (K55 : Int32 → Int32 → Option (Int32 × rs_St)) : Nat → Int32 → Int32 → Option (Int32 × rs_St)
  | 0, _, _ => none
  | n55 + 1, x19, x20 => if (rs_gi S18 93 17) ≤ x20 then K55 x19 x20 else rs_jn (fun (x22 : Int32) => rs_lt (x20 + 1) (fun x24 => xf_X5_again_l55 S18 K55 n55 x22 x24)) (fun J23 => if x19 = 0 then J23 0 else if x20 < 0 ∨ 8 ≤ x20.toNatClampNeg then none else if x20 < 0 ∨ 8 ≤ x20.toNatClampNeg then none else if (rs_gi S18 98 x20.toNatClampNeg) = (rs_gi S18 99 x20.toNatClampNeg) then J23 1 else J23 0)
def xf_X5_again_l41 (K41 : rs_St → Int32 → Option (Int32 × rs_St)) : Nat → rs_St → Int32 → Option (Int32 × rs_St)
  | 0, _, _ => none
  | n41 + 1, S14, x15 => if 40 < x15 then K41 S14 x15 else rs_b1 (xf_X5_shotGoes S14) (fun S18 => xf_X5_again_l55 S18 (fun (x29 : Int32) (x30 : Int32) => if x29 = 0 then rs_lt (x15 + 1) (fun x32 => xf_X5_again_l41 K41 n41 S18 x32) else some (x15, S18)) rs_fu 1 0)
def xf_X5_again_l10 (K10 : rs_St → Int32 → Option (Int32 × rs_St)) : Nat → rs_St → Int32 → Option (Int32 × rs_St)
  | 0, _, _ => none
  | n10 + 1, S5, x6 => if (rs_gi S5 93 17) ≤ x6 then K10 S5 x6 else if x6 < 0 ∨ 8 ≤ x6.toNatClampNeg then none else if x6 < 0 ∨ 8 ≤ x6.toNatClampNeg then none else rs_lt (rs_si S5 99 x6.toNatClampNeg (rs_gi S5 98 x6.toNatClampNeg)) (fun S9 => rs_lt (x6 + 1) (fun x11 => xf_X5_again_l10 K10 n10 S9 x11))
def xf_X5_again (S : rs_St) : Option (Int32 × rs_St) := rs_b1 (xf_X5_starts S) (fun S2 => rs_b1 (xf_X5_shotGoes S2) (fun S4 => xf_X5_again_l10 (fun (S12 : rs_St) (x13 : Int32) => xf_X5_again_l41 (fun (S33 : rs_St) (x34 : Int32) => some ((-4), S33)) rs_fu S12 1) rs_fu S4 0))
set_option maxRecDepth 100000 in
theorem c_X5_again (l : Launch) (G : rs_G) (hG : rs_ok G) (S : rs_St)  (o : (Int32 × rs_St)) (h : xf_X5_again S = some o) : Met l yX5_again (rs_wz yX5_again cX5_again 4 (some FieldType.int)) (rs_rm 7) (va_Pc [.ref (rs_ad G 91)] (rs_pre G S)) (va_Qi (fun r S2 => (r, S2) = o) (rs_post G) (rs_A G)) 0 0 (rs_A G) := by
  refine rs_met hG (by decide) (Nat.le_of_ble_eq_true rfl) ?_
  intro p e s m args below meth c C hr hlk
  rw [xf_X5_again] at h
  refine rs_aload_n (i := 0) C dX5_again_0 rfl rfl rfl ?_
  obtain ⟨S2, h1, h⟩ := rs_b1e h
  refine rs_callVv (S0 := S2) C (rs_kd_lt kk_91 (by decide)) (rs_e5 kk_91) rfl (c_X5_starts l G hG S _ h1) ⟨wl_X5_184, wi_yX5_starts, wx_yX5_starts, wn_X5, wc_yX5_starts⟩ wy_yX5_starts (by decide) ⟨rfl, rfl⟩ rfl rfl (Nat.le_of_ble_eq_true rfl) dX5_again_1 rfl ?_
  refine rs_aload_n (i := 0) C dX5_again_4 rfl rfl rfl ?_
  obtain ⟨S4, h3, h⟩ := rs_b1e h
  refine rs_callVv (S0 := S4) C (rs_kd_lt kk_91 (by decide)) (rs_e5 kk_91) rfl (c_X5_shotGoes l G hG S2 _ h3) ⟨wl_X5_181, wi_yX5_shotGoes, wx_yX5_shotGoes, wn_X5, wc_yX5_shotGoes⟩ wy_yX5_shotGoes (by decide) ⟨rfl, rfl⟩ rfl rfl (Nat.le_of_ble_eq_true rfl) dX5_again_5 rfl ?_
  refine rs_iconst (v := 0) C dX5_again_8 (by decide) rfl ?_
  refine rs_istore_n (i := 1) C dX5_again_9 rfl (by decide) rfl ?_
  refine rs_kw (F := fun K => xf_X5_again_l10 K rs_fu S4 0) (P := fun K => ∀ (S12 : rs_St) (x13 : Int32), K S12 x13 = some o → rs_Xi G 4 p l e (rs_rm 7) s m args below meth c o S12 39 [(0, .ref (rs_ad G 91)), (1, .int x13)] []) h (fun S12 x13 h => ?_) (fun K10 hK10 h => ?_)
  · refine rs_iconst (v := 1) C dX5_again_39 (by decide) rfl ?_
    refine rs_istore_n (i := 1) C dX5_again_40 rfl (by decide) rfl ?_
    refine rs_kw (F := fun K => xf_X5_again_l41 K rs_fu S12 1) (P := fun K => ∀ (S33 : rs_St) (x34 : Int32), K S33 x34 = some o → rs_Xi G 4 p l e (rs_rm 7) s m args below meth c o S33 109 [(0, .ref (rs_ad G 91)), (1, .int x34)] []) h (fun S33 x34 h => ?_) (fun K41 hK41 h => ?_)
    · refine rs_bipush (v := (-4)) C dX5_again_109 (by decide) rfl ?_
      exact rs_iret C hr hlk h dX5_again_111
    · have L41 : ∀ (n41 : Nat) (S14 : rs_St) (x15 : Int32), xf_X5_again_l41 K41 n41 S14 x15 = some o → rs_Xi G 4 p l e (rs_rm 7) s m args below meth c o S14 41 [(0, .ref (rs_ad G 91)), (1, .int x15)] [] := by
        intro n41
        induction n41 with
        | zero => intro S14 x15 h; exact (rs_no h).elim
        | succ n41 ih41 =>
          intro S14 x15 h
          rw [xf_X5_again_l41] at h
          refine rs_iload_n (i := 1) C dX5_again_41 rfl rfl rfl ?_
          refine rs_bipush (v := 40) C dX5_again_42 (by decide) rfl ?_
          refine rs_icmp_gt (tgt := 109) C dX5_again_44 (by decide) rfl (fun z16 => ?_) (fun z16 => ?_)
          · replace h := rs_it z16 h
            exact rs_subk (hK41 _ _ h) (rs_ac rfl (rs_ac rfl rs_a0))
          · replace h := rs_if z16 h
            refine rs_aload_n (i := 0) C dX5_again_47 rfl rfl rfl ?_
            obtain ⟨S18, h17, h⟩ := rs_b1e h
            refine rs_callVv (S0 := S18) C (rs_kd_lt kk_91 (by decide)) (rs_e5 kk_91) rfl (c_X5_shotGoes l G hG S14 _ h17) ⟨wl_X5_181, wi_yX5_shotGoes, wx_yX5_shotGoes, wn_X5, wc_yX5_shotGoes⟩ wy_yX5_shotGoes (by decide) ⟨rfl, rfl⟩ rfl rfl (Nat.le_of_ble_eq_true rfl) dX5_again_48 rfl ?_
            refine rs_iconst (v := 1) C dX5_again_51 (by decide) rfl ?_
            refine rs_istore_n (i := 2) C dX5_again_52 rfl (by decide) rfl ?_
            refine rs_iconst (v := 0) C dX5_again_53 (by decide) rfl ?_
            refine rs_istore_n (i := 3) C dX5_again_54 rfl (by decide) rfl ?_
            refine rs_kw (F := fun K => xf_X5_again_l55 S18 K rs_fu 1 0) (P := fun K => ∀ (x29 : Int32) (x30 : Int32), K x29 x30 = some o → rs_Xi G 4 p l e (rs_rm 7) s m args below meth c o S18 97 [(0, .ref (rs_ad G 91)), (1, .int x15), (2, .int x29), (3, .int x30)] []) h (fun x29 x30 h => ?_) (fun K55 hK55 h => ?_)
            · refine rs_iload_n (i := 2) C dX5_again_97 rfl rfl rfl ?_
              refine rs_if_eq (tgt := 103) C dX5_again_98 (by decide) rfl (fun z31 => ?_) (fun z31 => ?_)
              · replace h := rs_it z31 h
                refine rs_iincn (v := 1) C dX5_again_103 rfl (by decide) (by decide) rfl h (fun x32 h => ?_)
                refine rs_goto (tgt := 41) C dX5_again_106 (by decide) ?_
                exact rs_subk (ih41 _ _ h) (rs_ac rfl (rs_ac rfl rs_a0))
              · replace h := rs_if z31 h
                refine rs_iload_n (i := 1) C dX5_again_101 rfl rfl rfl ?_
                exact rs_iret C hr hlk h dX5_again_102
            · have L55 : ∀ (n55 : Nat) (x19 : Int32) (x20 : Int32), xf_X5_again_l55 S18 K55 n55 x19 x20 = some o → rs_Xi G 4 p l e (rs_rm 7) s m args below meth c o S18 55 [(0, .ref (rs_ad G 91)), (1, .int x15), (2, .int x19), (3, .int x20)] [] := by
                intro n55
                induction n55 with
                | zero => intro x19 x20 h; exact (rs_no h).elim
                | succ n55 ih55 =>
                  intro x19 x20 h
                  rw [xf_X5_again_l55] at h
                  refine rs_iload_n (i := 3) C dX5_again_55 rfl rfl rfl ?_
                  refine rs_aload_n (i := 0) C dX5_again_56 rfl rfl rfl ?_
                  refine rg_X5_1 C kk_91 wl_X5_13 dX5_again_57 rfl ?_
                  refine rs_bipush (v := 17) C dX5_again_60 (by decide) rfl ?_
                  refine rs_ialdc C kk_93 ll_93 17 (by decide) (by decide) dX5_again_62 rfl ?_
                  refine rs_icmp_ge (tgt := 97) C dX5_again_63 (by decide) rfl (fun z21 => ?_) (fun z21 => ?_)
                  · replace h := rs_it z21 h
                    exact rs_subk (hK55 _ _ h) (rs_ac rfl (rs_ac rfl (rs_ac rfl (rs_ac rfl rs_a0))))
                  · replace h := rs_if z21 h
                    refine rs_iload_n (i := 2) C dX5_again_66 rfl rfl rfl ?_
                    refine rs_jw (P := fun J => ∀ (x22 : Int32), J x22 = some o → rs_Xi G 4 p l e (rs_rm 7) s m args below meth c o S18 90 [(0, .ref (rs_ad G 91)), (1, .int x15), (2, .int x19), (3, .int x20)] [.int x22]) h (fun x22 h => ?_) (fun J23 KJ23 h => ?_)
                    · refine rs_istore_n (i := 2) C dX5_again_90 rfl (by decide) rfl ?_
                      refine rs_iincn (v := 1) C dX5_again_91 rfl (by decide) (by decide) rfl h (fun x24 h => ?_)
                      refine rs_goto (tgt := 55) C dX5_again_94 (by decide) ?_
                      exact rs_subk (ih55 _ _ h) (rs_ac rfl (rs_ac rfl (rs_ac rfl (rs_ac rfl rs_a0))))
                    · refine rs_if_eq (tgt := 89) C dX5_again_67 (by decide) rfl (fun z25 => ?_) (fun z25 => ?_)
                      · replace h := rs_it z25 h
                        refine rs_iconst (v := 0) C dX5_again_89 (by decide) rfl ?_
                        exact rs_subk (KJ23 _ h) (rs_ac rfl (rs_ac rfl (rs_ac rfl (rs_ac rfl rs_a0))))
                      · replace h := rs_if z25 h
                        refine rs_aload_n (i := 0) C dX5_again_70 rfl rfl rfl ?_
                        refine rg_X5_20 C kk_91 wl_X5_29 dX5_again_71 rfl ?_
                        refine rs_iload_n (i := 3) C dX5_again_74 rfl rfl rfl ?_
                        obtain ⟨z26, h⟩ := rs_ck h
                        refine rs_ialdn C kk_98 ll_98 z26 dX5_again_75 rfl ?_
                        refine rs_aload_n (i := 0) C dX5_again_76 rfl rfl rfl ?_
                        refine rg_X5_21 C kk_91 wl_X5_32 dX5_again_77 rfl ?_
                        refine rs_iload_n (i := 3) C dX5_again_80 rfl rfl rfl ?_
                        obtain ⟨z27, h⟩ := rs_ck h
                        refine rs_ialdn C kk_99 ll_99 z27 dX5_again_81 rfl ?_
                        refine rs_icmp_ne (tgt := 89) C dX5_again_82 (by decide) rfl (fun z28 => ?_) (fun z28 => ?_)
                        · replace h := rs_if z28 h
                          refine rs_iconst (v := 0) C dX5_again_89 (by decide) rfl ?_
                          exact rs_subk (KJ23 _ h) (rs_ac rfl (rs_ac rfl (rs_ac rfl (rs_ac rfl rs_a0))))
                        · replace h := rs_it z28 h
                          refine rs_iconst (v := 1) C dX5_again_85 (by decide) rfl ?_
                          refine rs_goto (tgt := 90) C dX5_again_86 (by decide) ?_
                          exact rs_subk (KJ23 _ h) (rs_ac rfl (rs_ac rfl (rs_ac rfl (rs_ac rfl rs_a0))))
              exact rs_subk (L55 rs_fu _ _ h) (rs_ac rfl (rs_ac rfl (rs_ac rfl (rs_ac rfl rs_a0))))
      exact rs_subk (L41 rs_fu _ _ h) (rs_ac rfl (rs_ac rfl rs_a0))
  · have L10 : ∀ (n10 : Nat) (S5 : rs_St) (x6 : Int32), xf_X5_again_l10 K10 n10 S5 x6 = some o → rs_Xi G 4 p l e (rs_rm 7) s m args below meth c o S5 10 [(0, .ref (rs_ad G 91)), (1, .int x6)] [] := by
      intro n10
      induction n10 with
      | zero => intro S5 x6 h; exact (rs_no h).elim
      | succ n10 ih10 =>
        intro S5 x6 h
        rw [xf_X5_again_l10] at h
        refine rs_iload_n (i := 1) C dX5_again_10 rfl rfl rfl ?_
        refine rs_aload_n (i := 0) C dX5_again_11 rfl rfl rfl ?_
        refine rg_X5_1 C kk_91 wl_X5_13 dX5_again_12 rfl ?_
        refine rs_bipush (v := 17) C dX5_again_15 (by decide) rfl ?_
        refine rs_ialdc C kk_93 ll_93 17 (by decide) (by decide) dX5_again_17 rfl ?_
        refine rs_icmp_ge (tgt := 39) C dX5_again_18 (by decide) rfl (fun z7 => ?_) (fun z7 => ?_)
        · replace h := rs_it z7 h
          exact rs_subk (hK10 _ _ h) (rs_ac rfl (rs_ac rfl rs_a0))
        · replace h := rs_if z7 h
          refine rs_aload_n (i := 0) C dX5_again_21 rfl rfl rfl ?_
          refine rg_X5_21 C kk_91 wl_X5_32 dX5_again_22 rfl ?_
          refine rs_iload_n (i := 1) C dX5_again_25 rfl rfl rfl ?_
          refine rs_aload_n (i := 0) C dX5_again_26 rfl rfl rfl ?_
          refine rg_X5_20 C kk_91 wl_X5_29 dX5_again_27 rfl ?_
          refine rs_iload_n (i := 1) C dX5_again_30 rfl rfl rfl ?_
          obtain ⟨z8, h⟩ := rs_ck h
          refine rs_ialdn C kk_98 ll_98 z8 dX5_again_31 rfl ?_
          obtain ⟨z10, h⟩ := rs_ck h
          refine rs_iastn C kk_99 ll_99 z10 dX5_again_32 rfl h (fun S9 h => ?_)
          refine rs_iincn (v := 1) C dX5_again_33 rfl (by decide) (by decide) rfl h (fun x11 h => ?_)
          refine rs_goto (tgt := 10) C dX5_again_36 (by decide) ?_
          exact rs_subk (ih10 _ _ h) (rs_ac rfl (rs_ac rfl rs_a0))
    exact rs_subk (L10 rs_fu _ _ h) (rs_ac rfl (rs_ac rfl rs_a0))
def xf_X5_startsJudging (S : rs_St) (a1 : Int32) : Option rs_St := rs_lt (rs_si S 91 22 (-4)) (fun S1 => rs_lt (rs_si S1 91 23 a1) (fun S2 => some S2))
set_option maxRecDepth 100000 in
theorem c_X5_startsJudging (l : Launch) (G : rs_G) (hG : rs_ok G) (S : rs_St) (a1 : Int32)  (o : rs_St) (h : xf_X5_startsJudging S a1 = some o) : Met l yX5_startsJudging (rs_wz yX5_startsJudging cX5_startsJudging 2 none) (rs_rm 2) (va_Pc [.ref (rs_ad G 91), .int a1] (rs_pre G S)) (va_Qv (fun S2 => S2 = o) (rs_post G) (rs_A G)) 0 0 (rs_A G) := by
  refine rs_met hG (by decide) (Nat.le_of_ble_eq_true rfl) ?_
  intro p e s m args below meth c C hr hlk
  rw [xf_X5_startsJudging] at h
  refine rs_aload_n (i := 0) C dX5_startsJudging_0 rfl rfl rfl ?_
  refine rs_bipush (v := (-4)) C dX5_startsJudging_1 (by decide) rfl ?_
  refine rp_X5_22 C kk_91 wl_X5_221 dX5_startsJudging_3 rfl h (fun S1 h => ?_)
  refine rs_aload_n (i := 0) C dX5_startsJudging_6 rfl rfl rfl ?_
  refine rs_iload_n (i := 1) C dX5_startsJudging_7 rfl rfl rfl ?_
  refine rp_X5_23 C kk_91 wl_X5_224 dX5_startsJudging_8 rfl h (fun S2 h => ?_)
  exact rs_vret C hr hlk h dX5_startsJudging_11
def xf_X5_judges (S : rs_St) (a1 : Int32) (a2 : Int32) : Option rs_St := if (rs_gi S 91 23) ≤ a2 then some S else rs_lt (rs_si S 91 22 a1) (fun S2 => rs_lt (rs_si S2 91 23 a2) (fun S3 => some S3))
set_option maxRecDepth 100000 in
theorem c_X5_judges (l : Launch) (G : rs_G) (hG : rs_ok G) (S : rs_St) (a1 : Int32) (a2 : Int32)  (o : rs_St) (h : xf_X5_judges S a1 a2 = some o) : Met l yX5_judges (rs_wz yX5_judges cX5_judges 3 none) (rs_rm 2) (va_Pc [.ref (rs_ad G 91), .int a1, .int a2] (rs_pre G S)) (va_Qv (fun S2 => S2 = o) (rs_post G) (rs_A G)) 0 0 (rs_A G) := by
  refine rs_met hG (by decide) (Nat.le_of_ble_eq_true rfl) ?_
  intro p e s m args below meth c C hr hlk
  rw [xf_X5_judges] at h
  refine rs_iload_n (i := 2) C dX5_judges_0 rfl rfl rfl ?_
  refine rs_aload_n (i := 0) C dX5_judges_1 rfl rfl rfl ?_
  refine rg_X5_23 C kk_91 wl_X5_224 dX5_judges_2 rfl ?_
  refine rs_icmp_ge (tgt := 18) C dX5_judges_5 (by decide) rfl (fun z1 => ?_) (fun z1 => ?_)
  · replace h := rs_it z1 h
    exact rs_vret C hr hlk h dX5_judges_18
  · replace h := rs_if z1 h
    refine rs_aload_n (i := 0) C dX5_judges_8 rfl rfl rfl ?_
    refine rs_iload_n (i := 1) C dX5_judges_9 rfl rfl rfl ?_
    refine rp_X5_22 C kk_91 wl_X5_221 dX5_judges_10 rfl h (fun S2 h => ?_)
    refine rs_aload_n (i := 0) C dX5_judges_13 rfl rfl rfl ?_
    refine rs_iload_n (i := 2) C dX5_judges_14 rfl rfl rfl ?_
    refine rp_X5_23 C kk_91 wl_X5_224 dX5_judges_15 rfl h (fun S3 h => ?_)
    exact rs_vret C hr hlk h dX5_judges_18
def xf_X5_judged (S : rs_St) (a1 : Int32) : Option Int32 := if (rs_gi S 91 22) = (-4) then some (-4) else if a1 = 0 then some (rs_gi S 91 22) else some (rs_gi S 91 23)
set_option maxRecDepth 100000 in
theorem c_X5_judged (l : Launch) (G : rs_G) (hG : rs_ok G) (S : rs_St) (a1 : Int32)  (o : Int32) (h : xf_X5_judged S a1 = some o) : Met l yX5_judged (rs_wz yX5_judged cX5_judged 2 (some FieldType.int)) (rs_rm 2) (va_Pc [.ref (rs_ad G 91), .int a1] (rs_pre G S)) (va_Qi (fun r S2 => (r, S2) = (o, S)) (rs_post G) (rs_A G)) 0 0 (rs_A G) := by
  refine rs_met hG (by decide) (Nat.le_of_ble_eq_true rfl) ?_
  intro p e s m args below meth c C hr hlk
  rw [xf_X5_judged] at h
  refine rs_aload_n (i := 0) C dX5_judged_0 rfl rfl rfl ?_
  refine rg_X5_22 C kk_91 wl_X5_221 dX5_judged_1 rfl ?_
  refine rs_bipush (v := (-4)) C dX5_judged_4 (by decide) rfl ?_
  refine rs_icmp_ne (tgt := 14) C dX5_judged_6 (by decide) rfl (fun z1 => ?_) (fun z1 => ?_)
  · replace h := rs_if z1 h
    refine rs_iload_n (i := 1) C dX5_judged_14 rfl rfl rfl ?_
    refine rs_if_ne (tgt := 25) C dX5_judged_15 (by decide) rfl (fun z2 => ?_) (fun z2 => ?_)
    · replace h := rs_if z2 h
      refine rs_aload_n (i := 0) C dX5_judged_25 rfl rfl rfl ?_
      refine rg_X5_23 C kk_91 wl_X5_224 dX5_judged_26 rfl ?_
      exact rs_iret C hr hlk (rs_pr h) dX5_judged_29
    · replace h := rs_it z2 h
      refine rs_aload_n (i := 0) C dX5_judged_18 rfl rfl rfl ?_
      refine rg_X5_22 C kk_91 wl_X5_221 dX5_judged_19 rfl ?_
      refine rs_goto (tgt := 29) C dX5_judged_22 (by decide) ?_
      exact rs_iret C hr hlk (rs_pr h) dX5_judged_29
  · replace h := rs_it z1 h
    refine rs_bipush (v := (-4)) C dX5_judged_9 (by decide) rfl ?_
    refine rs_goto (tgt := 29) C dX5_judged_11 (by decide) ?_
    exact rs_iret C hr hlk (rs_pr h) dX5_judged_29
def xf_X5_bestOf_l9 (a1 : Int32) (a3 : Int32) (a4 : Int32) (K9 : rs_St → Int32 → Option (Int32 × rs_St)) : Nat → rs_St → Int32 → Option (Int32 × rs_St)
  | 0, _, _ => none
  | n9 + 1, S3, x4 => if a3 < x4 then K9 S3 x4 else rs_b1 (xf_X5_starts S3) (fun S7 => if a1 < 0 ∨ 51 ≤ a1.toNatClampNeg then none else rs_lt (rs_si S7 93 a1.toNatClampNeg x4) (fun S8 => rs_b1 (xf_X5_shotsGo S8 a4) (fun S11 => rs_b1 (xf_X5_judges S11 x4 (rs_gi S11 91 15)) (fun S13 => rs_lt (x4 + 1) (fun x14 => xf_X5_bestOf_l9 a1 a3 a4 K9 n9 S13 x14)))))
def xf_X5_bestOf (S : rs_St) (a1 : Int32) (a2 : Int32) (a3 : Int32) (a4 : Int32) (a5 : Int32) : Option (Int32 × rs_St) := rs_b1 (xf_X5_startsJudging S 1000000) (fun S2 => xf_X5_bestOf_l9 a1 a3 a4 (fun (S15 : rs_St) (x16 : Int32) => rs_b1 (xf_X5_judged S15 a5) (fun r18 => some (r18, S15))) rs_fu S2 a2)
set_option maxRecDepth 100000 in
theorem c_X5_bestOf (l : Launch) (G : rs_G) (hG : rs_ok G) (S : rs_St) (a1 : Int32) (a2 : Int32) (a3 : Int32) (a4 : Int32) (a5 : Int32)  (o : (Int32 × rs_St)) (h : xf_X5_bestOf S a1 a2 a3 a4 a5 = some o) : Met l yX5_bestOf (rs_wz yX5_bestOf cX5_bestOf 7 (some FieldType.int)) (rs_rm 8) (va_Pc [.ref (rs_ad G 91), .int a1, .int a2, .int a3, .int a4, .int a5] (rs_pre G S)) (va_Qi (fun r S2 => (r, S2) = o) (rs_post G) (rs_A G)) 0 0 (rs_A G) := by
  refine rs_met hG (by decide) (Nat.le_of_ble_eq_true rfl) ?_
  intro p e s m args below meth c C hr hlk
  rw [xf_X5_bestOf] at h
  refine rs_aload_n (i := 0) C dX5_bestOf_0 rfl rfl rfl ?_
  refine rs_ldc C dX5_bestOf_1 wk_X5_227 rfl ?_
  obtain ⟨S2, h1, h⟩ := rs_b1e h
  refine rs_callVv (S0 := S2) C (rs_kd_lt kk_91 (by decide)) (rs_e5 kk_91) rfl (c_X5_startsJudging l G hG S 1000000 _ h1) ⟨wl_X5_228, wi_yX5_startsJudging, wx_yX5_startsJudging, wn_X5, wc_yX5_startsJudging⟩ wy_yX5_startsJudging (by decide) ⟨rfl, rfl⟩ rfl rfl (Nat.le_of_ble_eq_true rfl) dX5_bestOf_3 rfl ?_
  refine rs_iload_n (i := 2) C dX5_bestOf_6 rfl rfl rfl ?_
  refine rs_istore C dX5_bestOf_7 (by decide) rfl ?_
  refine rs_kw (F := fun K => xf_X5_bestOf_l9 a1 a3 a4 K rs_fu S2 a2) (P := fun K => ∀ (S15 : rs_St) (x16 : Int32), K S15 x16 = some o → rs_Xi G 7 p l e (rs_rm 8) s m args below meth c o S15 49 [(0, .ref (rs_ad G 91)), (1, .int a1), (2, .int a2), (3, .int a3), (4, .int a4), (5, .int a5), (6, .int x16)] []) h (fun S15 x16 h => ?_) (fun K9 hK9 h => ?_)
  · refine rs_aload_n (i := 0) C dX5_bestOf_49 rfl rfl rfl ?_
    refine rs_iload C dX5_bestOf_50 rfl rfl ?_
    obtain ⟨r18, h17, h⟩ := rs_b1e h
    refine rs_callVi (r0 := r18) (S0 := S15) C (rs_kd_lt kk_91 (by decide)) (rs_e5 kk_91) rfl (c_X5_judged l G hG S15 a5 _ h17) ⟨wl_X5_235, wi_yX5_judged, wx_yX5_judged, wn_X5, wc_yX5_judged⟩ wy_yX5_judged (by decide) ⟨rfl, rfl⟩ rfl rfl (Nat.le_of_ble_eq_true rfl) dX5_bestOf_52 rfl ?_
    exact rs_iret C hr hlk h dX5_bestOf_55
  · have L9 : ∀ (n9 : Nat) (S3 : rs_St) (x4 : Int32), xf_X5_bestOf_l9 a1 a3 a4 K9 n9 S3 x4 = some o → rs_Xi G 7 p l e (rs_rm 8) s m args below meth c o S3 9 [(0, .ref (rs_ad G 91)), (1, .int a1), (2, .int a2), (3, .int a3), (4, .int a4), (5, .int a5), (6, .int x4)] [] := by
      intro n9
      induction n9 with
      | zero => intro S3 x4 h; exact (rs_no h).elim
      | succ n9 ih9 =>
        intro S3 x4 h
        rw [xf_X5_bestOf_l9] at h
        refine rs_iload C dX5_bestOf_9 rfl rfl ?_
        refine rs_iload_n (i := 3) C dX5_bestOf_11 rfl rfl rfl ?_
        refine rs_icmp_gt (tgt := 49) C dX5_bestOf_12 (by decide) rfl (fun z5 => ?_) (fun z5 => ?_)
        · replace h := rs_it z5 h
          exact rs_subk (hK9 _ _ h) (rs_ac rfl (rs_ac rfl (rs_ac rfl (rs_ac rfl (rs_ac rfl (rs_ac rfl (rs_ac rfl rs_a0)))))))
        · replace h := rs_if z5 h
          refine rs_aload_n (i := 0) C dX5_bestOf_15 rfl rfl rfl ?_
          obtain ⟨S7, h6, h⟩ := rs_b1e h
          refine rs_callVv (S0 := S7) C (rs_kd_lt kk_91 (by decide)) (rs_e5 kk_91) rfl (c_X5_starts l G hG S3 _ h6) ⟨wl_X5_184, wi_yX5_starts, wx_yX5_starts, wn_X5, wc_yX5_starts⟩ wy_yX5_starts (by decide) ⟨rfl, rfl⟩ rfl rfl (Nat.le_of_ble_eq_true rfl) dX5_bestOf_16 rfl ?_
          refine rs_aload_n (i := 0) C dX5_bestOf_19 rfl rfl rfl ?_
          refine rg_X5_1 C kk_91 wl_X5_13 dX5_bestOf_20 rfl ?_
          refine rs_iload_n (i := 1) C dX5_bestOf_23 rfl rfl rfl ?_
          refine rs_iload C dX5_bestOf_24 rfl rfl ?_
          obtain ⟨z9, h⟩ := rs_ck h
          refine rs_iastn C kk_93 ll_93 z9 dX5_bestOf_26 rfl h (fun S8 h => ?_)
          refine rs_aload_n (i := 0) C dX5_bestOf_27 rfl rfl rfl ?_
          refine rs_iload C dX5_bestOf_28 rfl rfl ?_
          obtain ⟨S11, h10, h⟩ := rs_b1e h
          refine rs_callVv (S0 := S11) C (rs_kd_lt kk_91 (by decide)) (rs_e5 kk_91) rfl (c_X5_shotsGo l G hG S8 a4 _ h10) ⟨wl_X5_213, wi_yX5_shotsGo, wx_yX5_shotsGo, wn_X5, wc_yX5_shotsGo⟩ wy_yX5_shotsGo (by decide) ⟨rfl, rfl⟩ rfl rfl (Nat.le_of_ble_eq_true rfl) dX5_bestOf_30 rfl ?_
          refine rs_aload_n (i := 0) C dX5_bestOf_33 rfl rfl rfl ?_
          refine rs_iload C dX5_bestOf_34 rfl rfl ?_
          refine rs_aload_n (i := 0) C dX5_bestOf_36 rfl rfl rfl ?_
          refine rg_X5_15 C kk_91 wl_X5_150 dX5_bestOf_37 rfl ?_
          obtain ⟨S13, h12, h⟩ := rs_b1e h
          refine rs_callVv (S0 := S13) C (rs_kd_lt kk_91 (by decide)) (rs_e5 kk_91) rfl (c_X5_judges l G hG S11 x4 (rs_gi S11 91 15) _ h12) ⟨wl_X5_231, wi_yX5_judges, wx_yX5_judges, wn_X5, wc_yX5_judges⟩ wy_yX5_judges (by decide) ⟨rfl, rfl⟩ rfl rfl (Nat.le_of_ble_eq_true rfl) dX5_bestOf_40 rfl ?_
          refine rs_iincn (v := 1) C dX5_bestOf_43 rfl (by decide) (by decide) rfl h (fun x14 h => ?_)
          refine rs_goto (tgt := 9) C dX5_bestOf_46 (by decide) ?_
          exact rs_subk (ih9 _ _ h) (rs_ac rfl (rs_ac rfl (rs_ac rfl (rs_ac rfl (rs_ac rfl (rs_ac rfl (rs_ac rfl rs_a0)))))))
    exact rs_subk (L9 rs_fu _ _ h) (rs_ac rfl (rs_ac rfl (rs_ac rfl (rs_ac rfl (rs_ac rfl (rs_ac rfl (rs_ac rfl rs_a0)))))))
def xf_X5_best (S : rs_St) (a1 : Int32) (a2 : Int32) (a3 : Int32) : Option (Int32 × rs_St) := rs_b1 (xf_X5_in S (a1.toInt64) 1 3) (fun r2 => if r2 = 0 then some ((-1), S) else rs_b1 (xf_X5_isFar S a2) (fun r5 => if r5 = 0 then some ((-1), S) else rs_b1 (xf_X5_isPart S a3) (fun r8 => if r8 = 0 then some ((-1), S) else rs_b1 (xf_X5_lowTold S a1) (fun r11 => rs_b1 (xf_X5_mostTold S a1) (fun r13 => rs_b2 (xf_X5_bestOf S (17 + a1) r11 r13 a2 a3) (fun r16 S15 => some (r16, S15)))))))
set_option maxRecDepth 100000 in
theorem c_X5_best (l : Launch) (G : rs_G) (hG : rs_ok G) (S : rs_St) (a1 : Int32) (a2 : Int32) (a3 : Int32)  (o : (Int32 × rs_St)) (h : xf_X5_best S a1 a2 a3 = some o) : Met l yX5_best (rs_wz yX5_best cX5_best 4 (some FieldType.int)) (rs_rm 9) (va_Pc [.ref (rs_ad G 91), .int a1, .int a2, .int a3] (rs_pre G S)) (va_Qi (fun r S2 => (r, S2) = o) (rs_post G) (rs_A G)) 0 0 (rs_A G) := by
  refine rs_met hG (by decide) (Nat.le_of_ble_eq_true rfl) ?_
  intro p e s m args below meth c C hr hlk
  rw [xf_X5_best] at h
  refine rs_iload_n (i := 1) C dX5_best_0 rfl rfl rfl ?_
  refine rs_i2l C dX5_best_1 rfl ?_
  refine rs_lconst (v := 1) C dX5_best_2 (by decide) rfl ?_
  refine rs_ldc2 C dX5_best_3 wk_X5_196 rfl ?_
  obtain ⟨r2, h1, h⟩ := rs_b1e h
  refine rs_callSi (r0 := r2) (S0 := S) C (c_X5_in l G hG S (a1.toInt64) 1 3 _ h1) ⟨wl_X5_61, ws_yX5_in, wn_X5, wc_yX5_in⟩ wy_yX5_in (by decide) ⟨rfl, rfl⟩ rfl rfl (Nat.le_of_ble_eq_true rfl) dX5_best_6 rfl ?_
  refine rs_if_eq (tgt := 47) C dX5_best_9 (by decide) rfl (fun z3 => ?_) (fun z3 => ?_)
  · replace h := rs_it z3 h
    refine rs_iconst (v := (-1)) C dX5_best_47 (by decide) rfl ?_
    exact rs_iret C hr hlk h dX5_best_48
  · replace h := rs_if z3 h
    refine rs_iload_n (i := 2) C dX5_best_12 rfl rfl rfl ?_
    obtain ⟨r5, h4, h⟩ := rs_b1e h
    refine rs_callSi (r0 := r5) (S0 := S) C (c_X5_isFar l G hG S a2 _ h4) ⟨wl_X5_210, ws_yX5_isFar, wn_X5, wc_yX5_isFar⟩ wy_yX5_isFar (by decide) ⟨rfl, rfl⟩ rfl rfl (Nat.le_of_ble_eq_true rfl) dX5_best_13 rfl ?_
    refine rs_if_eq (tgt := 47) C dX5_best_16 (by decide) rfl (fun z6 => ?_) (fun z6 => ?_)
    · replace h := rs_it z6 h
      refine rs_iconst (v := (-1)) C dX5_best_47 (by decide) rfl ?_
      exact rs_iret C hr hlk h dX5_best_48
    · replace h := rs_if z6 h
      refine rs_iload_n (i := 3) C dX5_best_19 rfl rfl rfl ?_
      obtain ⟨r8, h7, h⟩ := rs_b1e h
      refine rs_callSi (r0 := r8) (S0 := S) C (c_X5_isPart l G hG S a3 _ h7) ⟨wl_X5_238, ws_yX5_isPart, wn_X5, wc_yX5_isPart⟩ wy_yX5_isPart (by decide) ⟨rfl, rfl⟩ rfl rfl (Nat.le_of_ble_eq_true rfl) dX5_best_20 rfl ?_
      refine rs_if_eq (tgt := 47) C dX5_best_23 (by decide) rfl (fun z9 => ?_) (fun z9 => ?_)
      · replace h := rs_it z9 h
        refine rs_iconst (v := (-1)) C dX5_best_47 (by decide) rfl ?_
        exact rs_iret C hr hlk h dX5_best_48
      · replace h := rs_if z9 h
        refine rs_aload_n (i := 0) C dX5_best_26 rfl rfl rfl ?_
        refine rs_bipush (v := 17) C dX5_best_27 (by decide) rfl ?_
        refine rs_iload_n (i := 1) C dX5_best_29 rfl rfl rfl ?_
        refine rs_iadd C dX5_best_30 rfl ?_
        refine rs_iload_n (i := 1) C dX5_best_31 rfl rfl rfl ?_
        obtain ⟨r11, h10, h⟩ := rs_b1e h
        refine rs_callSi (r0 := r11) (S0 := S) C (c_X5_lowTold l G hG S a1 _ h10) ⟨wl_X5_114, ws_yX5_lowTold, wn_X5, wc_yX5_lowTold⟩ wy_yX5_lowTold (by decide) ⟨rfl, rfl⟩ rfl rfl (Nat.le_of_ble_eq_true rfl) dX5_best_32 rfl ?_
        refine rs_iload_n (i := 1) C dX5_best_35 rfl rfl rfl ?_
        obtain ⟨r13, h12, h⟩ := rs_b1e h
        refine rs_callSi (r0 := r13) (S0 := S) C (c_X5_mostTold l G hG S a1 _ h12) ⟨wl_X5_117, ws_yX5_mostTold, wn_X5, wc_yX5_mostTold⟩ wy_yX5_mostTold (by decide) ⟨rfl, rfl⟩ rfl rfl (Nat.le_of_ble_eq_true rfl) dX5_best_36 rfl ?_
        refine rs_iload_n (i := 2) C dX5_best_39 rfl rfl rfl ?_
        refine rs_iload_n (i := 3) C dX5_best_40 rfl rfl rfl ?_
        obtain ⟨r16, S15, h14, h⟩ := rs_b2e h
        refine rs_callVi (r0 := r16) (S0 := S15) C (rs_kd_lt kk_91 (by decide)) (rs_e5 kk_91) rfl (c_X5_bestOf l G hG S (17 + a1) r11 r13 a2 a3 _ h14) ⟨wl_X5_241, wi_yX5_bestOf, wx_yX5_bestOf, wn_X5, wc_yX5_bestOf⟩ wy_yX5_bestOf (by decide) ⟨rfl, rfl⟩ rfl rfl (Nat.le_of_ble_eq_true rfl) dX5_best_41 rfl ?_
        refine rs_goto (tgt := 48) C dX5_best_44 (by decide) ?_
        exact rs_iret C hr hlk h dX5_best_48
def xf_X5_kind (S : rs_St) (a1 : Int32) (a2 : Int32) (a3 : Int32) : Option (Int32 × rs_St) := rs_b1 (xf_X5_isLamp S a1) (fun r2 => if r2 = 0 then some ((-1), S) else rs_b1 (xf_X5_isFar S a2) (fun r5 => if r5 = 0 then some ((-1), S) else rs_b1 (xf_X5_isPart S a3) (fun r8 => if r8 = 0 then some ((-1), S) else rs_b2 (xf_X5_bestOf S ((4 * a1) + 0) 0 3 a2 a3) (fun r12 S11 => some (r12, S11)))))
set_option maxRecDepth 100000 in
theorem c_X5_kind (l : Launch) (G : rs_G) (hG : rs_ok G) (S : rs_St) (a1 : Int32) (a2 : Int32) (a3 : Int32)  (o : (Int32 × rs_St)) (h : xf_X5_kind S a1 a2 a3 = some o) : Met l yX5_kind (rs_wz yX5_kind cX5_kind 4 (some FieldType.int)) (rs_rm 9) (va_Pc [.ref (rs_ad G 91), .int a1, .int a2, .int a3] (rs_pre G S)) (va_Qi (fun r S2 => (r, S2) = o) (rs_post G) (rs_A G)) 0 0 (rs_A G) := by
  refine rs_met hG (by decide) (Nat.le_of_ble_eq_true rfl) ?_
  intro p e s m args below meth c C hr hlk
  rw [xf_X5_kind] at h
  refine rs_aload_n (i := 0) C dX5_kind_0 rfl rfl rfl ?_
  refine rs_iload_n (i := 1) C dX5_kind_1 rfl rfl rfl ?_
  obtain ⟨r2, h1, h⟩ := rs_b1e h
  refine rs_callVi (r0 := r2) (S0 := S) C (rs_kd_lt kk_91 (by decide)) (rs_e5 kk_91) rfl (c_X5_isLamp l G hG S a1 _ h1) ⟨wl_X5_187, wi_yX5_isLamp, wx_yX5_isLamp, wn_X5, wc_yX5_isLamp⟩ wy_yX5_isLamp (by decide) ⟨rfl, rfl⟩ rfl rfl (Nat.le_of_ble_eq_true rfl) dX5_kind_2 rfl ?_
  refine rs_if_eq (tgt := 38) C dX5_kind_5 (by decide) rfl (fun z3 => ?_) (fun z3 => ?_)
  · replace h := rs_it z3 h
    refine rs_iconst (v := (-1)) C dX5_kind_38 (by decide) rfl ?_
    exact rs_iret C hr hlk h dX5_kind_39
  · replace h := rs_if z3 h
    refine rs_iload_n (i := 2) C dX5_kind_8 rfl rfl rfl ?_
    obtain ⟨r5, h4, h⟩ := rs_b1e h
    refine rs_callSi (r0 := r5) (S0 := S) C (c_X5_isFar l G hG S a2 _ h4) ⟨wl_X5_210, ws_yX5_isFar, wn_X5, wc_yX5_isFar⟩ wy_yX5_isFar (by decide) ⟨rfl, rfl⟩ rfl rfl (Nat.le_of_ble_eq_true rfl) dX5_kind_9 rfl ?_
    refine rs_if_eq (tgt := 38) C dX5_kind_12 (by decide) rfl (fun z6 => ?_) (fun z6 => ?_)
    · replace h := rs_it z6 h
      refine rs_iconst (v := (-1)) C dX5_kind_38 (by decide) rfl ?_
      exact rs_iret C hr hlk h dX5_kind_39
    · replace h := rs_if z6 h
      refine rs_iload_n (i := 3) C dX5_kind_15 rfl rfl rfl ?_
      obtain ⟨r8, h7, h⟩ := rs_b1e h
      refine rs_callSi (r0 := r8) (S0 := S) C (c_X5_isPart l G hG S a3 _ h7) ⟨wl_X5_238, ws_yX5_isPart, wn_X5, wc_yX5_isPart⟩ wy_yX5_isPart (by decide) ⟨rfl, rfl⟩ rfl rfl (Nat.le_of_ble_eq_true rfl) dX5_kind_16 rfl ?_
      refine rs_if_eq (tgt := 38) C dX5_kind_19 (by decide) rfl (fun z9 => ?_) (fun z9 => ?_)
      · replace h := rs_it z9 h
        refine rs_iconst (v := (-1)) C dX5_kind_38 (by decide) rfl ?_
        exact rs_iret C hr hlk h dX5_kind_39
      · replace h := rs_if z9 h
        refine rs_aload_n (i := 0) C dX5_kind_22 rfl rfl rfl ?_
        refine rs_iconst (v := 4) C dX5_kind_23 (by decide) rfl ?_
        refine rs_iload_n (i := 1) C dX5_kind_24 rfl rfl rfl ?_
        refine rs_imul C dX5_kind_25 rfl ?_
        refine rs_iconst (v := 0) C dX5_kind_26 (by decide) rfl ?_
        refine rs_iadd C dX5_kind_27 rfl ?_
        refine rs_iconst (v := 0) C dX5_kind_28 (by decide) rfl ?_
        refine rs_iconst (v := 3) C dX5_kind_29 (by decide) rfl ?_
        refine rs_iload_n (i := 2) C dX5_kind_30 rfl rfl rfl ?_
        refine rs_iload_n (i := 3) C dX5_kind_31 rfl rfl rfl ?_
        obtain ⟨r12, S11, h10, h⟩ := rs_b2e h
        refine rs_callVi (r0 := r12) (S0 := S11) C (rs_kd_lt kk_91 (by decide)) (rs_e5 kk_91) rfl (c_X5_bestOf l G hG S ((4 * a1) + 0) 0 3 a2 a3 _ h10) ⟨wl_X5_241, wi_yX5_bestOf, wx_yX5_bestOf, wn_X5, wc_yX5_bestOf⟩ wy_yX5_bestOf (by decide) ⟨rfl, rfl⟩ rfl rfl (Nat.le_of_ble_eq_true rfl) dX5_kind_32 rfl ?_
        refine rs_goto (tgt := 39) C dX5_kind_35 (by decide) ?_
        exact rs_iret C hr hlk h dX5_kind_39
def xf_X5_phase (S : rs_St) (a1 : Int32) (a2 : Int32) (a3 : Int32) : Option (Int32 × rs_St) := rs_b1 (xf_X5_isLamp S a1) (fun r2 => if r2 = 0 then some ((-1), S) else rs_b1 (xf_X5_isFar S a2) (fun r5 => if r5 = 0 then some ((-1), S) else rs_b1 (xf_X5_isPart S a3) (fun r8 => if r8 = 0 then some ((-1), S) else rs_b2 (xf_X5_bestOf S ((4 * a1) + 3) 0 11 a2 a3) (fun r12 S11 => some (r12, S11)))))
set_option maxRecDepth 100000 in
theorem c_X5_phase (l : Launch) (G : rs_G) (hG : rs_ok G) (S : rs_St) (a1 : Int32) (a2 : Int32) (a3 : Int32)  (o : (Int32 × rs_St)) (h : xf_X5_phase S a1 a2 a3 = some o) : Met l yX5_phase (rs_wz yX5_phase cX5_phase 4 (some FieldType.int)) (rs_rm 9) (va_Pc [.ref (rs_ad G 91), .int a1, .int a2, .int a3] (rs_pre G S)) (va_Qi (fun r S2 => (r, S2) = o) (rs_post G) (rs_A G)) 0 0 (rs_A G) := by
  refine rs_met hG (by decide) (Nat.le_of_ble_eq_true rfl) ?_
  intro p e s m args below meth c C hr hlk
  rw [xf_X5_phase] at h
  refine rs_aload_n (i := 0) C dX5_phase_0 rfl rfl rfl ?_
  refine rs_iload_n (i := 1) C dX5_phase_1 rfl rfl rfl ?_
  obtain ⟨r2, h1, h⟩ := rs_b1e h
  refine rs_callVi (r0 := r2) (S0 := S) C (rs_kd_lt kk_91 (by decide)) (rs_e5 kk_91) rfl (c_X5_isLamp l G hG S a1 _ h1) ⟨wl_X5_187, wi_yX5_isLamp, wx_yX5_isLamp, wn_X5, wc_yX5_isLamp⟩ wy_yX5_isLamp (by decide) ⟨rfl, rfl⟩ rfl rfl (Nat.le_of_ble_eq_true rfl) dX5_phase_2 rfl ?_
  refine rs_if_eq (tgt := 39) C dX5_phase_5 (by decide) rfl (fun z3 => ?_) (fun z3 => ?_)
  · replace h := rs_it z3 h
    refine rs_iconst (v := (-1)) C dX5_phase_39 (by decide) rfl ?_
    exact rs_iret C hr hlk h dX5_phase_40
  · replace h := rs_if z3 h
    refine rs_iload_n (i := 2) C dX5_phase_8 rfl rfl rfl ?_
    obtain ⟨r5, h4, h⟩ := rs_b1e h
    refine rs_callSi (r0 := r5) (S0 := S) C (c_X5_isFar l G hG S a2 _ h4) ⟨wl_X5_210, ws_yX5_isFar, wn_X5, wc_yX5_isFar⟩ wy_yX5_isFar (by decide) ⟨rfl, rfl⟩ rfl rfl (Nat.le_of_ble_eq_true rfl) dX5_phase_9 rfl ?_
    refine rs_if_eq (tgt := 39) C dX5_phase_12 (by decide) rfl (fun z6 => ?_) (fun z6 => ?_)
    · replace h := rs_it z6 h
      refine rs_iconst (v := (-1)) C dX5_phase_39 (by decide) rfl ?_
      exact rs_iret C hr hlk h dX5_phase_40
    · replace h := rs_if z6 h
      refine rs_iload_n (i := 3) C dX5_phase_15 rfl rfl rfl ?_
      obtain ⟨r8, h7, h⟩ := rs_b1e h
      refine rs_callSi (r0 := r8) (S0 := S) C (c_X5_isPart l G hG S a3 _ h7) ⟨wl_X5_238, ws_yX5_isPart, wn_X5, wc_yX5_isPart⟩ wy_yX5_isPart (by decide) ⟨rfl, rfl⟩ rfl rfl (Nat.le_of_ble_eq_true rfl) dX5_phase_16 rfl ?_
      refine rs_if_eq (tgt := 39) C dX5_phase_19 (by decide) rfl (fun z9 => ?_) (fun z9 => ?_)
      · replace h := rs_it z9 h
        refine rs_iconst (v := (-1)) C dX5_phase_39 (by decide) rfl ?_
        exact rs_iret C hr hlk h dX5_phase_40
      · replace h := rs_if z9 h
        refine rs_aload_n (i := 0) C dX5_phase_22 rfl rfl rfl ?_
        refine rs_iconst (v := 4) C dX5_phase_23 (by decide) rfl ?_
        refine rs_iload_n (i := 1) C dX5_phase_24 rfl rfl rfl ?_
        refine rs_imul C dX5_phase_25 rfl ?_
        refine rs_iconst (v := 3) C dX5_phase_26 (by decide) rfl ?_
        refine rs_iadd C dX5_phase_27 rfl ?_
        refine rs_iconst (v := 0) C dX5_phase_28 (by decide) rfl ?_
        refine rs_bipush (v := 11) C dX5_phase_29 (by decide) rfl ?_
        refine rs_iload_n (i := 2) C dX5_phase_31 rfl rfl rfl ?_
        refine rs_iload_n (i := 3) C dX5_phase_32 rfl rfl rfl ?_
        obtain ⟨r12, S11, h10, h⟩ := rs_b2e h
        refine rs_callVi (r0 := r12) (S0 := S11) C (rs_kd_lt kk_91 (by decide)) (rs_e5 kk_91) rfl (c_X5_bestOf l G hG S ((4 * a1) + 3) 0 11 a2 a3 _ h10) ⟨wl_X5_241, wi_yX5_bestOf, wx_yX5_bestOf, wn_X5, wc_yX5_bestOf⟩ wy_yX5_bestOf (by decide) ⟨rfl, rfl⟩ rfl rfl (Nat.le_of_ble_eq_true rfl) dX5_phase_33 rfl ?_
        refine rs_goto (tgt := 40) C dX5_phase_36 (by decide) ?_
        exact rs_iret C hr hlk h dX5_phase_40
def xf_X5_out_l35 (a1 : Int32) (K35 : rs_St → Int32 → Option (Int32 × rs_St)) : Nat → rs_St → Int32 → Option (Int32 × rs_St)
  | 0, _, _ => none
  | n35 + 1, S13, x14 => if (rs_gi S13 92 16) ≤ x14 then K35 S13 x14 else rs_b1 (xf_X5_starts S13) (fun S17 => rs_lt (rs_si S17 91 13 x14) (fun S18 => rs_b1 (xf_X5_shotsGo S18 a1) (fun S20 => rs_b1 (xf_X5_judges S20 x14 (rs_gi S20 91 15)) (fun S22 => rs_lt (x14 + 1) (fun x23 => xf_X5_out_l35 a1 K35 n35 S22 x23)))))
def xf_X5_out (S : rs_St) (a1 : Int32) (a2 : Int32) : Option (Int32 × rs_St) := rs_b1 (xf_X5_isFar S a1) (fun r2 => if r2 = 0 then some ((-1), S) else rs_b1 (xf_X5_isPart S a2) (fun r5 => if r5 = 0 then some ((-1), S) else rs_b1 (xf_X5_starts S) (fun S8 => rs_b1 (xf_X5_shotsGo S8 a1) (fun S10 => rs_b1 (xf_X5_startsJudging S10 (rs_gi S10 91 15)) (fun S12 => xf_X5_out_l35 a1 (fun (S24 : rs_St) (x25 : Int32) => rs_b1 (xf_X5_judged S24 a2) (fun r27 => some (r27, S24))) rs_fu S12 0)))))
set_option maxRecDepth 100000 in
theorem c_X5_out (l : Launch) (G : rs_G) (hG : rs_ok G) (S : rs_St) (a1 : Int32) (a2 : Int32)  (o : (Int32 × rs_St)) (h : xf_X5_out S a1 a2 = some o) : Met l yX5_out (rs_wz yX5_out cX5_out 4 (some FieldType.int)) (rs_rm 8) (va_Pc [.ref (rs_ad G 91), .int a1, .int a2] (rs_pre G S)) (va_Qi (fun r S2 => (r, S2) = o) (rs_post G) (rs_A G)) 0 0 (rs_A G) := by
  refine rs_met hG (by decide) (Nat.le_of_ble_eq_true rfl) ?_
  intro p e s m args below meth c C hr hlk
  rw [xf_X5_out] at h
  refine rs_iload_n (i := 1) C dX5_out_0 rfl rfl rfl ?_
  obtain ⟨r2, h1, h⟩ := rs_b1e h
  refine rs_callSi (r0 := r2) (S0 := S) C (c_X5_isFar l G hG S a1 _ h1) ⟨wl_X5_210, ws_yX5_isFar, wn_X5, wc_yX5_isFar⟩ wy_yX5_isFar (by decide) ⟨rfl, rfl⟩ rfl rfl (Nat.le_of_ble_eq_true rfl) dX5_out_1 rfl ?_
  refine rs_if_eq (tgt := 14) C dX5_out_4 (by decide) rfl (fun z3 => ?_) (fun z3 => ?_)
  · replace h := rs_it z3 h
    refine rs_iconst (v := (-1)) C dX5_out_14 (by decide) rfl ?_
    exact rs_iret C hr hlk h dX5_out_15
  · replace h := rs_if z3 h
    refine rs_iload_n (i := 2) C dX5_out_7 rfl rfl rfl ?_
    obtain ⟨r5, h4, h⟩ := rs_b1e h
    refine rs_callSi (r0 := r5) (S0 := S) C (c_X5_isPart l G hG S a2 _ h4) ⟨wl_X5_238, ws_yX5_isPart, wn_X5, wc_yX5_isPart⟩ wy_yX5_isPart (by decide) ⟨rfl, rfl⟩ rfl rfl (Nat.le_of_ble_eq_true rfl) dX5_out_8 rfl ?_
    refine rs_if_ne (tgt := 16) C dX5_out_11 (by decide) rfl (fun z6 => ?_) (fun z6 => ?_)
    · replace h := rs_if z6 h
      refine rs_aload_n (i := 0) C dX5_out_16 rfl rfl rfl ?_
      obtain ⟨S8, h7, h⟩ := rs_b1e h
      refine rs_callVv (S0 := S8) C (rs_kd_lt kk_91 (by decide)) (rs_e5 kk_91) rfl (c_X5_starts l G hG S _ h7) ⟨wl_X5_184, wi_yX5_starts, wx_yX5_starts, wn_X5, wc_yX5_starts⟩ wy_yX5_starts (by decide) ⟨rfl, rfl⟩ rfl rfl (Nat.le_of_ble_eq_true rfl) dX5_out_17 rfl ?_
      refine rs_aload_n (i := 0) C dX5_out_20 rfl rfl rfl ?_
      refine rs_iload_n (i := 1) C dX5_out_21 rfl rfl rfl ?_
      obtain ⟨S10, h9, h⟩ := rs_b1e h
      refine rs_callVv (S0 := S10) C (rs_kd_lt kk_91 (by decide)) (rs_e5 kk_91) rfl (c_X5_shotsGo l G hG S8 a1 _ h9) ⟨wl_X5_213, wi_yX5_shotsGo, wx_yX5_shotsGo, wn_X5, wc_yX5_shotsGo⟩ wy_yX5_shotsGo (by decide) ⟨rfl, rfl⟩ rfl rfl (Nat.le_of_ble_eq_true rfl) dX5_out_22 rfl ?_
      refine rs_aload_n (i := 0) C dX5_out_25 rfl rfl rfl ?_
      refine rs_aload_n (i := 0) C dX5_out_26 rfl rfl rfl ?_
      refine rg_X5_15 C kk_91 wl_X5_150 dX5_out_27 rfl ?_
      obtain ⟨S12, h11, h⟩ := rs_b1e h
      refine rs_callVv (S0 := S12) C (rs_kd_lt kk_91 (by decide)) (rs_e5 kk_91) rfl (c_X5_startsJudging l G hG S10 (rs_gi S10 91 15) _ h11) ⟨wl_X5_228, wi_yX5_startsJudging, wx_yX5_startsJudging, wn_X5, wc_yX5_startsJudging⟩ wy_yX5_startsJudging (by decide) ⟨rfl, rfl⟩ rfl rfl (Nat.le_of_ble_eq_true rfl) dX5_out_30 rfl ?_
      refine rs_iconst (v := 0) C dX5_out_33 (by decide) rfl ?_
      refine rs_istore_n (i := 3) C dX5_out_34 rfl (by decide) rfl ?_
      refine rs_kw (F := fun K => xf_X5_out_l35 a1 K rs_fu S12 0) (P := fun K => ∀ (S24 : rs_St) (x25 : Int32), K S24 x25 = some o → rs_Xi G 4 p l e (rs_rm 8) s m args below meth c o S24 75 [(0, .ref (rs_ad G 91)), (1, .int a1), (2, .int a2), (3, .int x25)] []) h (fun S24 x25 h => ?_) (fun K35 hK35 h => ?_)
      · refine rs_aload_n (i := 0) C dX5_out_75 rfl rfl rfl ?_
        refine rs_iload_n (i := 2) C dX5_out_76 rfl rfl rfl ?_
        obtain ⟨r27, h26, h⟩ := rs_b1e h
        refine rs_callVi (r0 := r27) (S0 := S24) C (rs_kd_lt kk_91 (by decide)) (rs_e5 kk_91) rfl (c_X5_judged l G hG S24 a2 _ h26) ⟨wl_X5_235, wi_yX5_judged, wx_yX5_judged, wn_X5, wc_yX5_judged⟩ wy_yX5_judged (by decide) ⟨rfl, rfl⟩ rfl rfl (Nat.le_of_ble_eq_true rfl) dX5_out_77 rfl ?_
        exact rs_iret C hr hlk h dX5_out_80
      · have L35 : ∀ (n35 : Nat) (S13 : rs_St) (x14 : Int32), xf_X5_out_l35 a1 K35 n35 S13 x14 = some o → rs_Xi G 4 p l e (rs_rm 8) s m args below meth c o S13 35 [(0, .ref (rs_ad G 91)), (1, .int a1), (2, .int a2), (3, .int x14)] [] := by
          intro n35
          induction n35 with
          | zero => intro S13 x14 h; exact (rs_no h).elim
          | succ n35 ih35 =>
            intro S13 x14 h
            rw [xf_X5_out_l35] at h
            refine rs_iload_n (i := 3) C dX5_out_35 rfl rfl rfl ?_
            refine rs_aload_n (i := 0) C dX5_out_36 rfl rfl rfl ?_
            refine rg_X5_0 C kk_91 wl_X5_7 dX5_out_37 rfl ?_
            refine rs_bipush (v := 16) C dX5_out_40 (by decide) rfl ?_
            refine rs_ialdc C kk_92 ll_92 16 (by decide) (by decide) dX5_out_42 rfl ?_
            refine rs_icmp_ge (tgt := 75) C dX5_out_43 (by decide) rfl (fun z15 => ?_) (fun z15 => ?_)
            · replace h := rs_it z15 h
              exact rs_subk (hK35 _ _ h) (rs_ac rfl (rs_ac rfl (rs_ac rfl (rs_ac rfl rs_a0))))
            · replace h := rs_if z15 h
              refine rs_aload_n (i := 0) C dX5_out_46 rfl rfl rfl ?_
              obtain ⟨S17, h16, h⟩ := rs_b1e h
              refine rs_callVv (S0 := S17) C (rs_kd_lt kk_91 (by decide)) (rs_e5 kk_91) rfl (c_X5_starts l G hG S13 _ h16) ⟨wl_X5_184, wi_yX5_starts, wx_yX5_starts, wn_X5, wc_yX5_starts⟩ wy_yX5_starts (by decide) ⟨rfl, rfl⟩ rfl rfl (Nat.le_of_ble_eq_true rfl) dX5_out_47 rfl ?_
              refine rs_aload_n (i := 0) C dX5_out_50 rfl rfl rfl ?_
              refine rs_iload_n (i := 3) C dX5_out_51 rfl rfl rfl ?_
              refine rp_X5_13 C kk_91 wl_X5_143 dX5_out_52 rfl h (fun S18 h => ?_)
              refine rs_aload_n (i := 0) C dX5_out_55 rfl rfl rfl ?_
              refine rs_iload_n (i := 1) C dX5_out_56 rfl rfl rfl ?_
              obtain ⟨S20, h19, h⟩ := rs_b1e h
              refine rs_callVv (S0 := S20) C (rs_kd_lt kk_91 (by decide)) (rs_e5 kk_91) rfl (c_X5_shotsGo l G hG S18 a1 _ h19) ⟨wl_X5_213, wi_yX5_shotsGo, wx_yX5_shotsGo, wn_X5, wc_yX5_shotsGo⟩ wy_yX5_shotsGo (by decide) ⟨rfl, rfl⟩ rfl rfl (Nat.le_of_ble_eq_true rfl) dX5_out_57 rfl ?_
              refine rs_aload_n (i := 0) C dX5_out_60 rfl rfl rfl ?_
              refine rs_iload_n (i := 3) C dX5_out_61 rfl rfl rfl ?_
              refine rs_aload_n (i := 0) C dX5_out_62 rfl rfl rfl ?_
              refine rg_X5_15 C kk_91 wl_X5_150 dX5_out_63 rfl ?_
              obtain ⟨S22, h21, h⟩ := rs_b1e h
              refine rs_callVv (S0 := S22) C (rs_kd_lt kk_91 (by decide)) (rs_e5 kk_91) rfl (c_X5_judges l G hG S20 x14 (rs_gi S20 91 15) _ h21) ⟨wl_X5_231, wi_yX5_judges, wx_yX5_judges, wn_X5, wc_yX5_judges⟩ wy_yX5_judges (by decide) ⟨rfl, rfl⟩ rfl rfl (Nat.le_of_ble_eq_true rfl) dX5_out_66 rfl ?_
              refine rs_iincn (v := 1) C dX5_out_69 rfl (by decide) (by decide) rfl h (fun x23 h => ?_)
              refine rs_goto (tgt := 35) C dX5_out_72 (by decide) ?_
              exact rs_subk (ih35 _ _ h) (rs_ac rfl (rs_ac rfl (rs_ac rfl (rs_ac rfl rs_a0))))
        exact rs_subk (L35 rs_fu _ _ h) (rs_ac rfl (rs_ac rfl (rs_ac rfl (rs_ac rfl rs_a0))))
    · replace h := rs_it z6 h
      refine rs_iconst (v := (-1)) C dX5_out_14 (by decide) rfl ?_
      exact rs_iret C hr hlk h dX5_out_15
def xf_X5_common_l6 (K6 : Int64 → Int64 → Option Int64) : Nat → Int64 → Int64 → Option Int64
  | 0, _, _ => none
  | n6 + 1, x1, x2 => if (lg_cmp x2 0) = 0 then K6 x1 x2 else if x2 = 0 then none else rs_lt (x1 - x1 / x2 * x2) (fun x5 => xf_X5_common_l6 K6 n6 x2 x5)
def xf_X5_common (S : rs_St) (a1 : Int64) (a2 : Int64) : Option Int64 := xf_X5_common_l6 (fun (x6 : Int64) (x7 : Int64) => some x6) rs_fu a1 a2
set_option maxRecDepth 100000 in
theorem c_X5_common (l : Launch) (G : rs_G) (hG : rs_ok G) (S : rs_St) (a1 : Int64) (a2 : Int64)  (o : Int64) (h : xf_X5_common S a1 a2 = some o) : Met l yX5_common (rs_wz yX5_common cX5_common 10 (some FieldType.long)) (rs_rm 2) (va_Pc [.long a1, .long a2] (rs_pre G S)) (va_Ql (fun r S2 => (r, S2) = (o, S)) (rs_post G) (rs_A G)) 0 0 (rs_A G) := by
  refine rs_met hG (by decide) (Nat.le_of_ble_eq_true rfl) ?_
  intro p e s m args below meth c C hr hlk
  rw [xf_X5_common] at h
  refine rs_lload_n (i := 0) C dX5_common_0 rfl rfl rfl ?_
  refine rs_lstore C dX5_common_1 (by decide) rfl ?_
  refine rs_lload_n (i := 2) C dX5_common_3 rfl rfl rfl ?_
  refine rs_lstore C dX5_common_4 (by decide) rfl ?_
  refine rs_kw (F := fun K => xf_X5_common_l6 K rs_fu a1 a2) (P := fun K => ∀ (x6 : Int64) (x7 : Int64), K x6 x7 = some o → rs_Xl G 10 p l e (rs_rm 2) s m args below meth c (o, S) S 31 [(0, .long a1), (2, .long a2), (4, .long x6), (6, .long x7)] []) h (fun x6 x7 h => ?_) (fun K6 hK6 h => ?_)
  · refine rs_lload C dX5_common_31 rfl rfl ?_
    exact rs_lret C hr hlk (rs_pr h) dX5_common_33
  · have L6 : ∀ (n6 : Nat) (x1 : Int64) (x2 : Int64), xf_X5_common_l6 K6 n6 x1 x2 = some o → rs_Xl G 10 p l e (rs_rm 2) s m args below meth c (o, S) S 6 [(0, .long a1), (2, .long a2), (4, .long x1), (6, .long x2)] [] := by
      intro n6
      induction n6 with
      | zero => intro x1 x2 h; exact (rs_no h).elim
      | succ n6 ih6 =>
        intro x1 x2 h
        rw [xf_X5_common_l6] at h
        refine rs_lload C dX5_common_6 rfl rfl ?_
        refine rs_lconst (v := 0) C dX5_common_8 (by decide) rfl ?_
        refine rs_lcmp C dX5_common_9 rfl ?_
        refine rs_if_eq (tgt := 31) C dX5_common_10 (by decide) rfl (fun z3 => ?_) (fun z3 => ?_)
        · replace h := rs_it z3 h
          exact rs_subk (hK6 _ _ h) (rs_ac rfl (rs_ac rfl (rs_ac rfl (rs_ac rfl rs_a0))))
        · replace h := rs_if z3 h
          refine rs_lload C dX5_common_13 rfl rfl ?_
          refine rs_lload C dX5_common_15 rfl rfl ?_
          obtain ⟨z4, h⟩ := rs_ck h
          refine rs_lrem C dX5_common_17 z4 rfl ?_
          refine rs_nml h (fun x5 h => ?_)
          refine rs_lstore C dX5_common_18 (by decide) rfl ?_
          refine rs_lload C dX5_common_20 rfl rfl ?_
          refine rs_lstore C dX5_common_22 (by decide) rfl ?_
          refine rs_lload C dX5_common_24 rfl rfl ?_
          refine rs_lstore C dX5_common_26 (by decide) rfl ?_
          refine rs_goto (tgt := 6) C dX5_common_28 (by decide) ?_
          exact rs_subk (ih6 _ _ h) (rs_ac rfl (rs_ac rfl (rs_ac rfl (rs_ac rfl rs_a0))))
    exact rs_subk (L6 rs_fu _ _ h) (rs_ac rfl (rs_ac rfl (rs_ac rfl (rs_ac rfl rs_a0))))
def xf_X5_lowest (S : rs_St) (a1 : Int64) (a2 : Int64) (a3 : Int32) : Option Int64 := rs_b1 (xf_X5_common S a2 a1) (fun r2 => if a3 = 0 then if r2 = 0 then none else some (a1 / r2) else if r2 = 0 then none else some (a2 / r2))
set_option maxRecDepth 100000 in
theorem c_X5_lowest (l : Launch) (G : rs_G) (hG : rs_ok G) (S : rs_St) (a1 : Int64) (a2 : Int64) (a3 : Int32)  (o : Int64) (h : xf_X5_lowest S a1 a2 a3 = some o) : Met l yX5_lowest (rs_wz yX5_lowest cX5_lowest 7 (some FieldType.long)) (rs_rm 3) (va_Pc [.long a1, .long a2, .int a3] (rs_pre G S)) (va_Ql (fun r S2 => (r, S2) = (o, S)) (rs_post G) (rs_A G)) 0 0 (rs_A G) := by
  refine rs_met hG (by decide) (Nat.le_of_ble_eq_true rfl) ?_
  intro p e s m args below meth c C hr hlk
  rw [xf_X5_lowest] at h
  refine rs_lload_n (i := 2) C dX5_lowest_0 rfl rfl rfl ?_
  refine rs_lload_n (i := 0) C dX5_lowest_1 rfl rfl rfl ?_
  obtain ⟨r2, h1, h⟩ := rs_b1e h
  refine rs_callSl (r0 := r2) (S0 := S) C (c_X5_common l G hG S a2 a1 _ h1) ⟨wl_X5_245, ws_yX5_common, wn_X5, wc_yX5_common⟩ wy_yX5_common (by decide) ⟨rfl, rfl⟩ rfl rfl (Nat.le_of_ble_eq_true rfl) dX5_lowest_2 rfl ?_
  refine rs_lstore C dX5_lowest_5 (by decide) rfl ?_
  refine rs_iload C dX5_lowest_7 rfl rfl ?_
  refine rs_if_ne (tgt := 19) C dX5_lowest_9 (by decide) rfl (fun z3 => ?_) (fun z3 => ?_)
  · replace h := rs_if z3 h
    refine rs_lload_n (i := 2) C dX5_lowest_19 rfl rfl rfl ?_
    refine rs_lload C dX5_lowest_20 rfl rfl ?_
    obtain ⟨z4, h⟩ := rs_ck h
    refine rs_ldiv C dX5_lowest_22 z4 rfl ?_
    exact rs_lret C hr hlk (rs_pr h) dX5_lowest_23
  · replace h := rs_it z3 h
    refine rs_lload_n (i := 0) C dX5_lowest_12 rfl rfl rfl ?_
    refine rs_lload C dX5_lowest_13 rfl rfl ?_
    obtain ⟨z5, h⟩ := rs_ck h
    refine rs_ldiv C dX5_lowest_15 z5 rfl ?_
    refine rs_goto (tgt := 23) C dX5_lowest_16 (by decide) ?_
    exact rs_lret C hr hlk (rs_pr h) dX5_lowest_23
def xf_X5_findOdds_l63 (a1 : Int32) (a2 : Int32) (x12 : Int32) (K63 : rs_St → Int64 → Int32 → Option rs_St) : Nat → rs_St → Int64 → Int32 → Option rs_St
  | 0, _, _, _ => none
  | n63 + 1, S16, x17, x18 => if a2 ≤ x18 then K63 S16 x17 x18 else rs_jn (fun (x20 : Int32) => if x20 = 0 ∨ x20 = 1 then rs_lt (rs_si S16 91 14 x20) (fun S23 => rs_jn (fun (x24 : Int64) => rs_lt (x17 * x24) (fun x26 => rs_b1 (xf_X5_shotGoes S23) (fun S28 => rs_lt (x18 + 1) (fun x29 => xf_X5_findOdds_l63 a1 a2 x12 K63 n63 S28 x26 x29)))) (fun J25 => if (rs_gi S23 91 14) = 0 then J25 ((10 - a1).toInt64) else J25 (a1.toInt64))) else none) (fun J21 => if ((x12 >>> (x18 &&& 31)) &&& 1) = 1 then J21 1 else J21 0)
def xf_X5_findOdds_l45 (a1 : Int32) (a2 : Int32) (a3 : Int32) (K45 : rs_St → Int32 → Option rs_St) : Nat → rs_St → Int32 → Option rs_St
  | 0, _, _ => none
  | n45 + 1, S11, x12 => if (1 <<< (a2 &&& 31)) ≤ x12 then K45 S11 x12 else rs_b1 (xf_X5_starts S11) (fun S15 => xf_X5_findOdds_l63 a1 a2 x12 (fun (S32 : rs_St) (x33 : Int64) (x34 : Int32) => rs_jn (fun (x35 : Int64) => rs_lt (rs_sl S32 24 ((rs_gl S32 24) + x35)) (fun S37 => rs_lt (rs_sl S37 25 ((rs_gl S37 25) + (x33 * (rs_gi S37 91 17).toInt64))) (fun S38 => rs_lt (x12 + 1) (fun x39 => xf_X5_findOdds_l45 a1 a2 a3 K45 n45 S38 x39)))) (fun J36 => if a3 < (rs_gi S32 91 15) then J36 0 else J36 x33)) rs_fu S15 1 0)
def xf_X5_findOdds_l18 (a2 : Int32) (K18 : rs_St → Int32 → Option rs_St) : Nat → rs_St → Int32 → Option rs_St
  | 0, _, _ => none
  | n18 + 1, S4, x5 => if a2 ≤ x5 then K18 S4 x5 else rs_lt (rs_sl S4 26 ((rs_gl S4 26) * 10)) (fun S7 => rs_lt (x5 + 1) (fun x8 => xf_X5_findOdds_l18 a2 K18 n18 S7 x8))
def xf_X5_findOdds (S : rs_St) (a1 : Int32) (a2 : Int32) (a3 : Int32) : Option rs_St := rs_lt (rs_sl S 24 0) (fun S1 => rs_lt (rs_sl S1 25 0) (fun S2 => rs_lt (rs_sl S2 26 1) (fun S3 => xf_X5_findOdds_l18 a2 (fun (S9 : rs_St) (x10 : Int32) => xf_X5_findOdds_l45 a1 a2 a3 (fun (S41 : rs_St) (x42 : Int32) => some S41) rs_fu S9 0) rs_fu S3 0)))
set_option maxRecDepth 100000 in
theorem c_X5_findOdds (l : Launch) (G : rs_G) (hG : rs_ok G) (S : rs_St) (a1 : Int32) (a2 : Int32) (a3 : Int32)  (o : rs_St) (h : xf_X5_findOdds S a1 a2 a3 = some o) : Met l yX5_findOdds (rs_wz yX5_findOdds cX5_findOdds 8 none) (rs_rm 7) (va_Pc [.ref (rs_ad G 91), .int a1, .int a2, .int a3] (rs_pre G S)) (va_Qv (fun S2 => S2 = o) (rs_post G) (rs_A G)) 0 0 (rs_A G) := by
  refine rs_met hG (by decide) (Nat.le_of_ble_eq_true rfl) ?_
  intro p e s m args below meth c C hr hlk
  rw [xf_X5_findOdds] at h
  refine rs_aload_n (i := 0) C dX5_findOdds_0 rfl rfl rfl ?_
  refine rs_lconst (v := 0) C dX5_findOdds_1 (by decide) rfl ?_
  refine rp_X5_24 C kk_91 wl_X5_249 dX5_findOdds_2 rfl h (fun S1 h => ?_)
  refine rs_aload_n (i := 0) C dX5_findOdds_5 rfl rfl rfl ?_
  refine rs_lconst (v := 0) C dX5_findOdds_6 (by decide) rfl ?_
  refine rp_X5_25 C kk_91 wl_X5_253 dX5_findOdds_7 rfl h (fun S2 h => ?_)
  refine rs_aload_n (i := 0) C dX5_findOdds_10 rfl rfl rfl ?_
  refine rs_lconst (v := 1) C dX5_findOdds_11 (by decide) rfl ?_
  refine rp_X5_26 C kk_91 wl_X5_256 dX5_findOdds_12 rfl h (fun S3 h => ?_)
  refine rs_iconst (v := 0) C dX5_findOdds_15 (by decide) rfl ?_
  refine rs_istore C dX5_findOdds_16 (by decide) rfl ?_
  refine rs_kw (F := fun K => xf_X5_findOdds_l18 a2 K rs_fu S3 0) (P := fun K => ∀ (S9 : rs_St) (x10 : Int32), K S9 x10 = some o → rs_Xv G 8 p l e (rs_rm 7) s m args below meth c o S9 42 [(0, .ref (rs_ad G 91)), (1, .int a1), (2, .int a2), (3, .int a3), (4, .int x10)] []) h (fun S9 x10 h => ?_) (fun K18 hK18 h => ?_)
  · refine rs_iconst (v := 0) C dX5_findOdds_42 (by decide) rfl ?_
    refine rs_istore C dX5_findOdds_43 (by decide) rfl ?_
    refine rs_kw (F := fun K => xf_X5_findOdds_l45 a1 a2 a3 K rs_fu S9 0) (P := fun K => ∀ (S41 : rs_St) (x42 : Int32), K S41 x42 = some o → rs_Xv G 8 p l e (rs_rm 7) s m args below meth c o S41 167 [(0, .ref (rs_ad G 91)), (1, .int a1), (2, .int a2), (3, .int a3), (4, .int x42)] []) h (fun S41 x42 h => ?_) (fun K45 hK45 h => ?_)
    · exact rs_vret C hr hlk h dX5_findOdds_167
    · have L45 : ∀ (n45 : Nat) (S11 : rs_St) (x12 : Int32), xf_X5_findOdds_l45 a1 a2 a3 K45 n45 S11 x12 = some o → rs_Xv G 8 p l e (rs_rm 7) s m args below meth c o S11 45 [(0, .ref (rs_ad G 91)), (1, .int a1), (2, .int a2), (3, .int a3), (4, .int x12)] [] := by
        intro n45
        induction n45 with
        | zero => intro S11 x12 h; exact (rs_no h).elim
        | succ n45 ih45 =>
          intro S11 x12 h
          rw [xf_X5_findOdds_l45] at h
          refine rs_iload C dX5_findOdds_45 rfl rfl ?_
          refine rs_iconst (v := 1) C dX5_findOdds_47 (by decide) rfl ?_
          refine rs_iload_n (i := 2) C dX5_findOdds_48 rfl rfl rfl ?_
          refine rs_ishl C dX5_findOdds_49 rfl ?_
          refine rs_icmp_ge (tgt := 167) C dX5_findOdds_50 (by decide) rfl (fun z13 => ?_) (fun z13 => ?_)
          · replace h := rs_it z13 h
            exact rs_subk (hK45 _ _ h) (rs_ac rfl (rs_ac rfl (rs_ac rfl (rs_ac rfl (rs_ac rfl rs_a0)))))
          · replace h := rs_if z13 h
            refine rs_lconst (v := 1) C dX5_findOdds_53 (by decide) rfl ?_
            refine rs_lstore C dX5_findOdds_54 (by decide) rfl ?_
            refine rs_aload_n (i := 0) C dX5_findOdds_56 rfl rfl rfl ?_
            obtain ⟨S15, h14, h⟩ := rs_b1e h
            refine rs_callVv (S0 := S15) C (rs_kd_lt kk_91 (by decide)) (rs_e5 kk_91) rfl (c_X5_starts l G hG S11 _ h14) ⟨wl_X5_184, wi_yX5_starts, wx_yX5_starts, wn_X5, wc_yX5_starts⟩ wy_yX5_starts (by decide) ⟨rfl, rfl⟩ rfl rfl (Nat.le_of_ble_eq_true rfl) dX5_findOdds_57 rfl ?_
            refine rs_iconst (v := 0) C dX5_findOdds_60 (by decide) rfl ?_
            refine rs_istore C dX5_findOdds_61 (by decide) rfl ?_
            refine rs_kw (F := fun K => xf_X5_findOdds_l63 a1 a2 x12 K rs_fu S15 1 0) (P := fun K => ∀ (S32 : rs_St) (x33 : Int64) (x34 : Int32), K S32 x33 x34 = some o → rs_Xv G 8 p l e (rs_rm 7) s m args below meth c o S32 121 [(0, .ref (rs_ad G 91)), (1, .int a1), (2, .int a2), (3, .int a3), (4, .int x12), (5, .long x33), (7, .int x34)] []) h (fun S32 x33 x34 h => ?_) (fun K63 hK63 h => ?_)
            · refine rs_aload_n (i := 0) C dX5_findOdds_121 rfl rfl rfl ?_
              refine rs_dup C dX5_findOdds_122 rfl rfl ?_
              refine rg_X5_24 C kk_91 wl_X5_249 dX5_findOdds_123 rfl ?_
              refine rs_aload_n (i := 0) C dX5_findOdds_126 rfl rfl rfl ?_
              refine rg_X5_15 C kk_91 wl_X5_150 dX5_findOdds_127 rfl ?_
              refine rs_iload_n (i := 3) C dX5_findOdds_130 rfl rfl rfl ?_
              refine rs_jw (P := fun J => ∀ (x35 : Int64), J x35 = some o → rs_Xv G 8 p l e (rs_rm 7) s m args below meth c o S32 140 [(0, .ref (rs_ad G 91)), (1, .int a1), (2, .int a2), (3, .int a3), (4, .int x12), (5, .long x33), (7, .int x34)] [.long x35, .long (rs_gl S32 24), .ref (rs_ad G 91)]) h (fun x35 h => ?_) (fun J36 KJ36 h => ?_)
              · refine rs_ladd C dX5_findOdds_140 rfl ?_
                refine rp_X5_24 C kk_91 wl_X5_249 dX5_findOdds_141 rfl h (fun S37 h => ?_)
                refine rs_aload_n (i := 0) C dX5_findOdds_144 rfl rfl rfl ?_
                refine rs_dup C dX5_findOdds_145 rfl rfl ?_
                refine rg_X5_25 C kk_91 wl_X5_253 dX5_findOdds_146 rfl ?_
                refine rs_lload C dX5_findOdds_149 rfl rfl ?_
                refine rs_aload_n (i := 0) C dX5_findOdds_151 rfl rfl rfl ?_
                refine rg_X5_17 C kk_91 wl_X5_156 dX5_findOdds_152 rfl ?_
                refine rs_i2l C dX5_findOdds_155 rfl ?_
                refine rs_lmul C dX5_findOdds_156 rfl ?_
                refine rs_ladd C dX5_findOdds_157 rfl ?_
                refine rp_X5_25 C kk_91 wl_X5_253 dX5_findOdds_158 rfl h (fun S38 h => ?_)
                refine rs_iincn (v := 1) C dX5_findOdds_161 rfl (by decide) (by decide) rfl h (fun x39 h => ?_)
                refine rs_goto (tgt := 45) C dX5_findOdds_164 (by decide) ?_
                exact rs_subk (ih45 _ _ h) (rs_ac rfl (rs_ac rfl (rs_ac rfl (rs_ac rfl (rs_ac rfl rs_a0)))))
              · refine rs_icmp_gt (tgt := 139) C dX5_findOdds_131 (by decide) rfl (fun z40 => ?_) (fun z40 => ?_)
                · replace h := rs_it z40 h
                  refine rs_lconst (v := 0) C dX5_findOdds_139 (by decide) rfl ?_
                  exact rs_subk (KJ36 _ h) (rs_ac rfl (rs_ac rfl (rs_ac rfl (rs_ac rfl (rs_ac rfl (rs_ac rfl (rs_ac rfl rs_a0)))))))
                · replace h := rs_if z40 h
                  refine rs_lload C dX5_findOdds_134 rfl rfl ?_
                  refine rs_goto (tgt := 140) C dX5_findOdds_136 (by decide) ?_
                  exact rs_subk (KJ36 _ h) (rs_ac rfl (rs_ac rfl (rs_ac rfl (rs_ac rfl (rs_ac rfl (rs_ac rfl (rs_ac rfl rs_a0)))))))
            · have L63 : ∀ (n63 : Nat) (S16 : rs_St) (x17 : Int64) (x18 : Int32), xf_X5_findOdds_l63 a1 a2 x12 K63 n63 S16 x17 x18 = some o → rs_Xv G 8 p l e (rs_rm 7) s m args below meth c o S16 63 [(0, .ref (rs_ad G 91)), (1, .int a1), (2, .int a2), (3, .int a3), (4, .int x12), (5, .long x17), (7, .int x18)] [] := by
                intro n63
                induction n63 with
                | zero => intro S16 x17 x18 h; exact (rs_no h).elim
                | succ n63 ih63 =>
                  intro S16 x17 x18 h
                  rw [xf_X5_findOdds_l63] at h
                  refine rs_iload C dX5_findOdds_63 rfl rfl ?_
                  refine rs_iload_n (i := 2) C dX5_findOdds_65 rfl rfl rfl ?_
                  refine rs_icmp_ge (tgt := 121) C dX5_findOdds_66 (by decide) rfl (fun z19 => ?_) (fun z19 => ?_)
                  · replace h := rs_it z19 h
                    exact rs_subk (hK63 _ _ _ h) (rs_ac rfl (rs_ac rfl (rs_ac rfl (rs_ac rfl (rs_ac rfl (rs_ac rfl (rs_ac rfl rs_a0)))))))
                  · replace h := rs_if z19 h
                    refine rs_aload_n (i := 0) C dX5_findOdds_69 rfl rfl rfl ?_
                    refine rs_iload C dX5_findOdds_70 rfl rfl ?_
                    refine rs_iload C dX5_findOdds_72 rfl rfl ?_
                    refine rs_ishr C dX5_findOdds_74 rfl ?_
                    refine rs_iconst (v := 1) C dX5_findOdds_75 (by decide) rfl ?_
                    refine rs_iand C dX5_findOdds_76 rfl ?_
                    refine rs_iconst (v := 1) C dX5_findOdds_77 (by decide) rfl ?_
                    refine rs_jw (P := fun J => ∀ (x20 : Int32), J x20 = some o → rs_Xv G 8 p l e (rs_rm 7) s m args below meth c o S16 86 [(0, .ref (rs_ad G 91)), (1, .int a1), (2, .int a2), (3, .int a3), (4, .int x12), (5, .long x17), (7, .int x18)] [.int x20, .ref (rs_ad G 91)]) h (fun x20 h => ?_) (fun J21 KJ21 h => ?_)
                    · obtain ⟨z22, h⟩ := rs_ckp h
                      refine rp_X5_14 C kk_91 wl_X5_146 z22 dX5_findOdds_86 rfl h (fun S23 h => ?_)
                      refine rs_lload C dX5_findOdds_89 rfl rfl ?_
                      refine rs_aload_n (i := 0) C dX5_findOdds_91 rfl rfl rfl ?_
                      refine rg_X5_14 C kk_91 wl_X5_146 dX5_findOdds_92 rfl ?_
                      refine rs_jw (P := fun J => ∀ (x24 : Int64), J x24 = some o → rs_Xv G 8 p l e (rs_rm 7) s m args below meth c o S23 108 [(0, .ref (rs_ad G 91)), (1, .int a1), (2, .int a2), (3, .int a3), (4, .int x12), (5, .long x17), (7, .int x18)] [.long x24, .long x17]) h (fun x24 h => ?_) (fun J25 KJ25 h => ?_)
                      · refine rs_lmul C dX5_findOdds_108 rfl ?_
                        refine rs_nml h (fun x26 h => ?_)
                        refine rs_lstore C dX5_findOdds_109 (by decide) rfl ?_
                        refine rs_aload_n (i := 0) C dX5_findOdds_111 rfl rfl rfl ?_
                        obtain ⟨S28, h27, h⟩ := rs_b1e h
                        refine rs_callVv (S0 := S28) C (rs_kd_lt kk_91 (by decide)) (rs_e5 kk_91) rfl (c_X5_shotGoes l G hG S23 _ h27) ⟨wl_X5_181, wi_yX5_shotGoes, wx_yX5_shotGoes, wn_X5, wc_yX5_shotGoes⟩ wy_yX5_shotGoes (by decide) ⟨rfl, rfl⟩ rfl rfl (Nat.le_of_ble_eq_true rfl) dX5_findOdds_112 rfl ?_
                        refine rs_iincn (v := 1) C dX5_findOdds_115 rfl (by decide) (by decide) rfl h (fun x29 h => ?_)
                        refine rs_goto (tgt := 63) C dX5_findOdds_118 (by decide) ?_
                        exact rs_subk (ih63 _ _ _ h) (rs_ac rfl (rs_ac rfl (rs_ac rfl (rs_ac rfl (rs_ac rfl (rs_ac rfl (rs_ac rfl rs_a0)))))))
                      · refine rs_if_eq (tgt := 103) C dX5_findOdds_95 (by decide) rfl (fun z30 => ?_) (fun z30 => ?_)
                        · replace h := rs_it z30 h
                          refine rs_bipush (v := 10) C dX5_findOdds_103 (by decide) rfl ?_
                          refine rs_iload_n (i := 1) C dX5_findOdds_105 rfl rfl rfl ?_
                          refine rs_isub C dX5_findOdds_106 rfl ?_
                          refine rs_i2l C dX5_findOdds_107 rfl ?_
                          exact rs_subk (KJ25 _ h) (rs_ac rfl (rs_ac rfl (rs_ac rfl (rs_ac rfl (rs_ac rfl (rs_ac rfl (rs_ac rfl rs_a0)))))))
                        · replace h := rs_if z30 h
                          refine rs_iload_n (i := 1) C dX5_findOdds_98 rfl rfl rfl ?_
                          refine rs_i2l C dX5_findOdds_99 rfl ?_
                          refine rs_goto (tgt := 108) C dX5_findOdds_100 (by decide) ?_
                          exact rs_subk (KJ25 _ h) (rs_ac rfl (rs_ac rfl (rs_ac rfl (rs_ac rfl (rs_ac rfl (rs_ac rfl (rs_ac rfl rs_a0)))))))
                    · refine rs_icmp_ne (tgt := 85) C dX5_findOdds_78 (by decide) rfl (fun z31 => ?_) (fun z31 => ?_)
                      · replace h := rs_if z31 h
                        refine rs_iconst (v := 0) C dX5_findOdds_85 (by decide) rfl ?_
                        exact rs_subk (KJ21 _ h) (rs_ac rfl (rs_ac rfl (rs_ac rfl (rs_ac rfl (rs_ac rfl (rs_ac rfl (rs_ac rfl rs_a0)))))))
                      · replace h := rs_it z31 h
                        refine rs_iconst (v := 1) C dX5_findOdds_81 (by decide) rfl ?_
                        refine rs_goto (tgt := 86) C dX5_findOdds_82 (by decide) ?_
                        exact rs_subk (KJ21 _ h) (rs_ac rfl (rs_ac rfl (rs_ac rfl (rs_ac rfl (rs_ac rfl (rs_ac rfl (rs_ac rfl rs_a0)))))))
              exact rs_subk (L63 rs_fu _ _ _ h) (rs_ac rfl (rs_ac rfl (rs_ac rfl (rs_ac rfl (rs_ac rfl (rs_ac rfl (rs_ac rfl rs_a0)))))))
      exact rs_subk (L45 rs_fu _ _ h) (rs_ac rfl (rs_ac rfl (rs_ac rfl (rs_ac rfl (rs_ac rfl rs_a0)))))
  · have L18 : ∀ (n18 : Nat) (S4 : rs_St) (x5 : Int32), xf_X5_findOdds_l18 a2 K18 n18 S4 x5 = some o → rs_Xv G 8 p l e (rs_rm 7) s m args below meth c o S4 18 [(0, .ref (rs_ad G 91)), (1, .int a1), (2, .int a2), (3, .int a3), (4, .int x5)] [] := by
      intro n18
      induction n18 with
      | zero => intro S4 x5 h; exact (rs_no h).elim
      | succ n18 ih18 =>
        intro S4 x5 h
        rw [xf_X5_findOdds_l18] at h
        refine rs_iload C dX5_findOdds_18 rfl rfl ?_
        refine rs_iload_n (i := 2) C dX5_findOdds_20 rfl rfl rfl ?_
        refine rs_icmp_ge (tgt := 42) C dX5_findOdds_21 (by decide) rfl (fun z6 => ?_) (fun z6 => ?_)
        · replace h := rs_it z6 h
          exact rs_subk (hK18 _ _ h) (rs_ac rfl (rs_ac rfl (rs_ac rfl (rs_ac rfl (rs_ac rfl rs_a0)))))
        · replace h := rs_if z6 h
          refine rs_aload_n (i := 0) C dX5_findOdds_24 rfl rfl rfl ?_
          refine rs_dup C dX5_findOdds_25 rfl rfl ?_
          refine rg_X5_26 C kk_91 wl_X5_256 dX5_findOdds_26 rfl ?_
          refine rs_ldc2 C dX5_findOdds_29 wk_X5_259 rfl ?_
          refine rs_lmul C dX5_findOdds_32 rfl ?_
          refine rp_X5_26 C kk_91 wl_X5_256 dX5_findOdds_33 rfl h (fun S7 h => ?_)
          refine rs_iincn (v := 1) C dX5_findOdds_36 rfl (by decide) (by decide) rfl h (fun x8 h => ?_)
          refine rs_goto (tgt := 18) C dX5_findOdds_39 (by decide) ?_
          exact rs_subk (ih18 _ _ h) (rs_ac rfl (rs_ac rfl (rs_ac rfl (rs_ac rfl (rs_ac rfl rs_a0)))))
    exact rs_subk (L18 rs_fu _ _ h) (rs_ac rfl (rs_ac rfl (rs_ac rfl (rs_ac rfl (rs_ac rfl rs_a0)))))
def xf_X5_luck (S : rs_St) (a1 : Int32) (a2 : Int32) (a3 : Int32) (a4 : Int32) : Option (Int64 × rs_St) := rs_b1 (xf_X5_in S (a1.toInt64) 0 10) (fun r2 => if r2 = 0 then some ((-1), S) else rs_b1 (xf_X5_in S (a2.toInt64) 0 8) (fun r5 => if r5 = 0 then some ((-1), S) else rs_b1 (xf_X5_in S (a3.toInt64) 0 255) (fun r8 => if r8 = 0 then some ((-1), S) else rs_b1 (xf_X5_isPart S a4) (fun r11 => if r11 = 0 then some ((-1), S) else rs_b1 (xf_X5_findOdds S a1 a2 a3) (fun S14 => rs_b1 (xf_X5_lowest S14 (rs_gl S14 24) (rs_gl S14 26) a4) (fun r16 => some (r16, S14)))))))
set_option maxRecDepth 100000 in
theorem c_X5_luck (l : Launch) (G : rs_G) (hG : rs_ok G) (S : rs_St) (a1 : Int32) (a2 : Int32) (a3 : Int32) (a4 : Int32)  (o : (Int64 × rs_St)) (h : xf_X5_luck S a1 a2 a3 a4 = some o) : Met l yX5_luck (rs_wz yX5_luck cX5_luck 5 (some FieldType.long)) (rs_rm 8) (va_Pc [.ref (rs_ad G 91), .int a1, .int a2, .int a3, .int a4] (rs_pre G S)) (va_Ql (fun r S2 => (r, S2) = o) (rs_post G) (rs_A G)) 0 0 (rs_A G) := by
  refine rs_met hG (by decide) (Nat.le_of_ble_eq_true rfl) ?_
  intro p e s m args below meth c C hr hlk
  rw [xf_X5_luck] at h
  refine rs_iload_n (i := 1) C dX5_luck_0 rfl rfl rfl ?_
  refine rs_i2l C dX5_luck_1 rfl ?_
  refine rs_lconst (v := 0) C dX5_luck_2 (by decide) rfl ?_
  refine rs_ldc2 C dX5_luck_3 wk_X5_259 rfl ?_
  obtain ⟨r2, h1, h⟩ := rs_b1e h
  refine rs_callSi (r0 := r2) (S0 := S) C (c_X5_in l G hG S (a1.toInt64) 0 10 _ h1) ⟨wl_X5_61, ws_yX5_in, wn_X5, wc_yX5_in⟩ wy_yX5_in (by decide) ⟨rfl, rfl⟩ rfl rfl (Nat.le_of_ble_eq_true rfl) dX5_luck_6 rfl ?_
  refine rs_if_eq (tgt := 44) C dX5_luck_9 (by decide) rfl (fun z3 => ?_) (fun z3 => ?_)
  · replace h := rs_it z3 h
    refine rs_ldc2 C dX5_luck_44 wk_X5_263 rfl ?_
    exact rs_lret C hr hlk h dX5_luck_47
  · replace h := rs_if z3 h
    refine rs_iload_n (i := 2) C dX5_luck_12 rfl rfl rfl ?_
    refine rs_i2l C dX5_luck_13 rfl ?_
    refine rs_lconst (v := 0) C dX5_luck_14 (by decide) rfl ?_
    refine rs_ldc2 C dX5_luck_15 wk_X5_261 rfl ?_
    obtain ⟨r5, h4, h⟩ := rs_b1e h
    refine rs_callSi (r0 := r5) (S0 := S) C (c_X5_in l G hG S (a2.toInt64) 0 8 _ h4) ⟨wl_X5_61, ws_yX5_in, wn_X5, wc_yX5_in⟩ wy_yX5_in (by decide) ⟨rfl, rfl⟩ rfl rfl (Nat.le_of_ble_eq_true rfl) dX5_luck_18 rfl ?_
    refine rs_if_eq (tgt := 44) C dX5_luck_21 (by decide) rfl (fun z6 => ?_) (fun z6 => ?_)
    · replace h := rs_it z6 h
      refine rs_ldc2 C dX5_luck_44 wk_X5_263 rfl ?_
      exact rs_lret C hr hlk h dX5_luck_47
    · replace h := rs_if z6 h
      refine rs_iload_n (i := 3) C dX5_luck_24 rfl rfl rfl ?_
      refine rs_i2l C dX5_luck_25 rfl ?_
      refine rs_lconst (v := 0) C dX5_luck_26 (by decide) rfl ?_
      refine rs_ldc2 C dX5_luck_27 wk_X5_219 rfl ?_
      obtain ⟨r8, h7, h⟩ := rs_b1e h
      refine rs_callSi (r0 := r8) (S0 := S) C (c_X5_in l G hG S (a3.toInt64) 0 255 _ h7) ⟨wl_X5_61, ws_yX5_in, wn_X5, wc_yX5_in⟩ wy_yX5_in (by decide) ⟨rfl, rfl⟩ rfl rfl (Nat.le_of_ble_eq_true rfl) dX5_luck_30 rfl ?_
      refine rs_if_eq (tgt := 44) C dX5_luck_33 (by decide) rfl (fun z9 => ?_) (fun z9 => ?_)
      · replace h := rs_it z9 h
        refine rs_ldc2 C dX5_luck_44 wk_X5_263 rfl ?_
        exact rs_lret C hr hlk h dX5_luck_47
      · replace h := rs_if z9 h
        refine rs_iload C dX5_luck_36 rfl rfl ?_
        obtain ⟨r11, h10, h⟩ := rs_b1e h
        refine rs_callSi (r0 := r11) (S0 := S) C (c_X5_isPart l G hG S a4 _ h10) ⟨wl_X5_238, ws_yX5_isPart, wn_X5, wc_yX5_isPart⟩ wy_yX5_isPart (by decide) ⟨rfl, rfl⟩ rfl rfl (Nat.le_of_ble_eq_true rfl) dX5_luck_38 rfl ?_
        refine rs_if_ne (tgt := 48) C dX5_luck_41 (by decide) rfl (fun z12 => ?_) (fun z12 => ?_)
        · replace h := rs_if z12 h
          refine rs_aload_n (i := 0) C dX5_luck_48 rfl rfl rfl ?_
          refine rs_iload_n (i := 1) C dX5_luck_49 rfl rfl rfl ?_
          refine rs_iload_n (i := 2) C dX5_luck_50 rfl rfl rfl ?_
          refine rs_iload_n (i := 3) C dX5_luck_51 rfl rfl rfl ?_
          obtain ⟨S14, h13, h⟩ := rs_b1e h
          refine rs_callVv (S0 := S14) C (rs_kd_lt kk_91 (by decide)) (rs_e5 kk_91) rfl (c_X5_findOdds l G hG S a1 a2 a3 _ h13) ⟨wl_X5_265, wi_yX5_findOdds, wx_yX5_findOdds, wn_X5, wc_yX5_findOdds⟩ wy_yX5_findOdds (by decide) ⟨rfl, rfl⟩ rfl rfl (Nat.le_of_ble_eq_true rfl) dX5_luck_52 rfl ?_
          refine rs_aload_n (i := 0) C dX5_luck_55 rfl rfl rfl ?_
          refine rg_X5_24 C kk_91 wl_X5_249 dX5_luck_56 rfl ?_
          refine rs_aload_n (i := 0) C dX5_luck_59 rfl rfl rfl ?_
          refine rg_X5_26 C kk_91 wl_X5_256 dX5_luck_60 rfl ?_
          refine rs_iload C dX5_luck_63 rfl rfl ?_
          obtain ⟨r16, h15, h⟩ := rs_b1e h
          refine rs_callSl (r0 := r16) (S0 := S14) C (c_X5_lowest l G hG S14 (rs_gl S14 24) (rs_gl S14 26) a4 _ h15) ⟨wl_X5_269, ws_yX5_lowest, wn_X5, wc_yX5_lowest⟩ wy_yX5_lowest (by decide) ⟨rfl, rfl⟩ rfl rfl (Nat.le_of_ble_eq_true rfl) dX5_luck_65 rfl ?_
          exact rs_lret C hr hlk h dX5_luck_68
        · replace h := rs_it z12 h
          refine rs_ldc2 C dX5_luck_44 wk_X5_263 rfl ?_
          exact rs_lret C hr hlk h dX5_luck_47
def xf_X5_mean (S : rs_St) (a1 : Int32) (a2 : Int32) (a3 : Int32) : Option (Int64 × rs_St) := rs_b1 (xf_X5_in S (a1.toInt64) 0 10) (fun r2 => if r2 = 0 then some ((-1), S) else rs_b1 (xf_X5_in S (a2.toInt64) 0 8) (fun r5 => if r5 = 0 then some ((-1), S) else rs_b1 (xf_X5_isPart S a3) (fun r8 => if r8 = 0 then some ((-1), S) else rs_b1 (xf_X5_findOdds S a1 a2 0) (fun S11 => rs_b1 (xf_X5_lowest S11 (rs_gl S11 25) (rs_gl S11 26) a3) (fun r13 => some (r13, S11))))))
set_option maxRecDepth 100000 in
theorem c_X5_mean (l : Launch) (G : rs_G) (hG : rs_ok G) (S : rs_St) (a1 : Int32) (a2 : Int32) (a3 : Int32)  (o : (Int64 × rs_St)) (h : xf_X5_mean S a1 a2 a3 = some o) : Met l yX5_mean (rs_wz yX5_mean cX5_mean 4 (some FieldType.long)) (rs_rm 8) (va_Pc [.ref (rs_ad G 91), .int a1, .int a2, .int a3] (rs_pre G S)) (va_Ql (fun r S2 => (r, S2) = o) (rs_post G) (rs_A G)) 0 0 (rs_A G) := by
  refine rs_met hG (by decide) (Nat.le_of_ble_eq_true rfl) ?_
  intro p e s m args below meth c C hr hlk
  rw [xf_X5_mean] at h
  refine rs_iload_n (i := 1) C dX5_mean_0 rfl rfl rfl ?_
  refine rs_i2l C dX5_mean_1 rfl ?_
  refine rs_lconst (v := 0) C dX5_mean_2 (by decide) rfl ?_
  refine rs_ldc2 C dX5_mean_3 wk_X5_259 rfl ?_
  obtain ⟨r2, h1, h⟩ := rs_b1e h
  refine rs_callSi (r0 := r2) (S0 := S) C (c_X5_in l G hG S (a1.toInt64) 0 10 _ h1) ⟨wl_X5_61, ws_yX5_in, wn_X5, wc_yX5_in⟩ wy_yX5_in (by decide) ⟨rfl, rfl⟩ rfl rfl (Nat.le_of_ble_eq_true rfl) dX5_mean_6 rfl ?_
  refine rs_if_eq (tgt := 31) C dX5_mean_9 (by decide) rfl (fun z3 => ?_) (fun z3 => ?_)
  · replace h := rs_it z3 h
    refine rs_ldc2 C dX5_mean_31 wk_X5_263 rfl ?_
    exact rs_lret C hr hlk h dX5_mean_34
  · replace h := rs_if z3 h
    refine rs_iload_n (i := 2) C dX5_mean_12 rfl rfl rfl ?_
    refine rs_i2l C dX5_mean_13 rfl ?_
    refine rs_lconst (v := 0) C dX5_mean_14 (by decide) rfl ?_
    refine rs_ldc2 C dX5_mean_15 wk_X5_261 rfl ?_
    obtain ⟨r5, h4, h⟩ := rs_b1e h
    refine rs_callSi (r0 := r5) (S0 := S) C (c_X5_in l G hG S (a2.toInt64) 0 8 _ h4) ⟨wl_X5_61, ws_yX5_in, wn_X5, wc_yX5_in⟩ wy_yX5_in (by decide) ⟨rfl, rfl⟩ rfl rfl (Nat.le_of_ble_eq_true rfl) dX5_mean_18 rfl ?_
    refine rs_if_eq (tgt := 31) C dX5_mean_21 (by decide) rfl (fun z6 => ?_) (fun z6 => ?_)
    · replace h := rs_it z6 h
      refine rs_ldc2 C dX5_mean_31 wk_X5_263 rfl ?_
      exact rs_lret C hr hlk h dX5_mean_34
    · replace h := rs_if z6 h
      refine rs_iload_n (i := 3) C dX5_mean_24 rfl rfl rfl ?_
      obtain ⟨r8, h7, h⟩ := rs_b1e h
      refine rs_callSi (r0 := r8) (S0 := S) C (c_X5_isPart l G hG S a3 _ h7) ⟨wl_X5_238, ws_yX5_isPart, wn_X5, wc_yX5_isPart⟩ wy_yX5_isPart (by decide) ⟨rfl, rfl⟩ rfl rfl (Nat.le_of_ble_eq_true rfl) dX5_mean_25 rfl ?_
      refine rs_if_ne (tgt := 35) C dX5_mean_28 (by decide) rfl (fun z9 => ?_) (fun z9 => ?_)
      · replace h := rs_if z9 h
        refine rs_aload_n (i := 0) C dX5_mean_35 rfl rfl rfl ?_
        refine rs_iload_n (i := 1) C dX5_mean_36 rfl rfl rfl ?_
        refine rs_iload_n (i := 2) C dX5_mean_37 rfl rfl rfl ?_
        refine rs_iconst (v := 0) C dX5_mean_38 (by decide) rfl ?_
        obtain ⟨S11, h10, h⟩ := rs_b1e h
        refine rs_callVv (S0 := S11) C (rs_kd_lt kk_91 (by decide)) (rs_e5 kk_91) rfl (c_X5_findOdds l G hG S a1 a2 0 _ h10) ⟨wl_X5_265, wi_yX5_findOdds, wx_yX5_findOdds, wn_X5, wc_yX5_findOdds⟩ wy_yX5_findOdds (by decide) ⟨rfl, rfl⟩ rfl rfl (Nat.le_of_ble_eq_true rfl) dX5_mean_39 rfl ?_
        refine rs_aload_n (i := 0) C dX5_mean_42 rfl rfl rfl ?_
        refine rg_X5_25 C kk_91 wl_X5_253 dX5_mean_43 rfl ?_
        refine rs_aload_n (i := 0) C dX5_mean_46 rfl rfl rfl ?_
        refine rg_X5_26 C kk_91 wl_X5_256 dX5_mean_47 rfl ?_
        refine rs_iload_n (i := 3) C dX5_mean_50 rfl rfl rfl ?_
        obtain ⟨r13, h12, h⟩ := rs_b1e h
        refine rs_callSl (r0 := r13) (S0 := S11) C (c_X5_lowest l G hG S11 (rs_gl S11 25) (rs_gl S11 26) a3 _ h12) ⟨wl_X5_269, ws_yX5_lowest, wn_X5, wc_yX5_lowest⟩ wy_yX5_lowest (by decide) ⟨rfl, rfl⟩ rfl rfl (Nat.le_of_ble_eq_true rfl) dX5_mean_51 rfl ?_
        exact rs_lret C hr hlk h dX5_mean_54
      · replace h := rs_it z9 h
        refine rs_ldc2 C dX5_mean_31 wk_X5_263 rfl ?_
        exact rs_lret C hr hlk h dX5_mean_34
def xf_X5_see (S : rs_St) (a1 : Int32) (a2 : Int32) (a3 : Int32) : Option (Int32 × rs_St) := rs_b1 (xf_X5_in S (a1.toInt64) 0 20) (fun r2 => if r2 = 0 then some ((-1), S) else rs_b1 (xf_X5_isRow S a2) (fun r5 => if r5 = 0 then some ((-1), S) else rs_b1 (xf_X5_in S (a3.toInt64) 0 255) (fun r8 => if r8 = 0 then some ((-1), S) else if (rs_gi S 92 32) = 6 then some ((-3), S) else rs_lt (33 + (3 * (rs_gi S 92 32))) (fun x11 => if x11 < 0 ∨ 153 ≤ x11.toNatClampNeg then none else rs_lt (rs_si S 92 x11.toNatClampNeg a1) (fun S12 => if (x11 + 1) < 0 ∨ 153 ≤ (x11 + 1).toNatClampNeg then none else rs_lt (rs_si S12 92 (x11 + 1).toNatClampNeg a2) (fun S14 => if (x11 + 2) < 0 ∨ 153 ≤ (x11 + 2).toNatClampNeg then none else rs_lt (rs_si S14 92 (x11 + 2).toNatClampNeg a3) (fun S16 => rs_lt (rs_si S16 92 32 ((rs_gi S16 92 32) + 1)) (fun S18 => some ((rs_gi S18 92 32), S18)))))))))
set_option maxRecDepth 100000 in
theorem c_X5_see (l : Launch) (G : rs_G) (hG : rs_ok G) (S : rs_St) (a1 : Int32) (a2 : Int32) (a3 : Int32)  (o : (Int32 × rs_St)) (h : xf_X5_see S a1 a2 a3 = some o) : Met l yX5_see (rs_wz yX5_see cX5_see 5 (some FieldType.int)) (rs_rm 4) (va_Pc [.ref (rs_ad G 91), .int a1, .int a2, .int a3] (rs_pre G S)) (va_Qi (fun r S2 => (r, S2) = o) (rs_post G) (rs_A G)) 0 0 (rs_A G) := by
  refine rs_met hG (by decide) (Nat.le_of_ble_eq_true rfl) ?_
  intro p e s m args below meth c C hr hlk
  rw [xf_X5_see] at h
  refine rs_iload_n (i := 1) C dX5_see_0 rfl rfl rfl ?_
  refine rs_i2l C dX5_see_1 rfl ?_
  refine rs_lconst (v := 0) C dX5_see_2 (by decide) rfl ?_
  refine rs_ldc2 C dX5_see_3 wk_X5_273 rfl ?_
  obtain ⟨r2, h1, h⟩ := rs_b1e h
  refine rs_callSi (r0 := r2) (S0 := S) C (c_X5_in l G hG S (a1.toInt64) 0 20 _ h1) ⟨wl_X5_61, ws_yX5_in, wn_X5, wc_yX5_in⟩ wy_yX5_in (by decide) ⟨rfl, rfl⟩ rfl rfl (Nat.le_of_ble_eq_true rfl) dX5_see_6 rfl ?_
  refine rs_if_eq (tgt := 31) C dX5_see_9 (by decide) rfl (fun z3 => ?_) (fun z3 => ?_)
  · replace h := rs_it z3 h
    refine rs_iconst (v := (-1)) C dX5_see_31 (by decide) rfl ?_
    exact rs_iret C hr hlk h dX5_see_32
  · replace h := rs_if z3 h
    refine rs_iload_n (i := 2) C dX5_see_12 rfl rfl rfl ?_
    obtain ⟨r5, h4, h⟩ := rs_b1e h
    refine rs_callSi (r0 := r5) (S0 := S) C (c_X5_isRow l G hG S a2 _ h4) ⟨wl_X5_193, ws_yX5_isRow, wn_X5, wc_yX5_isRow⟩ wy_yX5_isRow (by decide) ⟨rfl, rfl⟩ rfl rfl (Nat.le_of_ble_eq_true rfl) dX5_see_13 rfl ?_
    refine rs_if_eq (tgt := 31) C dX5_see_16 (by decide) rfl (fun z6 => ?_) (fun z6 => ?_)
    · replace h := rs_it z6 h
      refine rs_iconst (v := (-1)) C dX5_see_31 (by decide) rfl ?_
      exact rs_iret C hr hlk h dX5_see_32
    · replace h := rs_if z6 h
      refine rs_iload_n (i := 3) C dX5_see_19 rfl rfl rfl ?_
      refine rs_i2l C dX5_see_20 rfl ?_
      refine rs_lconst (v := 0) C dX5_see_21 (by decide) rfl ?_
      refine rs_ldc2 C dX5_see_22 wk_X5_219 rfl ?_
      obtain ⟨r8, h7, h⟩ := rs_b1e h
      refine rs_callSi (r0 := r8) (S0 := S) C (c_X5_in l G hG S (a3.toInt64) 0 255 _ h7) ⟨wl_X5_61, ws_yX5_in, wn_X5, wc_yX5_in⟩ wy_yX5_in (by decide) ⟨rfl, rfl⟩ rfl rfl (Nat.le_of_ble_eq_true rfl) dX5_see_25 rfl ?_
      refine rs_if_ne (tgt := 33) C dX5_see_28 (by decide) rfl (fun z9 => ?_) (fun z9 => ?_)
      · replace h := rs_if z9 h
        refine rs_aload_n (i := 0) C dX5_see_33 rfl rfl rfl ?_
        refine rg_X5_0 C kk_91 wl_X5_7 dX5_see_34 rfl ?_
        refine rs_bipush (v := 32) C dX5_see_37 (by decide) rfl ?_
        refine rs_ialdc C kk_92 ll_92 32 (by decide) (by decide) dX5_see_39 rfl ?_
        refine rs_bipush (v := 6) C dX5_see_40 (by decide) rfl ?_
        refine rs_icmp_ne (tgt := 48) C dX5_see_42 (by decide) rfl (fun z10 => ?_) (fun z10 => ?_)
        · replace h := rs_if z10 h
          refine rs_bipush (v := 33) C dX5_see_48 (by decide) rfl ?_
          refine rs_iconst (v := 3) C dX5_see_50 (by decide) rfl ?_
          refine rs_aload_n (i := 0) C dX5_see_51 rfl rfl rfl ?_
          refine rg_X5_0 C kk_91 wl_X5_7 dX5_see_52 rfl ?_
          refine rs_bipush (v := 32) C dX5_see_55 (by decide) rfl ?_
          refine rs_ialdc C kk_92 ll_92 32 (by decide) (by decide) dX5_see_57 rfl ?_
          refine rs_imul C dX5_see_58 rfl ?_
          refine rs_iadd C dX5_see_59 rfl ?_
          refine rs_nmi h (fun x11 h => ?_)
          refine rs_istore C dX5_see_60 (by decide) rfl ?_
          refine rs_aload_n (i := 0) C dX5_see_62 rfl rfl rfl ?_
          refine rg_X5_0 C kk_91 wl_X5_7 dX5_see_63 rfl ?_
          refine rs_iload C dX5_see_66 rfl rfl ?_
          refine rs_iload_n (i := 1) C dX5_see_68 rfl rfl rfl ?_
          obtain ⟨z13, h⟩ := rs_ck h
          refine rs_iastn C kk_92 ll_92 z13 dX5_see_69 rfl h (fun S12 h => ?_)
          refine rs_aload_n (i := 0) C dX5_see_70 rfl rfl rfl ?_
          refine rg_X5_0 C kk_91 wl_X5_7 dX5_see_71 rfl ?_
          refine rs_iload C dX5_see_74 rfl rfl ?_
          refine rs_iconst (v := 1) C dX5_see_76 (by decide) rfl ?_
          refine rs_iadd C dX5_see_77 rfl ?_
          refine rs_iload_n (i := 2) C dX5_see_78 rfl rfl rfl ?_
          obtain ⟨z15, h⟩ := rs_ck h
          refine rs_iastn C kk_92 ll_92 z15 dX5_see_79 rfl h (fun S14 h => ?_)
          refine rs_aload_n (i := 0) C dX5_see_80 rfl rfl rfl ?_
          refine rg_X5_0 C kk_91 wl_X5_7 dX5_see_81 rfl ?_
          refine rs_iload C dX5_see_84 rfl rfl ?_
          refine rs_iconst (v := 2) C dX5_see_86 (by decide) rfl ?_
          refine rs_iadd C dX5_see_87 rfl ?_
          refine rs_iload_n (i := 3) C dX5_see_88 rfl rfl rfl ?_
          obtain ⟨z17, h⟩ := rs_ck h
          refine rs_iastn C kk_92 ll_92 z17 dX5_see_89 rfl h (fun S16 h => ?_)
          refine rs_aload_n (i := 0) C dX5_see_90 rfl rfl rfl ?_
          refine rg_X5_0 C kk_91 wl_X5_7 dX5_see_91 rfl ?_
          refine rs_bipush (v := 32) C dX5_see_94 (by decide) rfl ?_
          refine rs_dup2 C dX5_see_96 rfl rfl rfl ?_
          refine rs_ialdc C kk_92 ll_92 32 (by decide) (by decide) dX5_see_97 rfl ?_
          refine rs_iconst (v := 1) C dX5_see_98 (by decide) rfl ?_
          refine rs_iadd C dX5_see_99 rfl ?_
          refine rs_iastc C kk_92 ll_92 32 (by decide) (by decide) dX5_see_100 rfl h (fun S18 h => ?_)
          refine rs_aload_n (i := 0) C dX5_see_101 rfl rfl rfl ?_
          refine rg_X5_0 C kk_91 wl_X5_7 dX5_see_102 rfl ?_
          refine rs_bipush (v := 32) C dX5_see_105 (by decide) rfl ?_
          refine rs_ialdc C kk_92 ll_92 32 (by decide) (by decide) dX5_see_107 rfl ?_
          exact rs_iret C hr hlk h dX5_see_108
        · replace h := rs_it z10 h
          refine rs_bipush (v := (-3)) C dX5_see_45 (by decide) rfl ?_
          exact rs_iret C hr hlk h dX5_see_47
      · replace h := rs_it z9 h
        refine rs_iconst (v := (-1)) C dX5_see_31 (by decide) rfl ?_
        exact rs_iret C hr hlk h dX5_see_32
def xf_X5_forget (S : rs_St) (a1 : Int32) : Option (Int32 × rs_St) := rs_b1 (xf_X5_in S (a1.toInt64) 0 ((rs_gi S 92 32).toInt64)) (fun r2 => if r2 = 0 then some ((-1), S) else rs_b2 (xf_X5_becomes S 32 a1) (fun r6 S5 => some (r6, S5)))
set_option maxRecDepth 100000 in
theorem c_X5_forget (l : Launch) (G : rs_G) (hG : rs_ok G) (S : rs_St) (a1 : Int32)  (o : (Int32 × rs_St)) (h : xf_X5_forget S a1 = some o) : Met l yX5_forget (rs_wz yX5_forget cX5_forget 2 (some FieldType.int)) (rs_rm 3) (va_Pc [.ref (rs_ad G 91), .int a1] (rs_pre G S)) (va_Qi (fun r S2 => (r, S2) = o) (rs_post G) (rs_A G)) 0 0 (rs_A G) := by
  refine rs_met hG (by decide) (Nat.le_of_ble_eq_true rfl) ?_
  intro p e s m args below meth c C hr hlk
  rw [xf_X5_forget] at h
  refine rs_iload_n (i := 1) C dX5_forget_0 rfl rfl rfl ?_
  refine rs_i2l C dX5_forget_1 rfl ?_
  refine rs_lconst (v := 0) C dX5_forget_2 (by decide) rfl ?_
  refine rs_aload_n (i := 0) C dX5_forget_3 rfl rfl rfl ?_
  refine rg_X5_0 C kk_91 wl_X5_7 dX5_forget_4 rfl ?_
  refine rs_bipush (v := 32) C dX5_forget_7 (by decide) rfl ?_
  refine rs_ialdc C kk_92 ll_92 32 (by decide) (by decide) dX5_forget_9 rfl ?_
  refine rs_i2l C dX5_forget_10 rfl ?_
  obtain ⟨r2, h1, h⟩ := rs_b1e h
  refine rs_callSi (r0 := r2) (S0 := S) C (c_X5_in l G hG S (a1.toInt64) 0 ((rs_gi S 92 32).toInt64) _ h1) ⟨wl_X5_61, ws_yX5_in, wn_X5, wc_yX5_in⟩ wy_yX5_in (by decide) ⟨rfl, rfl⟩ rfl rfl (Nat.le_of_ble_eq_true rfl) dX5_forget_11 rfl ?_
  refine rs_if_eq (tgt := 27) C dX5_forget_14 (by decide) rfl (fun z3 => ?_) (fun z3 => ?_)
  · replace h := rs_it z3 h
    refine rs_iconst (v := (-1)) C dX5_forget_27 (by decide) rfl ?_
    exact rs_iret C hr hlk h dX5_forget_28
  · replace h := rs_if z3 h
    refine rs_aload_n (i := 0) C dX5_forget_17 rfl rfl rfl ?_
    refine rs_bipush (v := 32) C dX5_forget_18 (by decide) rfl ?_
    refine rs_iload_n (i := 1) C dX5_forget_20 rfl rfl rfl ?_
    obtain ⟨r6, S5, h4, h⟩ := rs_b2e h
    refine rs_callVi (r0 := r6) (S0 := S5) C (rs_kd_lt kk_91 (by decide)) (rs_e5 kk_91) rfl (c_X5_becomes l G hG S 32 a1 _ h4) ⟨wl_X5_198, wi_yX5_becomes, wx_yX5_becomes, wn_X5, wc_yX5_becomes⟩ wy_yX5_becomes (by decide) ⟨rfl, rfl⟩ rfl rfl (Nat.le_of_ble_eq_true rfl) dX5_forget_21 rfl ?_
    refine rs_goto (tgt := 28) C dX5_forget_24 (by decide) ?_
    exact rs_iret C hr hlk h dX5_forget_28
def xf_X5_isSoWith_l26 (x6 : Int32) (K26 : rs_St → Int32 → Option (Int32 × rs_St)) : Nat → rs_St → Int32 → Option (Int32 × rs_St)
  | 0, _, _ => none
  | n26 + 1, S10, x11 => if 8 ≤ x11 then K26 S10 x11 else rs_jn (fun (x13 : Int32) => if ((8 * x6) + x11) < 0 ∨ 168 ≤ ((8 * x6) + x11).toNatClampNeg then none else rs_lt (rs_si S10 100 ((8 * x6) + x11).toNatClampNeg x13) (fun S15 => rs_lt (x11 + 1) (fun x17 => xf_X5_isSoWith_l26 x6 K26 n26 S15 x17))) (fun J14 => if (rs_gi S10 93 17) ≤ x11 then J14 (-4) else if x11 < 0 ∨ 8 ≤ x11.toNatClampNeg then none else J14 (rs_gi S10 98 x11.toNatClampNeg))
def xf_X5_isSoWith_l86 (S23 : rs_St) (K86 : Int32 → Int32 → Option (Int32 × rs_St)) : Nat → Int32 → Int32 → Option (Int32 × rs_St)
  | 0, _, _ => none
  | n86 + 1, x25, x26 => if (rs_gi S23 92 32) ≤ x26 then K86 x25 x26 else rs_lt (33 + (3 * x26)) (fun x28 => rs_jn (fun (x29 : Int32) => rs_lt (x26 + 1) (fun x31 => xf_X5_isSoWith_l86 S23 K86 n86 x29 x31)) (fun J30 => if x25 = 0 then J30 0 else if x28 < 0 ∨ 153 ≤ x28.toNatClampNeg then none else if (x28 + 1) < 0 ∨ 153 ≤ (x28 + 1).toNatClampNeg then none else if ((8 * (rs_gi S23 92 x28.toNatClampNeg)) + (rs_gi S23 92 (x28 + 1).toNatClampNeg)) < 0 ∨ 168 ≤ ((8 * (rs_gi S23 92 x28.toNatClampNeg)) + (rs_gi S23 92 (x28 + 1).toNatClampNeg)).toNatClampNeg then none else if (x28 + 2) < 0 ∨ 153 ≤ (x28 + 2).toNatClampNeg then none else if (rs_gi S23 100 ((8 * (rs_gi S23 92 x28.toNatClampNeg)) + (rs_gi S23 92 (x28 + 1).toNatClampNeg)).toNatClampNeg) = (rs_gi S23 92 (x28 + 2).toNatClampNeg) then J30 1 else J30 0))
def xf_X5_isSoWith_l13 (K13 : rs_St → Int32 → Option (Int32 × rs_St)) : Nat → rs_St → Int32 → Option (Int32 × rs_St)
  | 0, _, _ => none
  | n13 + 1, S5, x6 => if 20 < x6 then K13 S5 x6 else rs_b1 (xf_X5_shotGoes S5) (fun S9 => xf_X5_isSoWith_l26 x6 (fun (S20 : rs_St) (x21 : Int32) => rs_lt (x6 + 1) (fun x22 => xf_X5_isSoWith_l13 K13 n13 S20 x22)) rs_fu S9 0)
def xf_X5_isSoWith (S : rs_St) (a1 : Int32) (a2 : Int32) : Option (Int32 × rs_St) := rs_b1 (xf_X5_starts S) (fun S2 => if a1 < 0 ∨ 51 ≤ a1.toNatClampNeg then none else rs_lt (rs_si S2 93 a1.toNatClampNeg a2) (fun S3 => xf_X5_isSoWith_l13 (fun (S23 : rs_St) (x24 : Int32) => xf_X5_isSoWith_l86 S23 (fun (x38 : Int32) (x39 : Int32) => if x38 = 0 ∨ x38 = 1 then some (x38, S23) else none) rs_fu 1 0) rs_fu S3 0))
set_option maxRecDepth 100000 in
theorem c_X5_isSoWith (l : Launch) (G : rs_G) (hG : rs_ok G) (S : rs_St) (a1 : Int32) (a2 : Int32)  (o : (Int32 × rs_St)) (h : xf_X5_isSoWith S a1 a2 = some o) : Met l yX5_isSoWith (rs_wz yX5_isSoWith cX5_isSoWith 6 (some FieldType.boolean)) (rs_rm 7) (va_Pc [.ref (rs_ad G 91), .int a1, .int a2] (rs_pre G S)) (va_Qi (fun r S2 => (r, S2) = o) (rs_post G) (rs_A G)) 0 0 (rs_A G) := by
  refine rs_met hG (by decide) (Nat.le_of_ble_eq_true rfl) ?_
  intro p e s m args below meth c C hr hlk
  rw [xf_X5_isSoWith] at h
  refine rs_aload_n (i := 0) C dX5_isSoWith_0 rfl rfl rfl ?_
  obtain ⟨S2, h1, h⟩ := rs_b1e h
  refine rs_callVv (S0 := S2) C (rs_kd_lt kk_91 (by decide)) (rs_e5 kk_91) rfl (c_X5_starts l G hG S _ h1) ⟨wl_X5_184, wi_yX5_starts, wx_yX5_starts, wn_X5, wc_yX5_starts⟩ wy_yX5_starts (by decide) ⟨rfl, rfl⟩ rfl rfl (Nat.le_of_ble_eq_true rfl) dX5_isSoWith_1 rfl ?_
  refine rs_aload_n (i := 0) C dX5_isSoWith_4 rfl rfl rfl ?_
  refine rg_X5_1 C kk_91 wl_X5_13 dX5_isSoWith_5 rfl ?_
  refine rs_iload_n (i := 1) C dX5_isSoWith_8 rfl rfl rfl ?_
  refine rs_iload_n (i := 2) C dX5_isSoWith_9 rfl rfl rfl ?_
  obtain ⟨z4, h⟩ := rs_ck h
  refine rs_iastn C kk_93 ll_93 z4 dX5_isSoWith_10 rfl h (fun S3 h => ?_)
  refine rs_iconst (v := 0) C dX5_isSoWith_11 (by decide) rfl ?_
  refine rs_istore_n (i := 3) C dX5_isSoWith_12 rfl (by decide) rfl ?_
  refine rs_kw (F := fun K => xf_X5_isSoWith_l13 K rs_fu S3 0) (P := fun K => ∀ (S23 : rs_St) (x24 : Int32), K S23 x24 = some o → rs_Xi G 6 p l e (rs_rm 7) s m args below meth c o S23 81 [(0, .ref (rs_ad G 91)), (1, .int a1), (2, .int a2), (3, .int x24)] []) h (fun S23 x24 h => ?_) (fun K13 hK13 h => ?_)
  · refine rs_iconst (v := 1) C dX5_isSoWith_81 (by decide) rfl ?_
    refine rs_istore_n (i := 3) C dX5_isSoWith_82 rfl (by decide) rfl ?_
    refine rs_iconst (v := 0) C dX5_isSoWith_83 (by decide) rfl ?_
    refine rs_istore C dX5_isSoWith_84 (by decide) rfl ?_
    refine rs_kw (F := fun K => xf_X5_isSoWith_l86 S23 K rs_fu 1 0) (P := fun K => ∀ (x38 : Int32) (x39 : Int32), K x38 x39 = some o → rs_Xi G 6 p l e (rs_rm 7) s m args below meth c o S23 160 [(0, .ref (rs_ad G 91)), (1, .int a1), (2, .int a2), (3, .int x38), (4, .int x39)] []) h (fun x38 x39 h => ?_) (fun K86 hK86 h => ?_)
    · refine rs_iload_n (i := 3) C dX5_isSoWith_160 rfl rfl rfl ?_
      obtain ⟨z40, h⟩ := rs_ckp h
      exact rs_zret C hr hlk z40 h dX5_isSoWith_161
    · have L86 : ∀ (n86 : Nat) (x25 : Int32) (x26 : Int32), xf_X5_isSoWith_l86 S23 K86 n86 x25 x26 = some o → rs_Xi G 6 p l e (rs_rm 7) s m args below meth c o S23 86 [(0, .ref (rs_ad G 91)), (1, .int a1), (2, .int a2), (3, .int x25), (4, .int x26)] [] := by
        intro n86
        induction n86 with
        | zero => intro x25 x26 h; exact (rs_no h).elim
        | succ n86 ih86 =>
          intro x25 x26 h
          rw [xf_X5_isSoWith_l86] at h
          refine rs_iload C dX5_isSoWith_86 rfl rfl ?_
          refine rs_aload_n (i := 0) C dX5_isSoWith_88 rfl rfl rfl ?_
          refine rg_X5_0 C kk_91 wl_X5_7 dX5_isSoWith_89 rfl ?_
          refine rs_bipush (v := 32) C dX5_isSoWith_92 (by decide) rfl ?_
          refine rs_ialdc C kk_92 ll_92 32 (by decide) (by decide) dX5_isSoWith_94 rfl ?_
          refine rs_icmp_ge (tgt := 160) C dX5_isSoWith_95 (by decide) rfl (fun z27 => ?_) (fun z27 => ?_)
          · replace h := rs_it z27 h
            exact rs_subk (hK86 _ _ h) (rs_ac rfl (rs_ac rfl (rs_ac rfl (rs_ac rfl (rs_ac rfl rs_a0)))))
          · replace h := rs_if z27 h
            refine rs_bipush (v := 33) C dX5_isSoWith_98 (by decide) rfl ?_
            refine rs_iconst (v := 3) C dX5_isSoWith_100 (by decide) rfl ?_
            refine rs_iload C dX5_isSoWith_101 rfl rfl ?_
            refine rs_imul C dX5_isSoWith_103 rfl ?_
            refine rs_iadd C dX5_isSoWith_104 rfl ?_
            refine rs_nmi h (fun x28 h => ?_)
            refine rs_istore C dX5_isSoWith_105 (by decide) rfl ?_
            refine rs_iload_n (i := 3) C dX5_isSoWith_107 rfl rfl rfl ?_
            refine rs_jw (P := fun J => ∀ (x29 : Int32), J x29 = some o → rs_Xi G 6 p l e (rs_rm 7) s m args below meth c o S23 153 [(0, .ref (rs_ad G 91)), (1, .int a1), (2, .int a2), (3, .int x25), (4, .int x26), (5, .int x28)] [.int x29]) h (fun x29 h => ?_) (fun J30 KJ30 h => ?_)
            · refine rs_istore_n (i := 3) C dX5_isSoWith_153 rfl (by decide) rfl ?_
              refine rs_iincn (v := 1) C dX5_isSoWith_154 rfl (by decide) (by decide) rfl h (fun x31 h => ?_)
              refine rs_goto (tgt := 86) C dX5_isSoWith_157 (by decide) ?_
              exact rs_subk (ih86 _ _ h) (rs_ac rfl (rs_ac rfl (rs_ac rfl (rs_ac rfl (rs_ac rfl rs_a0)))))
            · refine rs_if_eq (tgt := 152) C dX5_isSoWith_108 (by decide) rfl (fun z32 => ?_) (fun z32 => ?_)
              · replace h := rs_it z32 h
                refine rs_iconst (v := 0) C dX5_isSoWith_152 (by decide) rfl ?_
                exact rs_subk (KJ30 _ h) (rs_ac rfl (rs_ac rfl (rs_ac rfl (rs_ac rfl (rs_ac rfl (rs_ac rfl rs_a0))))))
              · replace h := rs_if z32 h
                refine rs_aload_n (i := 0) C dX5_isSoWith_111 rfl rfl rfl ?_
                refine rg_X5_27 C kk_91 wl_X5_35 dX5_isSoWith_112 rfl ?_
                refine rs_bipush (v := 8) C dX5_isSoWith_115 (by decide) rfl ?_
                refine rs_aload_n (i := 0) C dX5_isSoWith_117 rfl rfl rfl ?_
                refine rg_X5_0 C kk_91 wl_X5_7 dX5_isSoWith_118 rfl ?_
                refine rs_iload C dX5_isSoWith_121 rfl rfl ?_
                obtain ⟨z33, h⟩ := rs_ck h
                refine rs_ialdn C kk_92 ll_92 z33 dX5_isSoWith_123 rfl ?_
                refine rs_imul C dX5_isSoWith_124 rfl ?_
                refine rs_aload_n (i := 0) C dX5_isSoWith_125 rfl rfl rfl ?_
                refine rg_X5_0 C kk_91 wl_X5_7 dX5_isSoWith_126 rfl ?_
                refine rs_iload C dX5_isSoWith_129 rfl rfl ?_
                refine rs_iconst (v := 1) C dX5_isSoWith_131 (by decide) rfl ?_
                refine rs_iadd C dX5_isSoWith_132 rfl ?_
                obtain ⟨z34, h⟩ := rs_ck h
                refine rs_ialdn C kk_92 ll_92 z34 dX5_isSoWith_133 rfl ?_
                refine rs_iadd C dX5_isSoWith_134 rfl ?_
                obtain ⟨z35, h⟩ := rs_ck h
                refine rs_ialdn C kk_100 ll_100 z35 dX5_isSoWith_135 rfl ?_
                refine rs_aload_n (i := 0) C dX5_isSoWith_136 rfl rfl rfl ?_
                refine rg_X5_0 C kk_91 wl_X5_7 dX5_isSoWith_137 rfl ?_
                refine rs_iload C dX5_isSoWith_140 rfl rfl ?_
                refine rs_iconst (v := 2) C dX5_isSoWith_142 (by decide) rfl ?_
                refine rs_iadd C dX5_isSoWith_143 rfl ?_
                obtain ⟨z36, h⟩ := rs_ck h
                refine rs_ialdn C kk_92 ll_92 z36 dX5_isSoWith_144 rfl ?_
                refine rs_icmp_ne (tgt := 152) C dX5_isSoWith_145 (by decide) rfl (fun z37 => ?_) (fun z37 => ?_)
                · replace h := rs_if z37 h
                  refine rs_iconst (v := 0) C dX5_isSoWith_152 (by decide) rfl ?_
                  exact rs_subk (KJ30 _ h) (rs_ac rfl (rs_ac rfl (rs_ac rfl (rs_ac rfl (rs_ac rfl (rs_ac rfl rs_a0))))))
                · replace h := rs_it z37 h
                  refine rs_iconst (v := 1) C dX5_isSoWith_148 (by decide) rfl ?_
                  refine rs_goto (tgt := 153) C dX5_isSoWith_149 (by decide) ?_
                  exact rs_subk (KJ30 _ h) (rs_ac rfl (rs_ac rfl (rs_ac rfl (rs_ac rfl (rs_ac rfl (rs_ac rfl rs_a0))))))
      exact rs_subk (L86 rs_fu _ _ h) (rs_ac rfl (rs_ac rfl (rs_ac rfl (rs_ac rfl (rs_ac rfl rs_a0)))))
  · have L13 : ∀ (n13 : Nat) (S5 : rs_St) (x6 : Int32), xf_X5_isSoWith_l13 K13 n13 S5 x6 = some o → rs_Xi G 6 p l e (rs_rm 7) s m args below meth c o S5 13 [(0, .ref (rs_ad G 91)), (1, .int a1), (2, .int a2), (3, .int x6)] [] := by
      intro n13
      induction n13 with
      | zero => intro S5 x6 h; exact (rs_no h).elim
      | succ n13 ih13 =>
        intro S5 x6 h
        rw [xf_X5_isSoWith_l13] at h
        refine rs_iload_n (i := 3) C dX5_isSoWith_13 rfl rfl rfl ?_
        refine rs_bipush (v := 20) C dX5_isSoWith_14 (by decide) rfl ?_
        refine rs_icmp_gt (tgt := 81) C dX5_isSoWith_16 (by decide) rfl (fun z7 => ?_) (fun z7 => ?_)
        · replace h := rs_it z7 h
          exact rs_subk (hK13 _ _ h) (rs_ac rfl (rs_ac rfl (rs_ac rfl (rs_ac rfl rs_a0))))
        · replace h := rs_if z7 h
          refine rs_aload_n (i := 0) C dX5_isSoWith_19 rfl rfl rfl ?_
          obtain ⟨S9, h8, h⟩ := rs_b1e h
          refine rs_callVv (S0 := S9) C (rs_kd_lt kk_91 (by decide)) (rs_e5 kk_91) rfl (c_X5_shotGoes l G hG S5 _ h8) ⟨wl_X5_181, wi_yX5_shotGoes, wx_yX5_shotGoes, wn_X5, wc_yX5_shotGoes⟩ wy_yX5_shotGoes (by decide) ⟨rfl, rfl⟩ rfl rfl (Nat.le_of_ble_eq_true rfl) dX5_isSoWith_20 rfl ?_
          refine rs_iconst (v := 0) C dX5_isSoWith_23 (by decide) rfl ?_
          refine rs_istore C dX5_isSoWith_24 (by decide) rfl ?_
          refine rs_kw (F := fun K => xf_X5_isSoWith_l26 x6 K rs_fu S9 0) (P := fun K => ∀ (S20 : rs_St) (x21 : Int32), K S20 x21 = some o → rs_Xi G 6 p l e (rs_rm 7) s m args below meth c o S20 75 [(0, .ref (rs_ad G 91)), (1, .int a1), (2, .int a2), (3, .int x6), (4, .int x21)] []) h (fun S20 x21 h => ?_) (fun K26 hK26 h => ?_)
          · refine rs_iincn (v := 1) C dX5_isSoWith_75 rfl (by decide) (by decide) rfl h (fun x22 h => ?_)
            refine rs_goto (tgt := 13) C dX5_isSoWith_78 (by decide) ?_
            exact rs_subk (ih13 _ _ h) (rs_ac rfl (rs_ac rfl (rs_ac rfl (rs_ac rfl rs_a0))))
          · have L26 : ∀ (n26 : Nat) (S10 : rs_St) (x11 : Int32), xf_X5_isSoWith_l26 x6 K26 n26 S10 x11 = some o → rs_Xi G 6 p l e (rs_rm 7) s m args below meth c o S10 26 [(0, .ref (rs_ad G 91)), (1, .int a1), (2, .int a2), (3, .int x6), (4, .int x11)] [] := by
              intro n26
              induction n26 with
              | zero => intro S10 x11 h; exact (rs_no h).elim
              | succ n26 ih26 =>
                intro S10 x11 h
                rw [xf_X5_isSoWith_l26] at h
                refine rs_iload C dX5_isSoWith_26 rfl rfl ?_
                refine rs_bipush (v := 8) C dX5_isSoWith_28 (by decide) rfl ?_
                refine rs_icmp_ge (tgt := 75) C dX5_isSoWith_30 (by decide) rfl (fun z12 => ?_) (fun z12 => ?_)
                · replace h := rs_it z12 h
                  exact rs_subk (hK26 _ _ h) (rs_ac rfl (rs_ac rfl (rs_ac rfl (rs_ac rfl (rs_ac rfl rs_a0)))))
                · replace h := rs_if z12 h
                  refine rs_aload_n (i := 0) C dX5_isSoWith_33 rfl rfl rfl ?_
                  refine rg_X5_27 C kk_91 wl_X5_35 dX5_isSoWith_34 rfl ?_
                  refine rs_bipush (v := 8) C dX5_isSoWith_37 (by decide) rfl ?_
                  refine rs_iload_n (i := 3) C dX5_isSoWith_39 rfl rfl rfl ?_
                  refine rs_imul C dX5_isSoWith_40 rfl ?_
                  refine rs_iload C dX5_isSoWith_41 rfl rfl ?_
                  refine rs_iadd C dX5_isSoWith_43 rfl ?_
                  refine rs_iload C dX5_isSoWith_44 rfl rfl ?_
                  refine rs_aload_n (i := 0) C dX5_isSoWith_46 rfl rfl rfl ?_
                  refine rg_X5_1 C kk_91 wl_X5_13 dX5_isSoWith_47 rfl ?_
                  refine rs_bipush (v := 17) C dX5_isSoWith_50 (by decide) rfl ?_
                  refine rs_ialdc C kk_93 ll_93 17 (by decide) (by decide) dX5_isSoWith_52 rfl ?_
                  refine rs_jw (P := fun J => ∀ (x13 : Int32), J x13 = some o → rs_Xi G 6 p l e (rs_rm 7) s m args below meth c o S10 68 [(0, .ref (rs_ad G 91)), (1, .int a1), (2, .int a2), (3, .int x6), (4, .int x11)] [.int x13, .int ((8 * x6) + x11), .ref (rs_ad G 100)]) h (fun x13 h => ?_) (fun J14 KJ14 h => ?_)
                  · obtain ⟨z16, h⟩ := rs_ck h
                    refine rs_iastn C kk_100 ll_100 z16 dX5_isSoWith_68 rfl h (fun S15 h => ?_)
                    refine rs_iincn (v := 1) C dX5_isSoWith_69 rfl (by decide) (by decide) rfl h (fun x17 h => ?_)
                    refine rs_goto (tgt := 26) C dX5_isSoWith_72 (by decide) ?_
                    exact rs_subk (ih26 _ _ h) (rs_ac rfl (rs_ac rfl (rs_ac rfl (rs_ac rfl (rs_ac rfl rs_a0)))))
                  · refine rs_icmp_ge (tgt := 66) C dX5_isSoWith_53 (by decide) rfl (fun z18 => ?_) (fun z18 => ?_)
                    · replace h := rs_it z18 h
                      refine rs_bipush (v := (-4)) C dX5_isSoWith_66 (by decide) rfl ?_
                      exact rs_subk (KJ14 _ h) (rs_ac rfl (rs_ac rfl (rs_ac rfl (rs_ac rfl (rs_ac rfl rs_a0)))))
                    · replace h := rs_if z18 h
                      refine rs_aload_n (i := 0) C dX5_isSoWith_56 rfl rfl rfl ?_
                      refine rg_X5_20 C kk_91 wl_X5_29 dX5_isSoWith_57 rfl ?_
                      refine rs_iload C dX5_isSoWith_60 rfl rfl ?_
                      obtain ⟨z19, h⟩ := rs_ck h
                      refine rs_ialdn C kk_98 ll_98 z19 dX5_isSoWith_62 rfl ?_
                      refine rs_goto (tgt := 68) C dX5_isSoWith_63 (by decide) ?_
                      exact rs_subk (KJ14 _ h) (rs_ac rfl (rs_ac rfl (rs_ac rfl (rs_ac rfl (rs_ac rfl rs_a0)))))
            exact rs_subk (L26 rs_fu _ _ h) (rs_ac rfl (rs_ac rfl (rs_ac rfl (rs_ac rfl (rs_ac rfl rs_a0)))))
    exact rs_subk (L13 rs_fu _ _ h) (rs_ac rfl (rs_ac rfl (rs_ac rfl (rs_ac rfl rs_a0))))
def xf_X5_which_l15 (a1 : Int32) (a2 : Int32) (K15 : rs_St → Int32 → Int32 → Option (Int32 × rs_St)) : Nat → rs_St → Int32 → Int32 → Option (Int32 × rs_St)
  | 0, _, _, _ => none
  | n15 + 1, S4, x5, x6 => rs_b1 (xf_X5_mostOf S4 a2) (fun r8 => if r8 < x6 then K15 S4 x5 x6 else rs_b2 (xf_X5_isSoWith S4 ((4 * a1) + a2) x6) (fun r12 S11 => rs_b1 (xf_X5_flag S11 r12) (fun r14 => rs_lt (x5 ||| (r14 <<< (x6 &&& 31))) (fun x15 => rs_lt (x6 + 1) (fun x16 => xf_X5_which_l15 a1 a2 K15 n15 S11 x15 x16)))))
def xf_X5_which (S : rs_St) (a1 : Int32) (a2 : Int32) : Option (Int32 × rs_St) := rs_b1 (xf_X5_isLamp S a1) (fun r2 => if r2 = 0 then some ((-1), S) else xf_X5_which_l15 a1 a2 (fun (S17 : rs_St) (x18 : Int32) (x19 : Int32) => some (x18, S17)) rs_fu S 0 0)
set_option maxRecDepth 100000 in
theorem c_X5_which (l : Launch) (G : rs_G) (hG : rs_ok G) (S : rs_St) (a1 : Int32) (a2 : Int32)  (o : (Int32 × rs_St)) (h : xf_X5_which S a1 a2 = some o) : Met l yX5_which (rs_wz yX5_which cX5_which 5 (some FieldType.int)) (rs_rm 8) (va_Pc [.ref (rs_ad G 91), .int a1, .int a2] (rs_pre G S)) (va_Qi (fun r S2 => (r, S2) = o) (rs_post G) (rs_A G)) 0 0 (rs_A G) := by
  refine rs_met hG (by decide) (Nat.le_of_ble_eq_true rfl) ?_
  intro p e s m args below meth c C hr hlk
  rw [xf_X5_which] at h
  refine rs_aload_n (i := 0) C dX5_which_0 rfl rfl rfl ?_
  refine rs_iload_n (i := 1) C dX5_which_1 rfl rfl rfl ?_
  obtain ⟨r2, h1, h⟩ := rs_b1e h
  refine rs_callVi (r0 := r2) (S0 := S) C (rs_kd_lt kk_91 (by decide)) (rs_e5 kk_91) rfl (c_X5_isLamp l G hG S a1 _ h1) ⟨wl_X5_187, wi_yX5_isLamp, wx_yX5_isLamp, wn_X5, wc_yX5_isLamp⟩ wy_yX5_isLamp (by decide) ⟨rfl, rfl⟩ rfl rfl (Nat.le_of_ble_eq_true rfl) dX5_which_2 rfl ?_
  refine rs_if_ne (tgt := 10) C dX5_which_5 (by decide) rfl (fun z3 => ?_) (fun z3 => ?_)
  · replace h := rs_if z3 h
    refine rs_iconst (v := 0) C dX5_which_10 (by decide) rfl ?_
    refine rs_istore_n (i := 3) C dX5_which_11 rfl (by decide) rfl ?_
    refine rs_iconst (v := 0) C dX5_which_12 (by decide) rfl ?_
    refine rs_istore C dX5_which_13 (by decide) rfl ?_
    refine rs_kw (F := fun K => xf_X5_which_l15 a1 a2 K rs_fu S 0 0) (P := fun K => ∀ (S17 : rs_St) (x18 : Int32) (x19 : Int32), K S17 x18 x19 = some o → rs_Xi G 5 p l e (rs_rm 8) s m args below meth c o S17 50 [(0, .ref (rs_ad G 91)), (1, .int a1), (2, .int a2), (3, .int x18), (4, .int x19)] []) h (fun S17 x18 x19 h => ?_) (fun K15 hK15 h => ?_)
    · refine rs_iload_n (i := 3) C dX5_which_50 rfl rfl rfl ?_
      exact rs_iret C hr hlk h dX5_which_51
    · have L15 : ∀ (n15 : Nat) (S4 : rs_St) (x5 : Int32) (x6 : Int32), xf_X5_which_l15 a1 a2 K15 n15 S4 x5 x6 = some o → rs_Xi G 5 p l e (rs_rm 8) s m args below meth c o S4 15 [(0, .ref (rs_ad G 91)), (1, .int a1), (2, .int a2), (3, .int x5), (4, .int x6)] [] := by
        intro n15
        induction n15 with
        | zero => intro S4 x5 x6 h; exact (rs_no h).elim
        | succ n15 ih15 =>
          intro S4 x5 x6 h
          rw [xf_X5_which_l15] at h
          refine rs_iload C dX5_which_15 rfl rfl ?_
          refine rs_iload_n (i := 2) C dX5_which_17 rfl rfl rfl ?_
          obtain ⟨r8, h7, h⟩ := rs_b1e h
          refine rs_callSi (r0 := r8) (S0 := S4) C (c_X5_mostOf l G hG S4 a2 _ h7) ⟨wl_X5_127, ws_yX5_mostOf, wn_X5, wc_yX5_mostOf⟩ wy_yX5_mostOf (by decide) ⟨rfl, rfl⟩ rfl rfl (Nat.le_of_ble_eq_true rfl) dX5_which_18 rfl ?_
          refine rs_icmp_gt (tgt := 50) C dX5_which_21 (by decide) rfl (fun z9 => ?_) (fun z9 => ?_)
          · replace h := rs_it z9 h
            exact rs_subk (hK15 _ _ _ h) (rs_ac rfl (rs_ac rfl (rs_ac rfl (rs_ac rfl (rs_ac rfl rs_a0)))))
          · replace h := rs_if z9 h
            refine rs_iload_n (i := 3) C dX5_which_24 rfl rfl rfl ?_
            refine rs_aload_n (i := 0) C dX5_which_25 rfl rfl rfl ?_
            refine rs_iconst (v := 4) C dX5_which_26 (by decide) rfl ?_
            refine rs_iload_n (i := 1) C dX5_which_27 rfl rfl rfl ?_
            refine rs_imul C dX5_which_28 rfl ?_
            refine rs_iload_n (i := 2) C dX5_which_29 rfl rfl rfl ?_
            refine rs_iadd C dX5_which_30 rfl ?_
            refine rs_iload C dX5_which_31 rfl rfl ?_
            obtain ⟨r12, S11, h10, h⟩ := rs_b2e h
            refine rs_callVi (r0 := r12) (S0 := S11) C (rs_kd_lt kk_91 (by decide)) (rs_e5 kk_91) rfl (c_X5_isSoWith l G hG S4 ((4 * a1) + a2) x6 _ h10) ⟨wl_X5_275, wi_yX5_isSoWith, wx_yX5_isSoWith, wn_X5, wc_yX5_isSoWith⟩ wy_yX5_isSoWith (by decide) ⟨rfl, rfl⟩ rfl rfl (Nat.le_of_ble_eq_true rfl) dX5_which_33 rfl ?_
            obtain ⟨r14, h13, h⟩ := rs_b1e h
            refine rs_callSi (r0 := r14) (S0 := S11) C (c_X5_flag l G hG S11 r12 _ h13) ⟨wl_X5_174, ws_yX5_flag, wn_X5, wc_yX5_flag⟩ wy_yX5_flag (by decide) ⟨rfl, rfl⟩ rfl rfl (Nat.le_of_ble_eq_true rfl) dX5_which_36 rfl ?_
            refine rs_iload C dX5_which_39 rfl rfl ?_
            refine rs_ishl C dX5_which_41 rfl ?_
            refine rs_ior C dX5_which_42 rfl ?_
            refine rs_nmi h (fun x15 h => ?_)
            refine rs_istore_n (i := 3) C dX5_which_43 rfl (by decide) rfl ?_
            refine rs_iincn (v := 1) C dX5_which_44 rfl (by decide) (by decide) rfl h (fun x16 h => ?_)
            refine rs_goto (tgt := 15) C dX5_which_47 (by decide) ?_
            exact rs_subk (ih15 _ _ _ h) (rs_ac rfl (rs_ac rfl (rs_ac rfl (rs_ac rfl (rs_ac rfl rs_a0)))))
      exact rs_subk (L15 rs_fu _ _ _ h) (rs_ac rfl (rs_ac rfl (rs_ac rfl (rs_ac rfl (rs_ac rfl rs_a0)))))
  · replace h := rs_it z3 h
    refine rs_iconst (v := (-1)) C dX5_which_8 (by decide) rfl ?_
    exact rs_iret C hr hlk h dX5_which_9
def xf_X5_kinds (S : rs_St) (a1 : Int32) : Option (Int32 × rs_St) := rs_b2 (xf_X5_which S a1 0) (fun r3 S2 => some (r3, S2))
set_option maxRecDepth 100000 in
theorem c_X5_kinds (l : Launch) (G : rs_G) (hG : rs_ok G) (S : rs_St) (a1 : Int32)  (o : (Int32 × rs_St)) (h : xf_X5_kinds S a1 = some o) : Met l yX5_kinds (rs_wz yX5_kinds cX5_kinds 2 (some FieldType.int)) (rs_rm 9) (va_Pc [.ref (rs_ad G 91), .int a1] (rs_pre G S)) (va_Qi (fun r S2 => (r, S2) = o) (rs_post G) (rs_A G)) 0 0 (rs_A G) := by
  refine rs_met hG (by decide) (Nat.le_of_ble_eq_true rfl) ?_
  intro p e s m args below meth c C hr hlk
  rw [xf_X5_kinds] at h
  refine rs_aload_n (i := 0) C dX5_kinds_0 rfl rfl rfl ?_
  refine rs_iload_n (i := 1) C dX5_kinds_1 rfl rfl rfl ?_
  refine rs_iconst (v := 0) C dX5_kinds_2 (by decide) rfl ?_
  obtain ⟨r3, S2, h1, h⟩ := rs_b2e h
  refine rs_callVi (r0 := r3) (S0 := S2) C (rs_kd_lt kk_91 (by decide)) (rs_e5 kk_91) rfl (c_X5_which l G hG S a1 0 _ h1) ⟨wl_X5_279, wi_yX5_which, wx_yX5_which, wn_X5, wc_yX5_which⟩ wy_yX5_which (by decide) ⟨rfl, rfl⟩ rfl rfl (Nat.le_of_ble_eq_true rfl) dX5_kinds_3 rfl ?_
  exact rs_iret C hr hlk h dX5_kinds_6
def xf_X5_phases (S : rs_St) (a1 : Int32) : Option (Int32 × rs_St) := rs_b2 (xf_X5_which S a1 3) (fun r3 S2 => some (r3, S2))
set_option maxRecDepth 100000 in
theorem c_X5_phases (l : Launch) (G : rs_G) (hG : rs_ok G) (S : rs_St) (a1 : Int32)  (o : (Int32 × rs_St)) (h : xf_X5_phases S a1 = some o) : Met l yX5_phases (rs_wz yX5_phases cX5_phases 2 (some FieldType.int)) (rs_rm 9) (va_Pc [.ref (rs_ad G 91), .int a1] (rs_pre G S)) (va_Qi (fun r S2 => (r, S2) = o) (rs_post G) (rs_A G)) 0 0 (rs_A G) := by
  refine rs_met hG (by decide) (Nat.le_of_ble_eq_true rfl) ?_
  intro p e s m args below meth c C hr hlk
  rw [xf_X5_phases] at h
  refine rs_aload_n (i := 0) C dX5_phases_0 rfl rfl rfl ?_
  refine rs_iload_n (i := 1) C dX5_phases_1 rfl rfl rfl ?_
  refine rs_iconst (v := 3) C dX5_phases_2 (by decide) rfl ?_
  obtain ⟨r3, S2, h1, h⟩ := rs_b2e h
  refine rs_callVi (r0 := r3) (S0 := S2) C (rs_kd_lt kk_91 (by decide)) (rs_e5 kk_91) rfl (c_X5_which l G hG S a1 3 _ h1) ⟨wl_X5_279, wi_yX5_which, wx_yX5_which, wn_X5, wc_yX5_which⟩ wy_yX5_which (by decide) ⟨rfl, rfl⟩ rfl rfl (Nat.le_of_ble_eq_true rfl) dX5_phases_3 rfl ?_
  exact rs_iret C hr hlk h dX5_phases_6
def xf_X5_ask_l46 (x8 : Int32) (K46 : rs_St → Int32 → Option (Int32 × rs_St)) : Nat → rs_St → Int32 → Option (Int32 × rs_St)
  | 0, _, _ => none
  | n46 + 1, S19, x20 => if 168 ≤ x20 then K46 S19 x20 else if x20 < 0 ∨ 168 ≤ x20.toNatClampNeg then none else if ((168 * x8) + x20) < 0 ∨ 2016 ≤ ((168 * x8) + x20).toNatClampNeg then none else rs_lt (rs_si S19 101 ((168 * x8) + x20).toNatClampNeg (rs_gi S19 100 x20.toNatClampNeg)) (fun S23 => rs_lt (x20 + 1) (fun x25 => xf_X5_ask_l46 x8 K46 n46 S23 x25))
def xf_X5_ask_l147 (x30 : Int32) (S37 : rs_St) (x40 : Int32) (x42 : Int32) (K147 : Int32 → Int32 → Option (Int32 × rs_St)) : Nat → Int32 → Int32 → Option (Int32 × rs_St)
  | 0, _, _ => none
  | n147 + 1, x44, x45 => if x30 ≤ x45 then K147 x44 x45 else if ((168 * x42) + x40) < 0 ∨ 2016 ≤ ((168 * x42) + x40).toNatClampNeg then none else if ((168 * x45) + x40) < 0 ∨ 2016 ≤ ((168 * x45) + x40).toNatClampNeg then none else rs_jn (fun (x49 : Int32) => rs_b1 (xf_X5_flag S37 x49) (fun r52 => rs_lt (x44 + r52) (fun x53 => rs_lt (x45 + 1) (fun x54 => xf_X5_ask_l147 x30 S37 x40 x42 K147 n147 x53 x54)))) (fun J50 => if (rs_gi S37 101 ((168 * x42) + x40).toNatClampNeg) = (rs_gi S37 101 ((168 * x45) + x40).toNatClampNeg) then J50 1 else J50 0)
def xf_X5_ask_l135 (x30 : Int32) (S37 : rs_St) (x40 : Int32) (K135 : Int32 → Int32 → Option (Int32 × rs_St)) : Nat → Int32 → Int32 → Option (Int32 × rs_St)
  | 0, _, _ => none
  | n135 + 1, x41, x42 => if x30 ≤ x42 then K135 x41 x42 else xf_X5_ask_l147 x30 S37 x40 x42 (fun (x56 : Int32) (x57 : Int32) => rs_jn (fun (x58 : Int32) => rs_lt (x42 + 1) (fun x60 => xf_X5_ask_l135 x30 S37 x40 K135 n135 x58 x60)) (fun J59 => if x56 ≤ x41 then J59 x41 else J59 x56)) rs_fu 0 0
def xf_X5_ask_l107 (x30 : Int32) (x35 : Int32) (K107 : rs_St → Int32 → Option (Int32 × rs_St)) : Nat → rs_St → Int32 → Option (Int32 × rs_St)
  | 0, _, _ => none
  | n107 + 1, S37, x38 => if (rs_gi S37 92 17) ≤ x38 then K107 S37 x38 else rs_lt ((8 * x35) + x38) (fun x40 => xf_X5_ask_l135 x30 S37 x40 (fun (x62 : Int32) (x63 : Int32) => rs_b1 (xf_X5_judges S37 ((10 * x35) + x38) x62) (fun S65 => rs_lt (x38 + 1) (fun x66 => xf_X5_ask_l107 x30 x35 K107 n107 S65 x66))) rs_fu 0 0)
def xf_X5_ask_l97 (x30 : Int32) (K97 : rs_St → Int32 → Option (Int32 × rs_St)) : Nat → rs_St → Int32 → Option (Int32 × rs_St)
  | 0, _, _ => none
  | n97 + 1, S34, x35 => if 20 < x35 then K97 S34 x35 else xf_X5_ask_l107 x30 x35 (fun (S67 : rs_St) (x68 : Int32) => rs_lt (x35 + 1) (fun x69 => xf_X5_ask_l97 x30 K97 n97 S67 x69)) rs_fu S34 0
def xf_X5_ask_l22 (a1 : Int32) (K22 : rs_St → Int32 → Int32 → Option (Int32 × rs_St)) : Nat → rs_St → Int32 → Int32 → Option (Int32 × rs_St)
  | 0, _, _, _ => none
  | n22 + 1, S7, x8, x9 => if 11 < x9 then K22 S7 x8 x9 else rs_b2 (xf_X5_isSoWith S7 ((4 * a1) + 3) x9) (fun r13 S12 => rs_jn (fun (S14 : rs_St) (x15 : Int32) => rs_lt (x9 + 1) (fun x17 => xf_X5_ask_l22 a1 K22 n22 S14 x15 x17)) (fun J16 => if r13 = 0 then J16 S12 x8 else xf_X5_ask_l46 x8 (fun (S26 : rs_St) (x27 : Int32) => rs_lt (x8 + 1) (fun x28 => J16 S26 x28)) rs_fu S12 0))
def xf_X5_ask (S : rs_St) (a1 : Int32) (a2 : Int32) : Option (Int32 × rs_St) := rs_b1 (xf_X5_isLamp S a1) (fun r2 => if r2 = 0 then some ((-1), S) else rs_b1 (xf_X5_isPart S a2) (fun r5 => if r5 = 0 then some ((-1), S) else xf_X5_ask_l22 a1 (fun (S29 : rs_St) (x30 : Int32) (x31 : Int32) => rs_b1 (xf_X5_startsJudging S29 x30) (fun S33 => xf_X5_ask_l97 x30 (fun (S70 : rs_St) (x71 : Int32) => rs_b1 (xf_X5_judged S70 a2) (fun r73 => some (r73, S70))) rs_fu S33 0)) rs_fu S 0 0))
set_option maxRecDepth 100000 in
theorem c_X5_ask (l : Launch) (G : rs_G) (hG : rs_ok G) (S : rs_St) (a1 : Int32) (a2 : Int32)  (o : (Int32 × rs_St)) (h : xf_X5_ask S a1 a2 = some o) : Met l yX5_ask (rs_wz yX5_ask cX5_ask 11 (some FieldType.int)) (rs_rm 8) (va_Pc [.ref (rs_ad G 91), .int a1, .int a2] (rs_pre G S)) (va_Qi (fun r S2 => (r, S2) = o) (rs_post G) (rs_A G)) 0 0 (rs_A G) := by
  refine rs_met hG (by decide) (Nat.le_of_ble_eq_true rfl) ?_
  intro p e s m args below meth c C hr hlk
  rw [xf_X5_ask] at h
  refine rs_aload_n (i := 0) C dX5_ask_0 rfl rfl rfl ?_
  refine rs_iload_n (i := 1) C dX5_ask_1 rfl rfl rfl ?_
  obtain ⟨r2, h1, h⟩ := rs_b1e h
  refine rs_callVi (r0 := r2) (S0 := S) C (rs_kd_lt kk_91 (by decide)) (rs_e5 kk_91) rfl (c_X5_isLamp l G hG S a1 _ h1) ⟨wl_X5_187, wi_yX5_isLamp, wx_yX5_isLamp, wn_X5, wc_yX5_isLamp⟩ wy_yX5_isLamp (by decide) ⟨rfl, rfl⟩ rfl rfl (Nat.le_of_ble_eq_true rfl) dX5_ask_2 rfl ?_
  refine rs_if_eq (tgt := 15) C dX5_ask_5 (by decide) rfl (fun z3 => ?_) (fun z3 => ?_)
  · replace h := rs_it z3 h
    refine rs_iconst (v := (-1)) C dX5_ask_15 (by decide) rfl ?_
    exact rs_iret C hr hlk h dX5_ask_16
  · replace h := rs_if z3 h
    refine rs_iload_n (i := 2) C dX5_ask_8 rfl rfl rfl ?_
    obtain ⟨r5, h4, h⟩ := rs_b1e h
    refine rs_callSi (r0 := r5) (S0 := S) C (c_X5_isPart l G hG S a2 _ h4) ⟨wl_X5_238, ws_yX5_isPart, wn_X5, wc_yX5_isPart⟩ wy_yX5_isPart (by decide) ⟨rfl, rfl⟩ rfl rfl (Nat.le_of_ble_eq_true rfl) dX5_ask_9 rfl ?_
    refine rs_if_ne (tgt := 17) C dX5_ask_12 (by decide) rfl (fun z6 => ?_) (fun z6 => ?_)
    · replace h := rs_if z6 h
      refine rs_iconst (v := 0) C dX5_ask_17 (by decide) rfl ?_
      refine rs_istore_n (i := 3) C dX5_ask_18 rfl (by decide) rfl ?_
      refine rs_iconst (v := 0) C dX5_ask_19 (by decide) rfl ?_
      refine rs_istore C dX5_ask_20 (by decide) rfl ?_
      refine rs_kw (F := fun K => xf_X5_ask_l22 a1 K rs_fu S 0 0) (P := fun K => ∀ (S29 : rs_St) (x30 : Int32) (x31 : Int32), K S29 x30 x31 = some o → rs_Xi G 11 p l e (rs_rm 8) s m args below meth c o S29 89 [(0, .ref (rs_ad G 91)), (1, .int a1), (2, .int a2), (3, .int x30), (4, .int x31)] []) h (fun S29 x30 x31 h => ?_) (fun K22 hK22 h => ?_)
      · refine rs_aload_n (i := 0) C dX5_ask_89 rfl rfl rfl ?_
        refine rs_iload_n (i := 3) C dX5_ask_90 rfl rfl rfl ?_
        obtain ⟨S33, h32, h⟩ := rs_b1e h
        refine rs_callVv (S0 := S33) C (rs_kd_lt kk_91 (by decide)) (rs_e5 kk_91) rfl (c_X5_startsJudging l G hG S29 x30 _ h32) ⟨wl_X5_228, wi_yX5_startsJudging, wx_yX5_startsJudging, wn_X5, wc_yX5_startsJudging⟩ wy_yX5_startsJudging (by decide) ⟨rfl, rfl⟩ rfl rfl (Nat.le_of_ble_eq_true rfl) dX5_ask_91 rfl ?_
        refine rs_iconst (v := 0) C dX5_ask_94 (by decide) rfl ?_
        refine rs_istore C dX5_ask_95 (by decide) rfl ?_
        refine rs_kw (F := fun K => xf_X5_ask_l97 x30 K rs_fu S33 0) (P := fun K => ∀ (S70 : rs_St) (x71 : Int32), K S70 x71 = some o → rs_Xi G 11 p l e (rs_rm 8) s m args below meth c o S70 251 [(0, .ref (rs_ad G 91)), (1, .int a1), (2, .int a2), (3, .int x30), (4, .int x71)] []) h (fun S70 x71 h => ?_) (fun K97 hK97 h => ?_)
        · refine rs_aload_n (i := 0) C dX5_ask_251 rfl rfl rfl ?_
          refine rs_iload_n (i := 2) C dX5_ask_252 rfl rfl rfl ?_
          obtain ⟨r73, h72, h⟩ := rs_b1e h
          refine rs_callVi (r0 := r73) (S0 := S70) C (rs_kd_lt kk_91 (by decide)) (rs_e5 kk_91) rfl (c_X5_judged l G hG S70 a2 _ h72) ⟨wl_X5_235, wi_yX5_judged, wx_yX5_judged, wn_X5, wc_yX5_judged⟩ wy_yX5_judged (by decide) ⟨rfl, rfl⟩ rfl rfl (Nat.le_of_ble_eq_true rfl) dX5_ask_253 rfl ?_
          exact rs_iret C hr hlk h dX5_ask_256
        · have L97 : ∀ (n97 : Nat) (S34 : rs_St) (x35 : Int32), xf_X5_ask_l97 x30 K97 n97 S34 x35 = some o → rs_Xi G 11 p l e (rs_rm 8) s m args below meth c o S34 97 [(0, .ref (rs_ad G 91)), (1, .int a1), (2, .int a2), (3, .int x30), (4, .int x35)] [] := by
            intro n97
            induction n97 with
            | zero => intro S34 x35 h; exact (rs_no h).elim
            | succ n97 ih97 =>
              intro S34 x35 h
              rw [xf_X5_ask_l97] at h
              refine rs_iload C dX5_ask_97 rfl rfl ?_
              refine rs_bipush (v := 20) C dX5_ask_99 (by decide) rfl ?_
              refine rs_icmp_gt (tgt := 251) C dX5_ask_101 (by decide) rfl (fun z36 => ?_) (fun z36 => ?_)
              · replace h := rs_it z36 h
                exact rs_subk (hK97 _ _ h) (rs_ac rfl (rs_ac rfl (rs_ac rfl (rs_ac rfl (rs_ac rfl rs_a0)))))
              · replace h := rs_if z36 h
                refine rs_iconst (v := 0) C dX5_ask_104 (by decide) rfl ?_
                refine rs_istore C dX5_ask_105 (by decide) rfl ?_
                refine rs_kw (F := fun K => xf_X5_ask_l107 x30 x35 K rs_fu S34 0) (P := fun K => ∀ (S67 : rs_St) (x68 : Int32), K S67 x68 = some o → rs_Xi G 11 p l e (rs_rm 8) s m args below meth c o S67 245 [(0, .ref (rs_ad G 91)), (1, .int a1), (2, .int a2), (3, .int x30), (4, .int x35), (5, .int x68)] []) h (fun S67 x68 h => ?_) (fun K107 hK107 h => ?_)
                · refine rs_iincn (v := 1) C dX5_ask_245 rfl (by decide) (by decide) rfl h (fun x69 h => ?_)
                  refine rs_goto (tgt := 97) C dX5_ask_248 (by decide) ?_
                  exact rs_subk (ih97 _ _ h) (rs_ac rfl (rs_ac rfl (rs_ac rfl (rs_ac rfl (rs_ac rfl rs_a0)))))
                · have L107 : ∀ (n107 : Nat) (S37 : rs_St) (x38 : Int32), xf_X5_ask_l107 x30 x35 K107 n107 S37 x38 = some o → rs_Xi G 11 p l e (rs_rm 8) s m args below meth c o S37 107 [(0, .ref (rs_ad G 91)), (1, .int a1), (2, .int a2), (3, .int x30), (4, .int x35), (5, .int x38)] [] := by
                    intro n107
                    induction n107 with
                    | zero => intro S37 x38 h; exact (rs_no h).elim
                    | succ n107 ih107 =>
                      intro S37 x38 h
                      rw [xf_X5_ask_l107] at h
                      refine rs_iload C dX5_ask_107 rfl rfl ?_
                      refine rs_aload_n (i := 0) C dX5_ask_109 rfl rfl rfl ?_
                      refine rg_X5_0 C kk_91 wl_X5_7 dX5_ask_110 rfl ?_
                      refine rs_bipush (v := 17) C dX5_ask_113 (by decide) rfl ?_
                      refine rs_ialdc C kk_92 ll_92 17 (by decide) (by decide) dX5_ask_115 rfl ?_
                      refine rs_icmp_ge (tgt := 245) C dX5_ask_116 (by decide) rfl (fun z39 => ?_) (fun z39 => ?_)
                      · replace h := rs_it z39 h
                        exact rs_subk (hK107 _ _ h) (rs_ac rfl (rs_ac rfl (rs_ac rfl (rs_ac rfl (rs_ac rfl (rs_ac rfl rs_a0))))))
                      · replace h := rs_if z39 h
                        refine rs_bipush (v := 8) C dX5_ask_119 (by decide) rfl ?_
                        refine rs_iload C dX5_ask_121 rfl rfl ?_
                        refine rs_imul C dX5_ask_123 rfl ?_
                        refine rs_iload C dX5_ask_124 rfl rfl ?_
                        refine rs_iadd C dX5_ask_126 rfl ?_
                        refine rs_nmi h (fun x40 h => ?_)
                        refine rs_istore C dX5_ask_127 (by decide) rfl ?_
                        refine rs_iconst (v := 0) C dX5_ask_129 (by decide) rfl ?_
                        refine rs_istore C dX5_ask_130 (by decide) rfl ?_
                        refine rs_iconst (v := 0) C dX5_ask_132 (by decide) rfl ?_
                        refine rs_istore C dX5_ask_133 (by decide) rfl ?_
                        refine rs_kw (F := fun K => xf_X5_ask_l135 x30 S37 x40 K rs_fu 0 0) (P := fun K => ∀ (x62 : Int32) (x63 : Int32), K x62 x63 = some o → rs_Xi G 11 p l e (rs_rm 8) s m args below meth c o S37 225 [(0, .ref (rs_ad G 91)), (1, .int a1), (2, .int a2), (3, .int x30), (4, .int x35), (5, .int x38), (6, .int x40), (7, .int x62), (8, .int x63)] []) h (fun x62 x63 h => ?_) (fun K135 hK135 h => ?_)
                        · refine rs_aload_n (i := 0) C dX5_ask_225 rfl rfl rfl ?_
                          refine rs_bipush (v := 10) C dX5_ask_226 (by decide) rfl ?_
                          refine rs_iload C dX5_ask_228 rfl rfl ?_
                          refine rs_imul C dX5_ask_230 rfl ?_
                          refine rs_iload C dX5_ask_231 rfl rfl ?_
                          refine rs_iadd C dX5_ask_233 rfl ?_
                          refine rs_iload C dX5_ask_234 rfl rfl ?_
                          obtain ⟨S65, h64, h⟩ := rs_b1e h
                          refine rs_callVv (S0 := S65) C (rs_kd_lt kk_91 (by decide)) (rs_e5 kk_91) rfl (c_X5_judges l G hG S37 ((10 * x35) + x38) x62 _ h64) ⟨wl_X5_231, wi_yX5_judges, wx_yX5_judges, wn_X5, wc_yX5_judges⟩ wy_yX5_judges (by decide) ⟨rfl, rfl⟩ rfl rfl (Nat.le_of_ble_eq_true rfl) dX5_ask_236 rfl ?_
                          refine rs_iincn (v := 1) C dX5_ask_239 rfl (by decide) (by decide) rfl h (fun x66 h => ?_)
                          refine rs_goto (tgt := 107) C dX5_ask_242 (by decide) ?_
                          exact rs_subk (ih107 _ _ h) (rs_ac rfl (rs_ac rfl (rs_ac rfl (rs_ac rfl (rs_ac rfl (rs_ac rfl rs_a0))))))
                        · have L135 : ∀ (n135 : Nat) (x41 : Int32) (x42 : Int32), xf_X5_ask_l135 x30 S37 x40 K135 n135 x41 x42 = some o → rs_Xi G 11 p l e (rs_rm 8) s m args below meth c o S37 135 [(0, .ref (rs_ad G 91)), (1, .int a1), (2, .int a2), (3, .int x30), (4, .int x35), (5, .int x38), (6, .int x40), (7, .int x41), (8, .int x42)] [] := by
                            intro n135
                            induction n135 with
                            | zero => intro x41 x42 h; exact (rs_no h).elim
                            | succ n135 ih135 =>
                              intro x41 x42 h
                              rw [xf_X5_ask_l135] at h
                              refine rs_iload C dX5_ask_135 rfl rfl ?_
                              refine rs_iload_n (i := 3) C dX5_ask_137 rfl rfl rfl ?_
                              refine rs_icmp_ge (tgt := 225) C dX5_ask_138 (by decide) rfl (fun z43 => ?_) (fun z43 => ?_)
                              · replace h := rs_it z43 h
                                exact rs_subk (hK135 _ _ h) (rs_ac rfl (rs_ac rfl (rs_ac rfl (rs_ac rfl (rs_ac rfl (rs_ac rfl (rs_ac rfl (rs_ac rfl (rs_ac rfl rs_a0)))))))))
                              · replace h := rs_if z43 h
                                refine rs_iconst (v := 0) C dX5_ask_141 (by decide) rfl ?_
                                refine rs_istore C dX5_ask_142 (by decide) rfl ?_
                                refine rs_iconst (v := 0) C dX5_ask_144 (by decide) rfl ?_
                                refine rs_istore C dX5_ask_145 (by decide) rfl ?_
                                refine rs_kw (F := fun K => xf_X5_ask_l147 x30 S37 x40 x42 K rs_fu 0 0) (P := fun K => ∀ (x56 : Int32) (x57 : Int32), K x56 x57 = some o → rs_Xi G 11 p l e (rs_rm 8) s m args below meth c o S37 203 [(0, .ref (rs_ad G 91)), (1, .int a1), (2, .int a2), (3, .int x30), (4, .int x35), (5, .int x38), (6, .int x40), (7, .int x41), (8, .int x42), (9, .int x56), (10, .int x57)] []) h (fun x56 x57 h => ?_) (fun K147 hK147 h => ?_)
                                · refine rs_iload C dX5_ask_203 rfl rfl ?_
                                  refine rs_iload C dX5_ask_205 rfl rfl ?_
                                  refine rs_jw (P := fun J => ∀ (x58 : Int32), J x58 = some o → rs_Xi G 11 p l e (rs_rm 8) s m args below meth c o S37 217 [(0, .ref (rs_ad G 91)), (1, .int a1), (2, .int a2), (3, .int x30), (4, .int x35), (5, .int x38), (6, .int x40), (7, .int x41), (8, .int x42), (9, .int x56), (10, .int x57)] [.int x58]) h (fun x58 h => ?_) (fun J59 KJ59 h => ?_)
                                  · refine rs_istore C dX5_ask_217 (by decide) rfl ?_
                                    refine rs_iincn (v := 1) C dX5_ask_219 rfl (by decide) (by decide) rfl h (fun x60 h => ?_)
                                    refine rs_goto (tgt := 135) C dX5_ask_222 (by decide) ?_
                                    exact rs_subk (ih135 _ _ h) (rs_ac rfl (rs_ac rfl (rs_ac rfl (rs_ac rfl (rs_ac rfl (rs_ac rfl (rs_ac rfl (rs_ac rfl (rs_ac rfl rs_a0)))))))))
                                  · refine rs_icmp_le (tgt := 215) C dX5_ask_207 (by decide) rfl (fun z61 => ?_) (fun z61 => ?_)
                                    · replace h := rs_it z61 h
                                      refine rs_iload C dX5_ask_215 rfl rfl ?_
                                      exact rs_subk (KJ59 _ h) (rs_ac rfl (rs_ac rfl (rs_ac rfl (rs_ac rfl (rs_ac rfl (rs_ac rfl (rs_ac rfl (rs_ac rfl (rs_ac rfl (rs_ac rfl (rs_ac rfl rs_a0)))))))))))
                                    · replace h := rs_if z61 h
                                      refine rs_iload C dX5_ask_210 rfl rfl ?_
                                      refine rs_goto (tgt := 217) C dX5_ask_212 (by decide) ?_
                                      exact rs_subk (KJ59 _ h) (rs_ac rfl (rs_ac rfl (rs_ac rfl (rs_ac rfl (rs_ac rfl (rs_ac rfl (rs_ac rfl (rs_ac rfl (rs_ac rfl (rs_ac rfl (rs_ac rfl rs_a0)))))))))))
                                · have L147 : ∀ (n147 : Nat) (x44 : Int32) (x45 : Int32), xf_X5_ask_l147 x30 S37 x40 x42 K147 n147 x44 x45 = some o → rs_Xi G 11 p l e (rs_rm 8) s m args below meth c o S37 147 [(0, .ref (rs_ad G 91)), (1, .int a1), (2, .int a2), (3, .int x30), (4, .int x35), (5, .int x38), (6, .int x40), (7, .int x41), (8, .int x42), (9, .int x44), (10, .int x45)] [] := by
                                    intro n147
                                    induction n147 with
                                    | zero => intro x44 x45 h; exact (rs_no h).elim
                                    | succ n147 ih147 =>
                                      intro x44 x45 h
                                      rw [xf_X5_ask_l147] at h
                                      refine rs_iload C dX5_ask_147 rfl rfl ?_
                                      refine rs_iload_n (i := 3) C dX5_ask_149 rfl rfl rfl ?_
                                      refine rs_icmp_ge (tgt := 203) C dX5_ask_150 (by decide) rfl (fun z46 => ?_) (fun z46 => ?_)
                                      · replace h := rs_it z46 h
                                        exact rs_subk (hK147 _ _ h) (rs_ac rfl (rs_ac rfl (rs_ac rfl (rs_ac rfl (rs_ac rfl (rs_ac rfl (rs_ac rfl (rs_ac rfl (rs_ac rfl (rs_ac rfl (rs_ac rfl rs_a0)))))))))))
                                      · replace h := rs_if z46 h
                                        refine rs_iload C dX5_ask_153 rfl rfl ?_
                                        refine rs_aload_n (i := 0) C dX5_ask_155 rfl rfl rfl ?_
                                        refine rg_X5_28 C kk_91 wl_X5_38 dX5_ask_156 rfl ?_
                                        refine rs_sipush (v := 168) C dX5_ask_159 (by decide) rfl ?_
                                        refine rs_iload C dX5_ask_162 rfl rfl ?_
                                        refine rs_imul C dX5_ask_164 rfl ?_
                                        refine rs_iload C dX5_ask_165 rfl rfl ?_
                                        refine rs_iadd C dX5_ask_167 rfl ?_
                                        obtain ⟨z47, h⟩ := rs_ck h
                                        refine rs_ialdn C kk_101 ll_101 z47 dX5_ask_168 rfl ?_
                                        refine rs_aload_n (i := 0) C dX5_ask_169 rfl rfl rfl ?_
                                        refine rg_X5_28 C kk_91 wl_X5_38 dX5_ask_170 rfl ?_
                                        refine rs_sipush (v := 168) C dX5_ask_173 (by decide) rfl ?_
                                        refine rs_iload C dX5_ask_176 rfl rfl ?_
                                        refine rs_imul C dX5_ask_178 rfl ?_
                                        refine rs_iload C dX5_ask_179 rfl rfl ?_
                                        refine rs_iadd C dX5_ask_181 rfl ?_
                                        obtain ⟨z48, h⟩ := rs_ck h
                                        refine rs_ialdn C kk_101 ll_101 z48 dX5_ask_182 rfl ?_
                                        refine rs_jw (P := fun J => ∀ (x49 : Int32), J x49 = some o → rs_Xi G 11 p l e (rs_rm 8) s m args below meth c o S37 191 [(0, .ref (rs_ad G 91)), (1, .int a1), (2, .int a2), (3, .int x30), (4, .int x35), (5, .int x38), (6, .int x40), (7, .int x41), (8, .int x42), (9, .int x44), (10, .int x45)] [.int x49, .int x44]) h (fun x49 h => ?_) (fun J50 KJ50 h => ?_)
                                        · obtain ⟨r52, h51, h⟩ := rs_b1e h
                                          refine rs_callSi (r0 := r52) (S0 := S37) C (c_X5_flag l G hG S37 x49 _ h51) ⟨wl_X5_174, ws_yX5_flag, wn_X5, wc_yX5_flag⟩ wy_yX5_flag (by decide) ⟨rfl, rfl⟩ rfl rfl (Nat.le_of_ble_eq_true rfl) dX5_ask_191 rfl ?_
                                          refine rs_iadd C dX5_ask_194 rfl ?_
                                          refine rs_nmi h (fun x53 h => ?_)
                                          refine rs_istore C dX5_ask_195 (by decide) rfl ?_
                                          refine rs_iincn (v := 1) C dX5_ask_197 rfl (by decide) (by decide) rfl h (fun x54 h => ?_)
                                          refine rs_goto (tgt := 147) C dX5_ask_200 (by decide) ?_
                                          exact rs_subk (ih147 _ _ h) (rs_ac rfl (rs_ac rfl (rs_ac rfl (rs_ac rfl (rs_ac rfl (rs_ac rfl (rs_ac rfl (rs_ac rfl (rs_ac rfl (rs_ac rfl (rs_ac rfl rs_a0)))))))))))
                                        · refine rs_icmp_ne (tgt := 190) C dX5_ask_183 (by decide) rfl (fun z55 => ?_) (fun z55 => ?_)
                                          · replace h := rs_if z55 h
                                            refine rs_iconst (v := 0) C dX5_ask_190 (by decide) rfl ?_
                                            exact rs_subk (KJ50 _ h) (rs_ac rfl (rs_ac rfl (rs_ac rfl (rs_ac rfl (rs_ac rfl (rs_ac rfl (rs_ac rfl (rs_ac rfl (rs_ac rfl (rs_ac rfl (rs_ac rfl rs_a0)))))))))))
                                          · replace h := rs_it z55 h
                                            refine rs_iconst (v := 1) C dX5_ask_186 (by decide) rfl ?_
                                            refine rs_goto (tgt := 191) C dX5_ask_187 (by decide) ?_
                                            exact rs_subk (KJ50 _ h) (rs_ac rfl (rs_ac rfl (rs_ac rfl (rs_ac rfl (rs_ac rfl (rs_ac rfl (rs_ac rfl (rs_ac rfl (rs_ac rfl (rs_ac rfl (rs_ac rfl rs_a0)))))))))))
                                  exact rs_subk (L147 rs_fu _ _ h) (rs_ac rfl (rs_ac rfl (rs_ac rfl (rs_ac rfl (rs_ac rfl (rs_ac rfl (rs_ac rfl (rs_ac rfl (rs_ac rfl (rs_ac rfl (rs_ac rfl rs_a0)))))))))))
                          exact rs_subk (L135 rs_fu _ _ h) (rs_ac rfl (rs_ac rfl (rs_ac rfl (rs_ac rfl (rs_ac rfl (rs_ac rfl (rs_ac rfl (rs_ac rfl (rs_ac rfl rs_a0)))))))))
                  exact rs_subk (L107 rs_fu _ _ h) (rs_ac rfl (rs_ac rfl (rs_ac rfl (rs_ac rfl (rs_ac rfl (rs_ac rfl rs_a0))))))
          exact rs_subk (L97 rs_fu _ _ h) (rs_ac rfl (rs_ac rfl (rs_ac rfl (rs_ac rfl (rs_ac rfl rs_a0)))))
      · have L22 : ∀ (n22 : Nat) (S7 : rs_St) (x8 : Int32) (x9 : Int32), xf_X5_ask_l22 a1 K22 n22 S7 x8 x9 = some o → rs_Xi G 11 p l e (rs_rm 8) s m args below meth c o S7 22 [(0, .ref (rs_ad G 91)), (1, .int a1), (2, .int a2), (3, .int x8), (4, .int x9)] [] := by
          intro n22
          induction n22 with
          | zero => intro S7 x8 x9 h; exact (rs_no h).elim
          | succ n22 ih22 =>
            intro S7 x8 x9 h
            rw [xf_X5_ask_l22] at h
            refine rs_iload C dX5_ask_22 rfl rfl ?_
            refine rs_bipush (v := 11) C dX5_ask_24 (by decide) rfl ?_
            refine rs_icmp_gt (tgt := 89) C dX5_ask_26 (by decide) rfl (fun z10 => ?_) (fun z10 => ?_)
            · replace h := rs_it z10 h
              exact rs_subk (hK22 _ _ _ h) (rs_ac rfl (rs_ac rfl (rs_ac rfl (rs_ac rfl (rs_ac rfl rs_a0)))))
            · replace h := rs_if z10 h
              refine rs_aload_n (i := 0) C dX5_ask_29 rfl rfl rfl ?_
              refine rs_iconst (v := 4) C dX5_ask_30 (by decide) rfl ?_
              refine rs_iload_n (i := 1) C dX5_ask_31 rfl rfl rfl ?_
              refine rs_imul C dX5_ask_32 rfl ?_
              refine rs_iconst (v := 3) C dX5_ask_33 (by decide) rfl ?_
              refine rs_iadd C dX5_ask_34 rfl ?_
              refine rs_iload C dX5_ask_35 rfl rfl ?_
              obtain ⟨r13, S12, h11, h⟩ := rs_b2e h
              refine rs_callVi (r0 := r13) (S0 := S12) C (rs_kd_lt kk_91 (by decide)) (rs_e5 kk_91) rfl (c_X5_isSoWith l G hG S7 ((4 * a1) + 3) x9 _ h11) ⟨wl_X5_275, wi_yX5_isSoWith, wx_yX5_isSoWith, wn_X5, wc_yX5_isSoWith⟩ wy_yX5_isSoWith (by decide) ⟨rfl, rfl⟩ rfl rfl (Nat.le_of_ble_eq_true rfl) dX5_ask_37 rfl ?_
              refine rs_jw (P := fun J => ∀ (S14 : rs_St) (x15 : Int32), J S14 x15 = some o → rs_Xi G 11 p l e (rs_rm 8) s m args below meth c o S14 83 [(0, .ref (rs_ad G 91)), (1, .int a1), (2, .int a2), (3, .int x15), (4, .int x9)] []) h (fun S14 x15 h => ?_) (fun J16 KJ16 h => ?_)
              · refine rs_iincn (v := 1) C dX5_ask_83 rfl (by decide) (by decide) rfl h (fun x17 h => ?_)
                refine rs_goto (tgt := 22) C dX5_ask_86 (by decide) ?_
                exact rs_subk (ih22 _ _ _ h) (rs_ac rfl (rs_ac rfl (rs_ac rfl (rs_ac rfl (rs_ac rfl rs_a0)))))
              · refine rs_if_eq (tgt := 83) C dX5_ask_40 (by decide) rfl (fun z18 => ?_) (fun z18 => ?_)
                · replace h := rs_it z18 h
                  exact rs_subk (KJ16 _ _ h) (rs_ac rfl (rs_ac rfl (rs_ac rfl (rs_ac rfl (rs_ac rfl rs_a0)))))
                · replace h := rs_if z18 h
                  refine rs_iconst (v := 0) C dX5_ask_43 (by decide) rfl ?_
                  refine rs_istore C dX5_ask_44 (by decide) rfl ?_
                  refine rs_kw (F := fun K => xf_X5_ask_l46 x8 K rs_fu S12 0) (P := fun K => ∀ (S26 : rs_St) (x27 : Int32), K S26 x27 = some o → rs_Xi G 11 p l e (rs_rm 8) s m args below meth c o S26 80 [(0, .ref (rs_ad G 91)), (1, .int a1), (2, .int a2), (3, .int x8), (4, .int x9), (5, .int x27)] []) h (fun S26 x27 h => ?_) (fun K46 hK46 h => ?_)
                  · refine rs_iincn (v := 1) C dX5_ask_80 rfl (by decide) (by decide) rfl h (fun x28 h => ?_)
                    exact rs_subk (KJ16 _ _ h) (rs_ac rfl (rs_ac rfl (rs_ac rfl (rs_ac rfl (rs_ac rfl rs_a0)))))
                  · have L46 : ∀ (n46 : Nat) (S19 : rs_St) (x20 : Int32), xf_X5_ask_l46 x8 K46 n46 S19 x20 = some o → rs_Xi G 11 p l e (rs_rm 8) s m args below meth c o S19 46 [(0, .ref (rs_ad G 91)), (1, .int a1), (2, .int a2), (3, .int x8), (4, .int x9), (5, .int x20)] [] := by
                      intro n46
                      induction n46 with
                      | zero => intro S19 x20 h; exact (rs_no h).elim
                      | succ n46 ih46 =>
                        intro S19 x20 h
                        rw [xf_X5_ask_l46] at h
                        refine rs_iload C dX5_ask_46 rfl rfl ?_
                        refine rs_sipush (v := 168) C dX5_ask_48 (by decide) rfl ?_
                        refine rs_icmp_ge (tgt := 80) C dX5_ask_51 (by decide) rfl (fun z21 => ?_) (fun z21 => ?_)
                        · replace h := rs_it z21 h
                          exact rs_subk (hK46 _ _ h) (rs_ac rfl (rs_ac rfl (rs_ac rfl (rs_ac rfl (rs_ac rfl (rs_ac rfl rs_a0))))))
                        · replace h := rs_if z21 h
                          refine rs_aload_n (i := 0) C dX5_ask_54 rfl rfl rfl ?_
                          refine rg_X5_28 C kk_91 wl_X5_38 dX5_ask_55 rfl ?_
                          refine rs_sipush (v := 168) C dX5_ask_58 (by decide) rfl ?_
                          refine rs_iload_n (i := 3) C dX5_ask_61 rfl rfl rfl ?_
                          refine rs_imul C dX5_ask_62 rfl ?_
                          refine rs_iload C dX5_ask_63 rfl rfl ?_
                          refine rs_iadd C dX5_ask_65 rfl ?_
                          refine rs_aload_n (i := 0) C dX5_ask_66 rfl rfl rfl ?_
                          refine rg_X5_27 C kk_91 wl_X5_35 dX5_ask_67 rfl ?_
                          refine rs_iload C dX5_ask_70 rfl rfl ?_
                          obtain ⟨z22, h⟩ := rs_ck h
                          refine rs_ialdn C kk_100 ll_100 z22 dX5_ask_72 rfl ?_
                          obtain ⟨z24, h⟩ := rs_ck h
                          refine rs_iastn C kk_101 ll_101 z24 dX5_ask_73 rfl h (fun S23 h => ?_)
                          refine rs_iincn (v := 1) C dX5_ask_74 rfl (by decide) (by decide) rfl h (fun x25 h => ?_)
                          refine rs_goto (tgt := 46) C dX5_ask_77 (by decide) ?_
                          exact rs_subk (ih46 _ _ h) (rs_ac rfl (rs_ac rfl (rs_ac rfl (rs_ac rfl (rs_ac rfl (rs_ac rfl rs_a0))))))
                    exact rs_subk (L46 rs_fu _ _ h) (rs_ac rfl (rs_ac rfl (rs_ac rfl (rs_ac rfl (rs_ac rfl (rs_ac rfl rs_a0))))))
        exact rs_subk (L22 rs_fu _ _ _ h) (rs_ac rfl (rs_ac rfl (rs_ac rfl (rs_ac rfl (rs_ac rfl rs_a0)))))
    · replace h := rs_it z6 h
      refine rs_iconst (v := (-1)) C dX5_ask_15 (by decide) rfl ?_
      exact rs_iret C hr hlk h dX5_ask_16
def xf_X5_drift_l44 (a2 : Int32) (K44 : rs_St → Int32 → Int32 → Option (Int32 × rs_St)) : Nat → rs_St → Int32 → Int32 → Option (Int32 × rs_St)
  | 0, _, _, _ => none
  | n44 + 1, S10, x11, x12 => if a2 ≤ x12 then K44 S10 x11 x12 else rs_lt ((x11 * 1103515245) + 12345) (fun x14 => rs_lt ((x14 >>> (16 &&& 31)) &&& 32767) (fun x15 => if (rs_gi S10 92 16) = 0 then none else if ((4 * (x15 - x15 / (rs_gi S10 92 16) * (rs_gi S10 92 16))) + 3) < 0 ∨ 51 ≤ ((4 * (x15 - x15 / (rs_gi S10 92 16) * (rs_gi S10 92 16))) + 3).toNatClampNeg then none else rs_lt (rs_si S10 93 ((4 * (x15 - x15 / (rs_gi S10 92 16) * (rs_gi S10 92 16))) + 3).toNatClampNeg ((x15 / 8) - (x15 / 8) / 12 * 12)) (fun S17 => rs_b1 (xf_X5_shotGoes S17) (fun S20 => rs_lt (x12 + 1) (fun x21 => xf_X5_drift_l44 a2 K44 n44 S20 x14 x21)))))
def xf_X5_drift (S : rs_St) (a1 : Int32) (a2 : Int32) (a3 : Int32) : Option (Int32 × rs_St) := rs_b1 (xf_X5_in S (a2.toInt64) 1 40) (fun r2 => if r2 = 0 then some ((-1), S) else rs_b1 (xf_X5_isPart S a3) (fun r5 => if r5 = 0 then some ((-1), S) else if (rs_gi S 92 16) = 0 then some ((-2), S) else rs_b1 (xf_X5_starts S) (fun S9 => xf_X5_drift_l44 a2 (fun (S22 : rs_St) (x23 : Int32) (x24 : Int32) => if a3 = 0 then some ((rs_gi S22 91 15), S22) else some ((rs_gi S22 91 17), S22)) rs_fu S9 a1 0)))
set_option maxRecDepth 100000 in
theorem c_X5_drift (l : Launch) (G : rs_G) (hG : rs_ok G) (S : rs_St) (a1 : Int32) (a2 : Int32) (a3 : Int32)  (o : (Int32 × rs_St)) (h : xf_X5_drift S a1 a2 a3 = some o) : Met l yX5_drift (rs_wz yX5_drift cX5_drift 7 (some FieldType.int)) (rs_rm 7) (va_Pc [.ref (rs_ad G 91), .int a1, .int a2, .int a3] (rs_pre G S)) (va_Qi (fun r S2 => (r, S2) = o) (rs_post G) (rs_A G)) 0 0 (rs_A G) := by
  refine rs_met hG (by decide) (Nat.le_of_ble_eq_true rfl) ?_
  intro p e s m args below meth c C hr hlk
  rw [xf_X5_drift] at h
  refine rs_iload_n (i := 2) C dX5_drift_0 rfl rfl rfl ?_
  refine rs_i2l C dX5_drift_1 rfl ?_
  refine rs_lconst (v := 1) C dX5_drift_2 (by decide) rfl ?_
  refine rs_ldc2 C dX5_drift_3 wk_X5_208 rfl ?_
  obtain ⟨r2, h1, h⟩ := rs_b1e h
  refine rs_callSi (r0 := r2) (S0 := S) C (c_X5_in l G hG S (a2.toInt64) 1 40 _ h1) ⟨wl_X5_61, ws_yX5_in, wn_X5, wc_yX5_in⟩ wy_yX5_in (by decide) ⟨rfl, rfl⟩ rfl rfl (Nat.le_of_ble_eq_true rfl) dX5_drift_6 rfl ?_
  refine rs_if_eq (tgt := 19) C dX5_drift_9 (by decide) rfl (fun z3 => ?_) (fun z3 => ?_)
  · replace h := rs_it z3 h
    refine rs_iconst (v := (-1)) C dX5_drift_19 (by decide) rfl ?_
    exact rs_iret C hr hlk h dX5_drift_20
  · replace h := rs_if z3 h
    refine rs_iload_n (i := 3) C dX5_drift_12 rfl rfl rfl ?_
    obtain ⟨r5, h4, h⟩ := rs_b1e h
    refine rs_callSi (r0 := r5) (S0 := S) C (c_X5_isPart l G hG S a3 _ h4) ⟨wl_X5_238, ws_yX5_isPart, wn_X5, wc_yX5_isPart⟩ wy_yX5_isPart (by decide) ⟨rfl, rfl⟩ rfl rfl (Nat.le_of_ble_eq_true rfl) dX5_drift_13 rfl ?_
    refine rs_if_ne (tgt := 21) C dX5_drift_16 (by decide) rfl (fun z6 => ?_) (fun z6 => ?_)
    · replace h := rs_if z6 h
      refine rs_aload_n (i := 0) C dX5_drift_21 rfl rfl rfl ?_
      refine rg_X5_0 C kk_91 wl_X5_7 dX5_drift_22 rfl ?_
      refine rs_bipush (v := 16) C dX5_drift_25 (by decide) rfl ?_
      refine rs_ialdc C kk_92 ll_92 16 (by decide) (by decide) dX5_drift_27 rfl ?_
      refine rs_if_ne (tgt := 34) C dX5_drift_28 (by decide) rfl (fun z7 => ?_) (fun z7 => ?_)
      · replace h := rs_if z7 h
        refine rs_iload_n (i := 1) C dX5_drift_34 rfl rfl rfl ?_
        refine rs_istore C dX5_drift_35 (by decide) rfl ?_
        refine rs_aload_n (i := 0) C dX5_drift_37 rfl rfl rfl ?_
        obtain ⟨S9, h8, h⟩ := rs_b1e h
        refine rs_callVv (S0 := S9) C (rs_kd_lt kk_91 (by decide)) (rs_e5 kk_91) rfl (c_X5_starts l G hG S _ h8) ⟨wl_X5_184, wi_yX5_starts, wx_yX5_starts, wn_X5, wc_yX5_starts⟩ wy_yX5_starts (by decide) ⟨rfl, rfl⟩ rfl rfl (Nat.le_of_ble_eq_true rfl) dX5_drift_38 rfl ?_
        refine rs_iconst (v := 0) C dX5_drift_41 (by decide) rfl ?_
        refine rs_istore C dX5_drift_42 (by decide) rfl ?_
        refine rs_kw (F := fun K => xf_X5_drift_l44 a2 K rs_fu S9 a1 0) (P := fun K => ∀ (S22 : rs_St) (x23 : Int32) (x24 : Int32), K S22 x23 x24 = some o → rs_Xi G 7 p l e (rs_rm 7) s m args below meth c o S22 110 [(0, .ref (rs_ad G 91)), (1, .int a1), (2, .int a2), (3, .int a3), (4, .int x23), (5, .int x24)] []) h (fun S22 x23 x24 h => ?_) (fun K44 hK44 h => ?_)
        · refine rs_iload_n (i := 3) C dX5_drift_110 rfl rfl rfl ?_
          refine rs_if_ne (tgt := 121) C dX5_drift_111 (by decide) rfl (fun z25 => ?_) (fun z25 => ?_)
          · replace h := rs_if z25 h
            refine rs_aload_n (i := 0) C dX5_drift_121 rfl rfl rfl ?_
            refine rg_X5_17 C kk_91 wl_X5_156 dX5_drift_122 rfl ?_
            exact rs_iret C hr hlk h dX5_drift_125
          · replace h := rs_it z25 h
            refine rs_aload_n (i := 0) C dX5_drift_114 rfl rfl rfl ?_
            refine rg_X5_15 C kk_91 wl_X5_150 dX5_drift_115 rfl ?_
            refine rs_goto (tgt := 125) C dX5_drift_118 (by decide) ?_
            exact rs_iret C hr hlk h dX5_drift_125
        · have L44 : ∀ (n44 : Nat) (S10 : rs_St) (x11 : Int32) (x12 : Int32), xf_X5_drift_l44 a2 K44 n44 S10 x11 x12 = some o → rs_Xi G 7 p l e (rs_rm 7) s m args below meth c o S10 44 [(0, .ref (rs_ad G 91)), (1, .int a1), (2, .int a2), (3, .int a3), (4, .int x11), (5, .int x12)] [] := by
            intro n44
            induction n44 with
            | zero => intro S10 x11 x12 h; exact (rs_no h).elim
            | succ n44 ih44 =>
              intro S10 x11 x12 h
              rw [xf_X5_drift_l44] at h
              refine rs_iload C dX5_drift_44 rfl rfl ?_
              refine rs_iload_n (i := 2) C dX5_drift_46 rfl rfl rfl ?_
              refine rs_icmp_ge (tgt := 110) C dX5_drift_47 (by decide) rfl (fun z13 => ?_) (fun z13 => ?_)
              · replace h := rs_it z13 h
                exact rs_subk (hK44 _ _ _ h) (rs_ac rfl (rs_ac rfl (rs_ac rfl (rs_ac rfl (rs_ac rfl (rs_ac rfl rs_a0))))))
              · replace h := rs_if z13 h
                refine rs_iload C dX5_drift_50 rfl rfl ?_
                refine rs_ldcw C dX5_drift_52 wk_X5_282 rfl ?_
                refine rs_imul C dX5_drift_55 rfl ?_
                refine rs_sipush (v := 12345) C dX5_drift_56 (by decide) rfl ?_
                refine rs_iadd C dX5_drift_59 rfl ?_
                refine rs_nmi h (fun x14 h => ?_)
                refine rs_istore C dX5_drift_60 (by decide) rfl ?_
                refine rs_iload C dX5_drift_62 rfl rfl ?_
                refine rs_bipush (v := 16) C dX5_drift_64 (by decide) rfl ?_
                refine rs_ishr C dX5_drift_66 rfl ?_
                refine rs_sipush (v := 32767) C dX5_drift_67 (by decide) rfl ?_
                refine rs_iand C dX5_drift_70 rfl ?_
                refine rs_nmi h (fun x15 h => ?_)
                refine rs_istore C dX5_drift_71 (by decide) rfl ?_
                refine rs_aload_n (i := 0) C dX5_drift_73 rfl rfl rfl ?_
                refine rg_X5_1 C kk_91 wl_X5_13 dX5_drift_74 rfl ?_
                refine rs_iconst (v := 4) C dX5_drift_77 (by decide) rfl ?_
                refine rs_iload C dX5_drift_78 rfl rfl ?_
                refine rs_aload_n (i := 0) C dX5_drift_80 rfl rfl rfl ?_
                refine rg_X5_0 C kk_91 wl_X5_7 dX5_drift_81 rfl ?_
                refine rs_bipush (v := 16) C dX5_drift_84 (by decide) rfl ?_
                refine rs_ialdc C kk_92 ll_92 16 (by decide) (by decide) dX5_drift_86 rfl ?_
                obtain ⟨z16, h⟩ := rs_ck h
                refine rs_irem C dX5_drift_87 z16 rfl ?_
                refine rs_imul C dX5_drift_88 rfl ?_
                refine rs_iconst (v := 3) C dX5_drift_89 (by decide) rfl ?_
                refine rs_iadd C dX5_drift_90 rfl ?_
                refine rs_iload C dX5_drift_91 rfl rfl ?_
                refine rs_bipush (v := 8) C dX5_drift_93 (by decide) rfl ?_
                refine rs_idiv C dX5_drift_95 (by decide) rfl ?_
                refine rs_bipush (v := 12) C dX5_drift_96 (by decide) rfl ?_
                refine rs_irem C dX5_drift_98 (by decide) rfl ?_
                obtain ⟨z18, h⟩ := rs_ck h
                refine rs_iastn C kk_93 ll_93 z18 dX5_drift_99 rfl h (fun S17 h => ?_)
                refine rs_aload_n (i := 0) C dX5_drift_100 rfl rfl rfl ?_
                obtain ⟨S20, h19, h⟩ := rs_b1e h
                refine rs_callVv (S0 := S20) C (rs_kd_lt kk_91 (by decide)) (rs_e5 kk_91) rfl (c_X5_shotGoes l G hG S17 _ h19) ⟨wl_X5_181, wi_yX5_shotGoes, wx_yX5_shotGoes, wn_X5, wc_yX5_shotGoes⟩ wy_yX5_shotGoes (by decide) ⟨rfl, rfl⟩ rfl rfl (Nat.le_of_ble_eq_true rfl) dX5_drift_101 rfl ?_
                refine rs_iincn (v := 1) C dX5_drift_104 rfl (by decide) (by decide) rfl h (fun x21 h => ?_)
                refine rs_goto (tgt := 44) C dX5_drift_107 (by decide) ?_
                exact rs_subk (ih44 _ _ _ h) (rs_ac rfl (rs_ac rfl (rs_ac rfl (rs_ac rfl (rs_ac rfl (rs_ac rfl rs_a0))))))
          exact rs_subk (L44 rs_fu _ _ _ h) (rs_ac rfl (rs_ac rfl (rs_ac rfl (rs_ac rfl (rs_ac rfl (rs_ac rfl rs_a0))))))
      · replace h := rs_it z7 h
        refine rs_bipush (v := (-2)) C dX5_drift_31 (by decide) rfl ?_
        exact rs_iret C hr hlk h dX5_drift_33
    · replace h := rs_it z6 h
      refine rs_iconst (v := (-1)) C dX5_drift_19 (by decide) rfl ?_
      exact rs_iret C hr hlk h dX5_drift_20
def xf_X5_copies_l2 (a1 : Int32) (a2 : Int32) (K2 : rs_St → Int32 → Option rs_St) : Nat → rs_St → Int32 → Option rs_St
  | 0, _, _ => none
  | n2 + 1, S1, x2 => if 51 ≤ x2 then K2 S1 x2 else if (a2 + x2) < 0 ∨ 153 ≤ (a2 + x2).toNatClampNeg then none else if (a1 + x2) < 0 ∨ 153 ≤ (a1 + x2).toNatClampNeg then none else rs_lt (rs_si S1 92 (a1 + x2).toNatClampNeg (rs_gi S1 92 (a2 + x2).toNatClampNeg)) (fun S5 => rs_lt (x2 + 1) (fun x7 => xf_X5_copies_l2 a1 a2 K2 n2 S5 x7))
def xf_X5_copies (S : rs_St) (a1 : Int32) (a2 : Int32) : Option rs_St := xf_X5_copies_l2 a1 a2 (fun (S8 : rs_St) (x9 : Int32) => some S8) rs_fu S 0
set_option maxRecDepth 100000 in
theorem c_X5_copies (l : Launch) (G : rs_G) (hG : rs_ok G) (S : rs_St) (a1 : Int32) (a2 : Int32)  (o : rs_St) (h : xf_X5_copies S a1 a2 = some o) : Met l yX5_copies (rs_wz yX5_copies cX5_copies 4 none) (rs_rm 2) (va_Pc [.ref (rs_ad G 91), .int a1, .int a2] (rs_pre G S)) (va_Qv (fun S2 => S2 = o) (rs_post G) (rs_A G)) 0 0 (rs_A G) := by
  refine rs_met hG (by decide) (Nat.le_of_ble_eq_true rfl) ?_
  intro p e s m args below meth c C hr hlk
  rw [xf_X5_copies] at h
  refine rs_iconst (v := 0) C dX5_copies_0 (by decide) rfl ?_
  refine rs_istore_n (i := 3) C dX5_copies_1 rfl (by decide) rfl ?_
  refine rs_kw (F := fun K => xf_X5_copies_l2 a1 a2 K rs_fu S 0) (P := fun K => ∀ (S8 : rs_St) (x9 : Int32), K S8 x9 = some o → rs_Xv G 4 p l e (rs_rm 2) s m args below meth c o S8 30 [(0, .ref (rs_ad G 91)), (1, .int a1), (2, .int a2), (3, .int x9)] []) h (fun S8 x9 h => ?_) (fun K2 hK2 h => ?_)
  · exact rs_vret C hr hlk h dX5_copies_30
  · have L2 : ∀ (n2 : Nat) (S1 : rs_St) (x2 : Int32), xf_X5_copies_l2 a1 a2 K2 n2 S1 x2 = some o → rs_Xv G 4 p l e (rs_rm 2) s m args below meth c o S1 2 [(0, .ref (rs_ad G 91)), (1, .int a1), (2, .int a2), (3, .int x2)] [] := by
      intro n2
      induction n2 with
      | zero => intro S1 x2 h; exact (rs_no h).elim
      | succ n2 ih2 =>
        intro S1 x2 h
        rw [xf_X5_copies_l2] at h
        refine rs_iload_n (i := 3) C dX5_copies_2 rfl rfl rfl ?_
        refine rs_bipush (v := 51) C dX5_copies_3 (by decide) rfl ?_
        refine rs_icmp_ge (tgt := 30) C dX5_copies_5 (by decide) rfl (fun z3 => ?_) (fun z3 => ?_)
        · replace h := rs_it z3 h
          exact rs_subk (hK2 _ _ h) (rs_ac rfl (rs_ac rfl (rs_ac rfl (rs_ac rfl rs_a0))))
        · replace h := rs_if z3 h
          refine rs_aload_n (i := 0) C dX5_copies_8 rfl rfl rfl ?_
          refine rg_X5_0 C kk_91 wl_X5_7 dX5_copies_9 rfl ?_
          refine rs_iload_n (i := 1) C dX5_copies_12 rfl rfl rfl ?_
          refine rs_iload_n (i := 3) C dX5_copies_13 rfl rfl rfl ?_
          refine rs_iadd C dX5_copies_14 rfl ?_
          refine rs_aload_n (i := 0) C dX5_copies_15 rfl rfl rfl ?_
          refine rg_X5_0 C kk_91 wl_X5_7 dX5_copies_16 rfl ?_
          refine rs_iload_n (i := 2) C dX5_copies_19 rfl rfl rfl ?_
          refine rs_iload_n (i := 3) C dX5_copies_20 rfl rfl rfl ?_
          refine rs_iadd C dX5_copies_21 rfl ?_
          obtain ⟨z4, h⟩ := rs_ck h
          refine rs_ialdn C kk_92 ll_92 z4 dX5_copies_22 rfl ?_
          obtain ⟨z6, h⟩ := rs_ck h
          refine rs_iastn C kk_92 ll_92 z6 dX5_copies_23 rfl h (fun S5 h => ?_)
          refine rs_iincn (v := 1) C dX5_copies_24 rfl (by decide) (by decide) rfl h (fun x7 h => ?_)
          refine rs_goto (tgt := 2) C dX5_copies_27 (by decide) ?_
          exact rs_subk (ih2 _ _ h) (rs_ac rfl (rs_ac rfl (rs_ac rfl (rs_ac rfl rs_a0))))
    exact rs_subk (L2 rs_fu _ _ h) (rs_ac rfl (rs_ac rfl (rs_ac rfl (rs_ac rfl rs_a0))))
def xf_X5_keep (S : rs_St) (a1 : Int32) : Option (Int32 × rs_St) := rs_b1 (xf_X5_in S (a1.toInt64) 0 1) (fun r2 => if r2 = 0 then some ((-1), S) else if a1 < 0 ∨ 2 ≤ a1.toNatClampNeg then none else rs_b1 (xf_X5_flag S (rs_gi S 94 a1.toNatClampNeg)) (fun r6 => if a1 < 0 ∨ 2 ≤ a1.toNatClampNeg then none else rs_lt (rs_si S 94 a1.toNatClampNeg (vp_nar .boolean 1)) (fun S7 => rs_b1 (xf_X5_copies S7 (51 * (a1 + 1)) 0) (fun S10 => some (r6, S10)))))
set_option maxRecDepth 100000 in
theorem c_X5_keep (l : Launch) (G : rs_G) (hG : rs_ok G) (S : rs_St) (a1 : Int32)  (o : (Int32 × rs_St)) (h : xf_X5_keep S a1 = some o) : Met l yX5_keep (rs_wz yX5_keep cX5_keep 3 (some FieldType.int)) (rs_rm 3) (va_Pc [.ref (rs_ad G 91), .int a1] (rs_pre G S)) (va_Qi (fun r S2 => (r, S2) = o) (rs_post G) (rs_A G)) 0 0 (rs_A G) := by
  refine rs_met hG (by decide) (Nat.le_of_ble_eq_true rfl) ?_
  intro p e s m args below meth c C hr hlk
  rw [xf_X5_keep] at h
  refine rs_iload_n (i := 1) C dX5_keep_0 rfl rfl rfl ?_
  refine rs_i2l C dX5_keep_1 rfl ?_
  refine rs_lconst (v := 0) C dX5_keep_2 (by decide) rfl ?_
  refine rs_lconst (v := 1) C dX5_keep_3 (by decide) rfl ?_
  obtain ⟨r2, h1, h⟩ := rs_b1e h
  refine rs_callSi (r0 := r2) (S0 := S) C (c_X5_in l G hG S (a1.toInt64) 0 1 _ h1) ⟨wl_X5_61, ws_yX5_in, wn_X5, wc_yX5_in⟩ wy_yX5_in (by decide) ⟨rfl, rfl⟩ rfl rfl (Nat.le_of_ble_eq_true rfl) dX5_keep_4 rfl ?_
  refine rs_if_ne (tgt := 12) C dX5_keep_7 (by decide) rfl (fun z3 => ?_) (fun z3 => ?_)
  · replace h := rs_if z3 h
    refine rs_aload_n (i := 0) C dX5_keep_12 rfl rfl rfl ?_
    refine rg_X5_2 C kk_91 wl_X5_16 dX5_keep_13 rfl ?_
    refine rs_iload_n (i := 1) C dX5_keep_16 rfl rfl rfl ?_
    obtain ⟨z4, h⟩ := rs_ck h
    refine rs_zaldn C kk_94 ll_94 z4 dX5_keep_17 rfl ?_
    obtain ⟨r6, h5, h⟩ := rs_b1e h
    refine rs_callSi (r0 := r6) (S0 := S) C (c_X5_flag l G hG S (rs_gi S 94 a1.toNatClampNeg) _ h5) ⟨wl_X5_174, ws_yX5_flag, wn_X5, wc_yX5_flag⟩ wy_yX5_flag (by decide) ⟨rfl, rfl⟩ rfl rfl (Nat.le_of_ble_eq_true rfl) dX5_keep_18 rfl ?_
    refine rs_istore_n (i := 2) C dX5_keep_21 rfl (by decide) rfl ?_
    refine rs_aload_n (i := 0) C dX5_keep_22 rfl rfl rfl ?_
    refine rg_X5_2 C kk_91 wl_X5_16 dX5_keep_23 rfl ?_
    refine rs_iload_n (i := 1) C dX5_keep_26 rfl rfl rfl ?_
    refine rs_iconst (v := 1) C dX5_keep_27 (by decide) rfl ?_
    obtain ⟨z8, h⟩ := rs_ck h
    refine rs_zastn C kk_94 ll_94 z8 dX5_keep_28 rfl h (fun S7 h => ?_)
    refine rs_aload_n (i := 0) C dX5_keep_29 rfl rfl rfl ?_
    refine rs_bipush (v := 51) C dX5_keep_30 (by decide) rfl ?_
    refine rs_iload_n (i := 1) C dX5_keep_32 rfl rfl rfl ?_
    refine rs_iconst (v := 1) C dX5_keep_33 (by decide) rfl ?_
    refine rs_iadd C dX5_keep_34 rfl ?_
    refine rs_imul C dX5_keep_35 rfl ?_
    refine rs_iconst (v := 0) C dX5_keep_36 (by decide) rfl ?_
    obtain ⟨S10, h9, h⟩ := rs_b1e h
    refine rs_callVv (S0 := S10) C (rs_kd_lt kk_91 (by decide)) (rs_e5 kk_91) rfl (c_X5_copies l G hG S7 (51 * (a1 + 1)) 0 _ h9) ⟨wl_X5_283, wi_yX5_copies, wx_yX5_copies, wn_X5, wc_yX5_copies⟩ wy_yX5_copies (by decide) ⟨rfl, rfl⟩ rfl rfl (Nat.le_of_ble_eq_true rfl) dX5_keep_37 rfl ?_
    refine rs_iload_n (i := 2) C dX5_keep_40 rfl rfl rfl ?_
    exact rs_iret C hr hlk h dX5_keep_41
  · replace h := rs_it z3 h
    refine rs_iconst (v := (-1)) C dX5_keep_10 (by decide) rfl ?_
    exact rs_iret C hr hlk h dX5_keep_11
def xf_X5_back (S : rs_St) (a1 : Int32) : Option (Int32 × rs_St) := rs_b1 (xf_X5_in S (a1.toInt64) 0 1) (fun r2 => if r2 = 0 then some ((-1), S) else if a1 < 0 ∨ 2 ≤ a1.toNatClampNeg then none else if (rs_gi S 94 a1.toNatClampNeg) = 0 then some ((-2), S) else rs_b1 (xf_X5_copies S 0 (51 * (a1 + 1))) (fun S7 => some ((rs_gi S7 92 21), S7)))
set_option maxRecDepth 100000 in
theorem c_X5_back (l : Launch) (G : rs_G) (hG : rs_ok G) (S : rs_St) (a1 : Int32)  (o : (Int32 × rs_St)) (h : xf_X5_back S a1 = some o) : Met l yX5_back (rs_wz yX5_back cX5_back 2 (some FieldType.int)) (rs_rm 3) (va_Pc [.ref (rs_ad G 91), .int a1] (rs_pre G S)) (va_Qi (fun r S2 => (r, S2) = o) (rs_post G) (rs_A G)) 0 0 (rs_A G) := by
  refine rs_met hG (by decide) (Nat.le_of_ble_eq_true rfl) ?_
  intro p e s m args below meth c C hr hlk
  rw [xf_X5_back] at h
  refine rs_iload_n (i := 1) C dX5_back_0 rfl rfl rfl ?_
  refine rs_i2l C dX5_back_1 rfl ?_
  refine rs_lconst (v := 0) C dX5_back_2 (by decide) rfl ?_
  refine rs_lconst (v := 1) C dX5_back_3 (by decide) rfl ?_
  obtain ⟨r2, h1, h⟩ := rs_b1e h
  refine rs_callSi (r0 := r2) (S0 := S) C (c_X5_in l G hG S (a1.toInt64) 0 1 _ h1) ⟨wl_X5_61, ws_yX5_in, wn_X5, wc_yX5_in⟩ wy_yX5_in (by decide) ⟨rfl, rfl⟩ rfl rfl (Nat.le_of_ble_eq_true rfl) dX5_back_4 rfl ?_
  refine rs_if_ne (tgt := 12) C dX5_back_7 (by decide) rfl (fun z3 => ?_) (fun z3 => ?_)
  · replace h := rs_if z3 h
    refine rs_aload_n (i := 0) C dX5_back_12 rfl rfl rfl ?_
    refine rg_X5_2 C kk_91 wl_X5_16 dX5_back_13 rfl ?_
    refine rs_iload_n (i := 1) C dX5_back_16 rfl rfl rfl ?_
    obtain ⟨z4, h⟩ := rs_ck h
    refine rs_zaldn C kk_94 ll_94 z4 dX5_back_17 rfl ?_
    refine rs_if_ne (tgt := 24) C dX5_back_18 (by decide) rfl (fun z5 => ?_) (fun z5 => ?_)
    · replace h := rs_if z5 h
      refine rs_aload_n (i := 0) C dX5_back_24 rfl rfl rfl ?_
      refine rs_iconst (v := 0) C dX5_back_25 (by decide) rfl ?_
      refine rs_bipush (v := 51) C dX5_back_26 (by decide) rfl ?_
      refine rs_iload_n (i := 1) C dX5_back_28 rfl rfl rfl ?_
      refine rs_iconst (v := 1) C dX5_back_29 (by decide) rfl ?_
      refine rs_iadd C dX5_back_30 rfl ?_
      refine rs_imul C dX5_back_31 rfl ?_
      obtain ⟨S7, h6, h⟩ := rs_b1e h
      refine rs_callVv (S0 := S7) C (rs_kd_lt kk_91 (by decide)) (rs_e5 kk_91) rfl (c_X5_copies l G hG S 0 (51 * (a1 + 1)) _ h6) ⟨wl_X5_283, wi_yX5_copies, wx_yX5_copies, wn_X5, wc_yX5_copies⟩ wy_yX5_copies (by decide) ⟨rfl, rfl⟩ rfl rfl (Nat.le_of_ble_eq_true rfl) dX5_back_32 rfl ?_
      refine rs_aload_n (i := 0) C dX5_back_35 rfl rfl rfl ?_
      refine rg_X5_0 C kk_91 wl_X5_7 dX5_back_36 rfl ?_
      refine rs_bipush (v := 21) C dX5_back_39 (by decide) rfl ?_
      refine rs_ialdc C kk_92 ll_92 21 (by decide) (by decide) dX5_back_41 rfl ?_
      exact rs_iret C hr hlk h dX5_back_42
    · replace h := rs_it z5 h
      refine rs_bipush (v := (-2)) C dX5_back_21 (by decide) rfl ?_
      exact rs_iret C hr hlk h dX5_back_23
  · replace h := rs_it z3 h
    refine rs_iconst (v := (-1)) C dX5_back_10 (by decide) rfl ?_
    exact rs_iret C hr hlk h dX5_back_11
def xf_X5_isSheet (S : rs_St) (a1 : Int32) (a2 : Int32) : Option Int32 := rs_b1 (xf_X5_in S (a1.toInt64) 0 3) (fun r2 => if r2 = 0 then some 0 else rs_b1 (xf_X5_in S (a2.toInt64) 0 2) (fun r5 => if r5 = 0 then some 0 else some 1))
set_option maxRecDepth 100000 in
theorem c_X5_isSheet (l : Launch) (G : rs_G) (hG : rs_ok G) (S : rs_St) (a1 : Int32) (a2 : Int32)  (o : Int32) (h : xf_X5_isSheet S a1 a2 = some o) : Met l yX5_isSheet (rs_wz yX5_isSheet cX5_isSheet 2 (some FieldType.boolean)) (rs_rm 3) (va_Pc [.int a1, .int a2] (rs_pre G S)) (va_Qi (fun r S2 => (r, S2) = (o, S)) (rs_post G) (rs_A G)) 0 0 (rs_A G) := by
  refine rs_met hG (by decide) (Nat.le_of_ble_eq_true rfl) ?_
  intro p e s m args below meth c C hr hlk
  rw [xf_X5_isSheet] at h
  refine rs_iload_n (i := 0) C dX5_isSheet_0 rfl rfl rfl ?_
  refine rs_i2l C dX5_isSheet_1 rfl ?_
  refine rs_lconst (v := 0) C dX5_isSheet_2 (by decide) rfl ?_
  refine rs_ldc2 C dX5_isSheet_3 wk_X5_196 rfl ?_
  obtain ⟨r2, h1, h⟩ := rs_b1e h
  refine rs_callSi (r0 := r2) (S0 := S) C (c_X5_in l G hG S (a1.toInt64) 0 3 _ h1) ⟨wl_X5_61, ws_yX5_in, wn_X5, wc_yX5_in⟩ wy_yX5_in (by decide) ⟨rfl, rfl⟩ rfl rfl (Nat.le_of_ble_eq_true rfl) dX5_isSheet_6 rfl ?_
  refine rs_if_eq (tgt := 28) C dX5_isSheet_9 (by decide) rfl (fun z3 => ?_) (fun z3 => ?_)
  · replace h := rs_it z3 h
    refine rs_iconst (v := 0) C dX5_isSheet_28 (by decide) rfl ?_
    exact rs_zret C hr hlk (Or.inl rfl) (rs_pr h) dX5_isSheet_29
  · replace h := rs_if z3 h
    refine rs_iload_n (i := 1) C dX5_isSheet_12 rfl rfl rfl ?_
    refine rs_i2l C dX5_isSheet_13 rfl ?_
    refine rs_lconst (v := 0) C dX5_isSheet_14 (by decide) rfl ?_
    refine rs_ldc2 C dX5_isSheet_15 wk_X5_286 rfl ?_
    obtain ⟨r5, h4, h⟩ := rs_b1e h
    refine rs_callSi (r0 := r5) (S0 := S) C (c_X5_in l G hG S (a2.toInt64) 0 2 _ h4) ⟨wl_X5_61, ws_yX5_in, wn_X5, wc_yX5_in⟩ wy_yX5_in (by decide) ⟨rfl, rfl⟩ rfl rfl (Nat.le_of_ble_eq_true rfl) dX5_isSheet_18 rfl ?_
    refine rs_if_eq (tgt := 28) C dX5_isSheet_21 (by decide) rfl (fun z6 => ?_) (fun z6 => ?_)
    · replace h := rs_it z6 h
      refine rs_iconst (v := 0) C dX5_isSheet_28 (by decide) rfl ?_
      exact rs_zret C hr hlk (Or.inl rfl) (rs_pr h) dX5_isSheet_29
    · replace h := rs_if z6 h
      refine rs_iconst (v := 1) C dX5_isSheet_24 (by decide) rfl ?_
      refine rs_goto (tgt := 29) C dX5_isSheet_25 (by decide) ?_
      exact rs_zret C hr hlk (Or.inr rfl) (rs_pr h) dX5_isSheet_29
def xf_X5_sheet_l40 (a1 : Int32) (K40 : rs_St → Int32 → Option (Int32 × rs_St)) : Nat → rs_St → Int32 → Option (Int32 × rs_St)
  | 0, _, _ => none
  | n40 + 1, S10, x11 => if 40 ≤ x11 then K40 S10 x11 else if ((40 * a1) + x11) < 0 ∨ 160 ≤ ((40 * a1) + x11).toNatClampNeg then none else rs_lt (rs_si S10 104 ((40 * a1) + x11).toNatClampNeg 0) (fun S13 => rs_lt (x11 + 1) (fun x15 => xf_X5_sheet_l40 a1 K40 n40 S13 x15))
def xf_X5_sheet (S : rs_St) (a1 : Int32) (a2 : Int32) (a3 : Int32) : Option (Int32 × rs_St) := rs_b1 (xf_X5_isSheet S a1 a2) (fun r2 => if r2 = 0 then some ((-1), S) else if a3 ≤ 40 then if 0 ≤ a3 then if a1 < 0 ∨ 4 ≤ a1.toNatClampNeg then none else rs_lt (rs_si S 102 a1.toNatClampNeg a2) (fun S6 => if a1 < 0 ∨ 4 ≤ a1.toNatClampNeg then none else rs_lt (rs_si S6 103 a1.toNatClampNeg a3) (fun S8 => xf_X5_sheet_l40 a1 (fun (S16 : rs_St) (x17 : Int32) => some (1, S16)) rs_fu S8 0)) else some ((-14), S) else some ((-1), S))
set_option maxRecDepth 100000 in
theorem c_X5_sheet (l : Launch) (G : rs_G) (hG : rs_ok G) (S : rs_St) (a1 : Int32) (a2 : Int32) (a3 : Int32)  (o : (Int32 × rs_St)) (h : xf_X5_sheet S a1 a2 a3 = some o) : Met l yX5_sheet (rs_wz yX5_sheet cX5_sheet 5 (some FieldType.int)) (rs_rm 4) (va_Pc [.ref (rs_ad G 91), .int a1, .int a2, .int a3] (rs_pre G S)) (va_Qi (fun r S2 => (r, S2) = o) (rs_post G) (rs_A G)) 0 0 (rs_A G) := by
  refine rs_met hG (by decide) (Nat.le_of_ble_eq_true rfl) ?_
  intro p e s m args below meth c C hr hlk
  rw [xf_X5_sheet] at h
  refine rs_iload_n (i := 1) C dX5_sheet_0 rfl rfl rfl ?_
  refine rs_iload_n (i := 2) C dX5_sheet_1 rfl rfl rfl ?_
  obtain ⟨r2, h1, h⟩ := rs_b1e h
  refine rs_callSi (r0 := r2) (S0 := S) C (c_X5_isSheet l G hG S a1 a2 _ h1) ⟨wl_X5_288, ws_yX5_isSheet, wn_X5, wc_yX5_isSheet⟩ wy_yX5_isSheet (by decide) ⟨rfl, rfl⟩ rfl rfl (Nat.le_of_ble_eq_true rfl) dX5_sheet_2 rfl ?_
  refine rs_if_eq (tgt := 14) C dX5_sheet_5 (by decide) rfl (fun z3 => ?_) (fun z3 => ?_)
  · replace h := rs_it z3 h
    refine rs_iconst (v := (-1)) C dX5_sheet_14 (by decide) rfl ?_
    exact rs_iret C hr hlk h dX5_sheet_15
  · replace h := rs_if z3 h
    refine rs_iload_n (i := 3) C dX5_sheet_8 rfl rfl rfl ?_
    refine rs_bipush (v := 40) C dX5_sheet_9 (by decide) rfl ?_
    refine rs_icmp_le (tgt := 16) C dX5_sheet_11 (by decide) rfl (fun z4 => ?_) (fun z4 => ?_)
    · replace h := rs_it z4 h
      refine rs_iload_n (i := 3) C dX5_sheet_16 rfl rfl rfl ?_
      refine rs_if_ge (tgt := 23) C dX5_sheet_17 (by decide) rfl (fun z5 => ?_) (fun z5 => ?_)
      · replace h := rs_it z5 h
        refine rs_aload_n (i := 0) C dX5_sheet_23 rfl rfl rfl ?_
        refine rg_X5_29 C kk_91 wl_X5_41 dX5_sheet_24 rfl ?_
        refine rs_iload_n (i := 1) C dX5_sheet_27 rfl rfl rfl ?_
        refine rs_iload_n (i := 2) C dX5_sheet_28 rfl rfl rfl ?_
        obtain ⟨z7, h⟩ := rs_ck h
        refine rs_iastn C kk_102 ll_102 z7 dX5_sheet_29 rfl h (fun S6 h => ?_)
        refine rs_aload_n (i := 0) C dX5_sheet_30 rfl rfl rfl ?_
        refine rg_X5_30 C kk_91 wl_X5_44 dX5_sheet_31 rfl ?_
        refine rs_iload_n (i := 1) C dX5_sheet_34 rfl rfl rfl ?_
        refine rs_iload_n (i := 3) C dX5_sheet_35 rfl rfl rfl ?_
        obtain ⟨z9, h⟩ := rs_ck h
        refine rs_iastn C kk_103 ll_103 z9 dX5_sheet_36 rfl h (fun S8 h => ?_)
        refine rs_iconst (v := 0) C dX5_sheet_37 (by decide) rfl ?_
        refine rs_istore C dX5_sheet_38 (by decide) rfl ?_
        refine rs_kw (F := fun K => xf_X5_sheet_l40 a1 K rs_fu S8 0) (P := fun K => ∀ (S16 : rs_St) (x17 : Int32), K S16 x17 = some o → rs_Xi G 5 p l e (rs_rm 4) s m args below meth c o S16 66 [(0, .ref (rs_ad G 91)), (1, .int a1), (2, .int a2), (3, .int a3), (4, .int x17)] []) h (fun S16 x17 h => ?_) (fun K40 hK40 h => ?_)
        · refine rs_iconst (v := 1) C dX5_sheet_66 (by decide) rfl ?_
          exact rs_iret C hr hlk h dX5_sheet_67
        · have L40 : ∀ (n40 : Nat) (S10 : rs_St) (x11 : Int32), xf_X5_sheet_l40 a1 K40 n40 S10 x11 = some o → rs_Xi G 5 p l e (rs_rm 4) s m args below meth c o S10 40 [(0, .ref (rs_ad G 91)), (1, .int a1), (2, .int a2), (3, .int a3), (4, .int x11)] [] := by
            intro n40
            induction n40 with
            | zero => intro S10 x11 h; exact (rs_no h).elim
            | succ n40 ih40 =>
              intro S10 x11 h
              rw [xf_X5_sheet_l40] at h
              refine rs_iload C dX5_sheet_40 rfl rfl ?_
              refine rs_bipush (v := 40) C dX5_sheet_42 (by decide) rfl ?_
              refine rs_icmp_ge (tgt := 66) C dX5_sheet_44 (by decide) rfl (fun z12 => ?_) (fun z12 => ?_)
              · replace h := rs_it z12 h
                exact rs_subk (hK40 _ _ h) (rs_ac rfl (rs_ac rfl (rs_ac rfl (rs_ac rfl (rs_ac rfl rs_a0)))))
              · replace h := rs_if z12 h
                refine rs_aload_n (i := 0) C dX5_sheet_47 rfl rfl rfl ?_
                refine rg_X5_31 C kk_91 wl_X5_47 dX5_sheet_48 rfl ?_
                refine rs_bipush (v := 40) C dX5_sheet_51 (by decide) rfl ?_
                refine rs_iload_n (i := 1) C dX5_sheet_53 rfl rfl rfl ?_
                refine rs_imul C dX5_sheet_54 rfl ?_
                refine rs_iload C dX5_sheet_55 rfl rfl ?_
                refine rs_iadd C dX5_sheet_57 rfl ?_
                refine rs_iconst (v := 0) C dX5_sheet_58 (by decide) rfl ?_
                obtain ⟨z14, h⟩ := rs_ck h
                refine rs_iastn C kk_104 ll_104 z14 dX5_sheet_59 rfl h (fun S13 h => ?_)
                refine rs_iincn (v := 1) C dX5_sheet_60 rfl (by decide) (by decide) rfl h (fun x15 h => ?_)
                refine rs_goto (tgt := 40) C dX5_sheet_63 (by decide) ?_
                exact rs_subk (ih40 _ _ h) (rs_ac rfl (rs_ac rfl (rs_ac rfl (rs_ac rfl (rs_ac rfl rs_a0)))))
          exact rs_subk (L40 rs_fu _ _ h) (rs_ac rfl (rs_ac rfl (rs_ac rfl (rs_ac rfl (rs_ac rfl rs_a0)))))
      · replace h := rs_if z5 h
        refine rs_bipush (v := (-14)) C dX5_sheet_20 (by decide) rfl ?_
        exact rs_iret C hr hlk h dX5_sheet_22
    · replace h := rs_if z4 h
      refine rs_iconst (v := (-1)) C dX5_sheet_14 (by decide) rfl ?_
      exact rs_iret C hr hlk h dX5_sheet_15
def xf_X5_lay (S : rs_St) (a1 : Int32) (a2 : Int32) (a3 : Int32) : Option (Int32 × rs_St) := rs_b1 (xf_X5_isSheet S a1 0) (fun r2 => if r2 = 0 then some ((-1), S) else if a1 < 0 ∨ 4 ≤ a1.toNatClampNeg then none else if (rs_gi S 102 a1.toNatClampNeg) = (-4) then some ((-11), S) else if a1 < 0 ∨ 4 ≤ a1.toNatClampNeg then none else rs_b1 (xf_X5_in S (a2.toInt64) 0 (((rs_gi S 103 a1.toNatClampNeg) - 1).toInt64)) (fun r8 => if r8 = 0 then some ((-12), S) else if a1 < 0 ∨ 4 ≤ a1.toNatClampNeg then none else rs_jn (fun (x11 : Int32) => if ((40 * a1) + a2) < 0 ∨ 160 ≤ ((40 * a1) + a2).toNatClampNeg then none else rs_lt (rs_si S 104 ((40 * a1) + a2).toNatClampNeg x11) (fun S13 => some (1, S13))) (fun J12 => if (rs_gi S 102 a1.toNatClampNeg) = 0 then J12 (a3.toInt8.toInt32) else if a1 < 0 ∨ 4 ≤ a1.toNatClampNeg then none else if (rs_gi S 102 a1.toNatClampNeg) = 1 then J12 (a3.toInt16.toInt32) else J12 a3)))
set_option maxRecDepth 100000 in
theorem c_X5_lay (l : Launch) (G : rs_G) (hG : rs_ok G) (S : rs_St) (a1 : Int32) (a2 : Int32) (a3 : Int32)  (o : (Int32 × rs_St)) (h : xf_X5_lay S a1 a2 a3 = some o) : Met l yX5_lay (rs_wz yX5_lay cX5_lay 4 (some FieldType.int)) (rs_rm 4) (va_Pc [.ref (rs_ad G 91), .int a1, .int a2, .int a3] (rs_pre G S)) (va_Qi (fun r S2 => (r, S2) = o) (rs_post G) (rs_A G)) 0 0 (rs_A G) := by
  refine rs_met hG (by decide) (Nat.le_of_ble_eq_true rfl) ?_
  intro p e s m args below meth c C hr hlk
  rw [xf_X5_lay] at h
  refine rs_iload_n (i := 1) C dX5_lay_0 rfl rfl rfl ?_
  refine rs_iconst (v := 0) C dX5_lay_1 (by decide) rfl ?_
  obtain ⟨r2, h1, h⟩ := rs_b1e h
  refine rs_callSi (r0 := r2) (S0 := S) C (c_X5_isSheet l G hG S a1 0 _ h1) ⟨wl_X5_288, ws_yX5_isSheet, wn_X5, wc_yX5_isSheet⟩ wy_yX5_isSheet (by decide) ⟨rfl, rfl⟩ rfl rfl (Nat.le_of_ble_eq_true rfl) dX5_lay_2 rfl ?_
  refine rs_if_ne (tgt := 10) C dX5_lay_5 (by decide) rfl (fun z3 => ?_) (fun z3 => ?_)
  · replace h := rs_if z3 h
    refine rs_aload_n (i := 0) C dX5_lay_10 rfl rfl rfl ?_
    refine rg_X5_29 C kk_91 wl_X5_41 dX5_lay_11 rfl ?_
    refine rs_iload_n (i := 1) C dX5_lay_14 rfl rfl rfl ?_
    obtain ⟨z4, h⟩ := rs_ck h
    refine rs_ialdn C kk_102 ll_102 z4 dX5_lay_15 rfl ?_
    refine rs_bipush (v := (-4)) C dX5_lay_16 (by decide) rfl ?_
    refine rs_icmp_ne (tgt := 24) C dX5_lay_18 (by decide) rfl (fun z5 => ?_) (fun z5 => ?_)
    · replace h := rs_if z5 h
      refine rs_iload_n (i := 2) C dX5_lay_24 rfl rfl rfl ?_
      refine rs_i2l C dX5_lay_25 rfl ?_
      refine rs_lconst (v := 0) C dX5_lay_26 (by decide) rfl ?_
      refine rs_aload_n (i := 0) C dX5_lay_27 rfl rfl rfl ?_
      refine rg_X5_30 C kk_91 wl_X5_44 dX5_lay_28 rfl ?_
      refine rs_iload_n (i := 1) C dX5_lay_31 rfl rfl rfl ?_
      obtain ⟨z6, h⟩ := rs_ck h
      refine rs_ialdn C kk_103 ll_103 z6 dX5_lay_32 rfl ?_
      refine rs_iconst (v := 1) C dX5_lay_33 (by decide) rfl ?_
      refine rs_isub C dX5_lay_34 rfl ?_
      refine rs_i2l C dX5_lay_35 rfl ?_
      obtain ⟨r8, h7, h⟩ := rs_b1e h
      refine rs_callSi (r0 := r8) (S0 := S) C (c_X5_in l G hG S (a2.toInt64) 0 (((rs_gi S 103 a1.toNatClampNeg) - 1).toInt64) _ h7) ⟨wl_X5_61, ws_yX5_in, wn_X5, wc_yX5_in⟩ wy_yX5_in (by decide) ⟨rfl, rfl⟩ rfl rfl (Nat.le_of_ble_eq_true rfl) dX5_lay_36 rfl ?_
      refine rs_if_ne (tgt := 45) C dX5_lay_39 (by decide) rfl (fun z9 => ?_) (fun z9 => ?_)
      · replace h := rs_if z9 h
        refine rs_aload_n (i := 0) C dX5_lay_45 rfl rfl rfl ?_
        refine rg_X5_31 C kk_91 wl_X5_47 dX5_lay_46 rfl ?_
        refine rs_bipush (v := 40) C dX5_lay_49 (by decide) rfl ?_
        refine rs_iload_n (i := 1) C dX5_lay_51 rfl rfl rfl ?_
        refine rs_imul C dX5_lay_52 rfl ?_
        refine rs_iload_n (i := 2) C dX5_lay_53 rfl rfl rfl ?_
        refine rs_iadd C dX5_lay_54 rfl ?_
        refine rs_aload_n (i := 0) C dX5_lay_55 rfl rfl rfl ?_
        refine rg_X5_29 C kk_91 wl_X5_41 dX5_lay_56 rfl ?_
        refine rs_iload_n (i := 1) C dX5_lay_59 rfl rfl rfl ?_
        obtain ⟨z10, h⟩ := rs_ck h
        refine rs_ialdn C kk_102 ll_102 z10 dX5_lay_60 rfl ?_
        refine rs_jw (P := fun J => ∀ (x11 : Int32), J x11 = some o → rs_Xi G 4 p l e (rs_rm 4) s m args below meth c o S 85 [(0, .ref (rs_ad G 91)), (1, .int a1), (2, .int a2), (3, .int a3)] [.int x11, .int ((40 * a1) + a2), .ref (rs_ad G 104)]) h (fun x11 h => ?_) (fun J12 KJ12 h => ?_)
        · obtain ⟨z14, h⟩ := rs_ck h
          refine rs_iastn C kk_104 ll_104 z14 dX5_lay_85 rfl h (fun S13 h => ?_)
          refine rs_iconst (v := 1) C dX5_lay_86 (by decide) rfl ?_
          exact rs_iret C hr hlk h dX5_lay_87
        · refine rs_if_ne (tgt := 69) C dX5_lay_61 (by decide) rfl (fun z15 => ?_) (fun z15 => ?_)
          · replace h := rs_if z15 h
            refine rs_aload_n (i := 0) C dX5_lay_69 rfl rfl rfl ?_
            refine rg_X5_29 C kk_91 wl_X5_41 dX5_lay_70 rfl ?_
            refine rs_iload_n (i := 1) C dX5_lay_73 rfl rfl rfl ?_
            obtain ⟨z16, h⟩ := rs_ck h
            refine rs_ialdn C kk_102 ll_102 z16 dX5_lay_74 rfl ?_
            refine rs_iconst (v := 1) C dX5_lay_75 (by decide) rfl ?_
            refine rs_icmp_ne (tgt := 84) C dX5_lay_76 (by decide) rfl (fun z17 => ?_) (fun z17 => ?_)
            · replace h := rs_if z17 h
              refine rs_iload_n (i := 3) C dX5_lay_84 rfl rfl rfl ?_
              exact rs_subk (KJ12 _ h) (rs_ac rfl (rs_ac rfl (rs_ac rfl (rs_ac rfl rs_a0))))
            · replace h := rs_it z17 h
              refine rs_iload_n (i := 3) C dX5_lay_79 rfl rfl rfl ?_
              refine rs_i2s C dX5_lay_80 rfl ?_
              refine rs_goto (tgt := 85) C dX5_lay_81 (by decide) ?_
              exact rs_subk (KJ12 _ h) (rs_ac rfl (rs_ac rfl (rs_ac rfl (rs_ac rfl rs_a0))))
          · replace h := rs_it z15 h
            refine rs_iload_n (i := 3) C dX5_lay_64 rfl rfl rfl ?_
            refine rs_i2b C dX5_lay_65 rfl ?_
            refine rs_goto (tgt := 85) C dX5_lay_66 (by decide) ?_
            exact rs_subk (KJ12 _ h) (rs_ac rfl (rs_ac rfl (rs_ac rfl (rs_ac rfl rs_a0))))
      · replace h := rs_it z9 h
        refine rs_bipush (v := (-12)) C dX5_lay_42 (by decide) rfl ?_
        exact rs_iret C hr hlk h dX5_lay_44
    · replace h := rs_it z5 h
      refine rs_bipush (v := (-11)) C dX5_lay_21 (by decide) rfl ?_
      exact rs_iret C hr hlk h dX5_lay_23
  · replace h := rs_it z3 h
    refine rs_iconst (v := (-1)) C dX5_lay_8 (by decide) rfl ?_
    exact rs_iret C hr hlk h dX5_lay_9
def xf_X5_read_l209 (K209 : rs_St → Int32 → Option (Int32 × rs_St)) : Nat → rs_St → Int32 → Option (Int32 × rs_St)
  | 0, _, _ => none
  | n209 + 1, S54, x55 => if 51 ≤ x55 then K209 S54 x55 else if x55 < 0 ∨ 51 ≤ x55.toNatClampNeg then none else if x55 < 0 ∨ 153 ≤ x55.toNatClampNeg then none else rs_lt (rs_si S54 92 x55.toNatClampNeg (rs_gi S54 105 x55.toNatClampNeg)) (fun S58 => rs_lt (x55 + 1) (fun x60 => xf_X5_read_l209 K209 n209 S58 x60))
def xf_X5_read_l77 (a1 : Int32) (a2 : Int32) (a3 : Int32) (S16 : rs_St) (x19 : Int32) (K77 : Int32 → Int32 → Option (Int32 × rs_St)) : Nat → Int32 → Int32 → Option (Int32 × rs_St)
  | 0, _, _ => none
  | n77 + 1, x22, x23 => if 2 ≤ x23 then K77 x22 x23 else if x22 = 0 then rs_lt ((a3.toInt64 + (2 * x19).toInt64) + x23.toInt64) (fun x26 => if a1 < 0 ∨ 4 ≤ a1.toNatClampNeg then none else rs_jn (fun (x28 : Int32) => rs_lt (x23 + 1) (fun x30 => xf_X5_read_l77 a1 a2 a3 S16 x19 K77 n77 x28 x30)) (fun J29 => if (rs_gi S16 102 a1.toNatClampNeg) = (-4) then J29 1 else if a1 < 0 ∨ 4 ≤ a1.toNatClampNeg then none else if (rs_gi S16 102 a1.toNatClampNeg) = a2 then rs_jn (J29 2) (fun J34 => if (lg_cmp x26 0) < 0 then J34 else if a1 < 0 ∨ 4 ≤ a1.toNatClampNeg then none else if (lg_cmp x26 ((rs_gi S16 103 a1.toNatClampNeg).toInt64)) < 0 then J29 0 else J34) else J29 3)) else K77 x22 x23
def xf_X5_read_l62 (a1 : Int32) (a2 : Int32) (a3 : Int32) (a4 : Int32) (K62 : rs_St → Int32 → Int32 → Int32 → Option (Int32 × rs_St)) : Nat → rs_St → Int32 → Int32 → Int32 → Option (Int32 × rs_St)
  | 0, _, _, _, _ => none
  | n62 + 1, S16, x17, x18, x19 => if a4 ≤ x19 then K62 S16 x17 x18 x19 else if x17 = 0 then xf_X5_read_l77 a1 a2 a3 S16 x19 (fun (x38 : Int32) (x39 : Int32) => rs_jn (fun (S40 : rs_St) (x41 : Int32) (x42 : Int32) => rs_lt (x19 + 1) (fun x44 => xf_X5_read_l62 a1 a2 a3 a4 K62 n62 S40 x38 x41 x44)) (fun J43 => if x38 = 0 then rs_lt (((40 * a1) + a3) + (2 * x19)) (fun x46 => if x46 < 0 ∨ 160 ≤ x46.toNatClampNeg then none else if (x46 + 1) < 0 ∨ 160 ≤ (x46 + 1).toNatClampNeg then none else rs_b2 (xf_X5_alter S16 (rs_gi S16 104 x46.toNatClampNeg) 3 (rs_gi S16 104 (x46 + 1).toNatClampNeg)) (fun r51 S50 => if 0 ≤ r51 then rs_lt (x18 + 1) (fun x53 => J43 S50 x53 x46) else xf_X5_read_l209 (fun (S61 : rs_St) (x62 : Int32) => some (((-20) - x19), S61)) rs_fu S50 0)) else J43 S16 x18 x39)) rs_fu x17 0 else K62 S16 x17 x18 x19
def xf_X5_read_l26 (K26 : rs_St → Int32 → Option (Int32 × rs_St)) : Nat → rs_St → Int32 → Option (Int32 × rs_St)
  | 0, _, _ => none
  | n26 + 1, S7, x8 => if 51 ≤ x8 then K26 S7 x8 else if x8 < 0 ∨ 153 ≤ x8.toNatClampNeg then none else if x8 < 0 ∨ 51 ≤ x8.toNatClampNeg then none else rs_lt (rs_si S7 105 x8.toNatClampNeg (rs_gi S7 92 x8.toNatClampNeg)) (fun S11 => rs_lt (x8 + 1) (fun x13 => xf_X5_read_l26 K26 n26 S11 x13))
def xf_X5_read (S : rs_St) (a1 : Int32) (a2 : Int32) (a3 : Int32) (a4 : Int32) : Option (Int32 × rs_St) := rs_b1 (xf_X5_isSheet S a1 a2) (fun r2 => if r2 = 0 then some ((-1), S) else rs_b1 (xf_X5_in S (a4.toInt64) 0 20) (fun r5 => if r5 = 0 then some ((-1), S) else xf_X5_read_l26 (fun (S14 : rs_St) (x15 : Int32) => xf_X5_read_l62 a1 a2 a3 a4 (fun (S63 : rs_St) (x64 : Int32) (x65 : Int32) (x66 : Int32) => rs_lt (rs_si S63 91 32 x64) (fun S67 => some (x65, S67))) rs_fu S14 0 0 0) rs_fu S 0))
set_option maxRecDepth 100000 in
theorem c_X5_read (l : Launch) (G : rs_G) (hG : rs_ok G) (S : rs_St) (a1 : Int32) (a2 : Int32) (a3 : Int32) (a4 : Int32)  (o : (Int32 × rs_St)) (h : xf_X5_read S a1 a2 a3 a4 = some o) : Met l yX5_read (rs_wz yX5_read cX5_read 11 (some FieldType.int)) (rs_rm 5) (va_Pc [.ref (rs_ad G 91), .int a1, .int a2, .int a3, .int a4] (rs_pre G S)) (va_Qi (fun r S2 => (r, S2) = o) (rs_post G) (rs_A G)) 0 0 (rs_A G) := by
  refine rs_met hG (by decide) (Nat.le_of_ble_eq_true rfl) ?_
  intro p e s m args below meth c C hr hlk
  rw [xf_X5_read] at h
  refine rs_iload_n (i := 1) C dX5_read_0 rfl rfl rfl ?_
  refine rs_iload_n (i := 2) C dX5_read_1 rfl rfl rfl ?_
  obtain ⟨r2, h1, h⟩ := rs_b1e h
  refine rs_callSi (r0 := r2) (S0 := S) C (c_X5_isSheet l G hG S a1 a2 _ h1) ⟨wl_X5_288, ws_yX5_isSheet, wn_X5, wc_yX5_isSheet⟩ wy_yX5_isSheet (by decide) ⟨rfl, rfl⟩ rfl rfl (Nat.le_of_ble_eq_true rfl) dX5_read_2 rfl ?_
  refine rs_if_eq (tgt := 21) C dX5_read_5 (by decide) rfl (fun z3 => ?_) (fun z3 => ?_)
  · replace h := rs_it z3 h
    refine rs_iconst (v := (-1)) C dX5_read_21 (by decide) rfl ?_
    exact rs_iret C hr hlk h dX5_read_22
  · replace h := rs_if z3 h
    refine rs_iload C dX5_read_8 rfl rfl ?_
    refine rs_i2l C dX5_read_10 rfl ?_
    refine rs_lconst (v := 0) C dX5_read_11 (by decide) rfl ?_
    refine rs_ldc2 C dX5_read_12 wk_X5_273 rfl ?_
    obtain ⟨r5, h4, h⟩ := rs_b1e h
    refine rs_callSi (r0 := r5) (S0 := S) C (c_X5_in l G hG S (a4.toInt64) 0 20 _ h4) ⟨wl_X5_61, ws_yX5_in, wn_X5, wc_yX5_in⟩ wy_yX5_in (by decide) ⟨rfl, rfl⟩ rfl rfl (Nat.le_of_ble_eq_true rfl) dX5_read_15 rfl ?_
    refine rs_if_ne (tgt := 23) C dX5_read_18 (by decide) rfl (fun z6 => ?_) (fun z6 => ?_)
    · replace h := rs_if z6 h
      refine rs_iconst (v := 0) C dX5_read_23 (by decide) rfl ?_
      refine rs_istore C dX5_read_24 (by decide) rfl ?_
      refine rs_kw (F := fun K => xf_X5_read_l26 K rs_fu S 0) (P := fun K => ∀ (S14 : rs_St) (x15 : Int32), K S14 x15 = some o → rs_Xi G 11 p l e (rs_rm 5) s m args below meth c o S14 53 [(0, .ref (rs_ad G 91)), (1, .int a1), (2, .int a2), (3, .int a3), (4, .int a4), (5, .int x15)] []) h (fun S14 x15 h => ?_) (fun K26 hK26 h => ?_)
      · refine rs_iconst (v := 0) C dX5_read_53 (by decide) rfl ?_
        refine rs_istore C dX5_read_54 (by decide) rfl ?_
        refine rs_iconst (v := 0) C dX5_read_56 (by decide) rfl ?_
        refine rs_istore C dX5_read_57 (by decide) rfl ?_
        refine rs_iconst (v := 0) C dX5_read_59 (by decide) rfl ?_
        refine rs_istore C dX5_read_60 (by decide) rfl ?_
        refine rs_kw (F := fun K => xf_X5_read_l62 a1 a2 a3 a4 K rs_fu S14 0 0 0) (P := fun K => ∀ (S63 : rs_St) (x64 : Int32) (x65 : Int32) (x66 : Int32), K S63 x64 x65 x66 = some o → rs_Xi G 11 p l e (rs_rm 5) s m args below meth c o S63 251 [(0, .ref (rs_ad G 91)), (1, .int a1), (2, .int a2), (3, .int a3), (4, .int a4), (5, .int x64), (6, .int x65), (7, .int x66)] []) h (fun S63 x64 x65 x66 h => ?_) (fun K62 hK62 h => ?_)
        · refine rs_aload_n (i := 0) C dX5_read_251 rfl rfl rfl ?_
          refine rs_iload C dX5_read_252 rfl rfl ?_
          refine rp_X5_32 C kk_91 wl_X5_295 dX5_read_254 rfl h (fun S67 h => ?_)
          refine rs_iload C dX5_read_257 rfl rfl ?_
          exact rs_iret C hr hlk h dX5_read_259
        · have L62 : ∀ (n62 : Nat) (S16 : rs_St) (x17 : Int32) (x18 : Int32) (x19 : Int32), xf_X5_read_l62 a1 a2 a3 a4 K62 n62 S16 x17 x18 x19 = some o → rs_Xi G 11 p l e (rs_rm 5) s m args below meth c o S16 62 [(0, .ref (rs_ad G 91)), (1, .int a1), (2, .int a2), (3, .int a3), (4, .int a4), (5, .int x17), (6, .int x18), (7, .int x19)] [] := by
            intro n62
            induction n62 with
            | zero => intro S16 x17 x18 x19 h; exact (rs_no h).elim
            | succ n62 ih62 =>
              intro S16 x17 x18 x19 h
              rw [xf_X5_read_l62] at h
              refine rs_iload C dX5_read_62 rfl rfl ?_
              refine rs_iload C dX5_read_64 rfl rfl ?_
              refine rs_icmp_ge (tgt := 251) C dX5_read_66 (by decide) rfl (fun z20 => ?_) (fun z20 => ?_)
              · replace h := rs_it z20 h
                exact rs_subk (hK62 _ _ _ _ h) (rs_ac rfl (rs_ac rfl (rs_ac rfl (rs_ac rfl (rs_ac rfl (rs_ac rfl (rs_ac rfl (rs_ac rfl rs_a0))))))))
              · replace h := rs_if z20 h
                refine rs_iload C dX5_read_69 rfl rfl ?_
                refine rs_if_ne (tgt := 251) C dX5_read_71 (by decide) rfl (fun z21 => ?_) (fun z21 => ?_)
                · replace h := rs_if z21 h
                  exact rs_subk (hK62 _ _ _ _ h) (rs_ac rfl (rs_ac rfl (rs_ac rfl (rs_ac rfl (rs_ac rfl (rs_ac rfl (rs_ac rfl (rs_ac rfl rs_a0))))))))
                · replace h := rs_it z21 h
                  refine rs_iconst (v := 0) C dX5_read_74 (by decide) rfl ?_
                  refine rs_istore C dX5_read_75 (by decide) rfl ?_
                  refine rs_kw (F := fun K => xf_X5_read_l77 a1 a2 a3 S16 x19 K rs_fu x17 0) (P := fun K => ∀ (x38 : Int32) (x39 : Int32), K x38 x39 = some o → rs_Xi G 11 p l e (rs_rm 5) s m args below meth c o S16 164 [(0, .ref (rs_ad G 91)), (1, .int a1), (2, .int a2), (3, .int a3), (4, .int a4), (5, .int x38), (6, .int x18), (7, .int x19), (8, .int x39)] []) h (fun x38 x39 h => ?_) (fun K77 hK77 h => ?_)
                  · refine rs_iload C dX5_read_164 rfl rfl ?_
                    refine rs_jw (P := fun J => ∀ (S40 : rs_St) (x41 : Int32) (x42 : Int32), J S40 x41 x42 = some o → rs_Xi G 11 p l e (rs_rm 5) s m args below meth c o S40 245 [(0, .ref (rs_ad G 91)), (1, .int a1), (2, .int a2), (3, .int a3), (4, .int a4), (5, .int x38), (6, .int x41), (7, .int x19), (8, .int x42)] []) h (fun S40 x41 x42 h => ?_) (fun J43 KJ43 h => ?_)
                    · refine rs_iincn (v := 1) C dX5_read_245 rfl (by decide) (by decide) rfl h (fun x44 h => ?_)
                      refine rs_goto (tgt := 62) C dX5_read_248 (by decide) ?_
                      exact rs_subk (ih62 _ _ _ _ h) (rs_ac rfl (rs_ac rfl (rs_ac rfl (rs_ac rfl (rs_ac rfl (rs_ac rfl (rs_ac rfl (rs_ac rfl rs_a0))))))))
                    · refine rs_if_ne (tgt := 245) C dX5_read_166 (by decide) rfl (fun z45 => ?_) (fun z45 => ?_)
                      · replace h := rs_if z45 h
                        exact rs_subk (KJ43 _ _ _ h) (rs_ac rfl (rs_ac rfl (rs_ac rfl (rs_ac rfl (rs_ac rfl (rs_ac rfl (rs_ac rfl (rs_ac rfl (rs_ac rfl rs_a0)))))))))
                      · replace h := rs_it z45 h
                        refine rs_bipush (v := 40) C dX5_read_169 (by decide) rfl ?_
                        refine rs_iload_n (i := 1) C dX5_read_171 rfl rfl rfl ?_
                        refine rs_imul C dX5_read_172 rfl ?_
                        refine rs_iload_n (i := 3) C dX5_read_173 rfl rfl rfl ?_
                        refine rs_iadd C dX5_read_174 rfl ?_
                        refine rs_iconst (v := 2) C dX5_read_175 (by decide) rfl ?_
                        refine rs_iload C dX5_read_176 rfl rfl ?_
                        refine rs_imul C dX5_read_178 rfl ?_
                        refine rs_iadd C dX5_read_179 rfl ?_
                        refine rs_nmi h (fun x46 h => ?_)
                        refine rs_istore C dX5_read_180 (by decide) rfl ?_
                        refine rs_aload_n (i := 0) C dX5_read_182 rfl rfl rfl ?_
                        refine rs_aload_n (i := 0) C dX5_read_183 rfl rfl rfl ?_
                        refine rg_X5_31 C kk_91 wl_X5_47 dX5_read_184 rfl ?_
                        refine rs_iload C dX5_read_187 rfl rfl ?_
                        obtain ⟨z47, h⟩ := rs_ck h
                        refine rs_ialdn C kk_104 ll_104 z47 dX5_read_189 rfl ?_
                        refine rs_iconst (v := 3) C dX5_read_190 (by decide) rfl ?_
                        refine rs_aload_n (i := 0) C dX5_read_191 rfl rfl rfl ?_
                        refine rg_X5_31 C kk_91 wl_X5_47 dX5_read_192 rfl ?_
                        refine rs_iload C dX5_read_195 rfl rfl ?_
                        refine rs_iconst (v := 1) C dX5_read_197 (by decide) rfl ?_
                        refine rs_iadd C dX5_read_198 rfl ?_
                        obtain ⟨z48, h⟩ := rs_ck h
                        refine rs_ialdn C kk_104 ll_104 z48 dX5_read_199 rfl ?_
                        obtain ⟨r51, S50, h49, h⟩ := rs_b2e h
                        refine rs_callVi (r0 := r51) (S0 := S50) C (rs_kd_lt kk_91 (by decide)) (rs_e5 kk_91) rfl (c_X5_alter l G hG S16 (rs_gi S16 104 x46.toNatClampNeg) 3 (rs_gi S16 104 (x46 + 1).toNatClampNeg) _ h49) ⟨wl_X5_291, wi_yX5_alter, wx_yX5_alter, wn_X5, wc_yX5_alter⟩ wy_yX5_alter (by decide) ⟨rfl, rfl⟩ rfl rfl (Nat.le_of_ble_eq_true rfl) dX5_read_200 rfl ?_
                        refine rs_if_ge (tgt := 242) C dX5_read_203 (by decide) rfl (fun z52 => ?_) (fun z52 => ?_)
                        · replace h := rs_it z52 h
                          refine rs_iincn (v := 1) C dX5_read_242 rfl (by decide) (by decide) rfl h (fun x53 h => ?_)
                          exact rs_subk (KJ43 _ _ _ h) (rs_ac rfl (rs_ac rfl (rs_ac rfl (rs_ac rfl (rs_ac rfl (rs_ac rfl (rs_ac rfl (rs_ac rfl (rs_ac rfl rs_a0)))))))))
                        · replace h := rs_if z52 h
                          refine rs_iconst (v := 0) C dX5_read_206 (by decide) rfl ?_
                          refine rs_istore C dX5_read_207 (by decide) rfl ?_
                          refine rs_kw (F := fun K => xf_X5_read_l209 K rs_fu S50 0) (P := fun K => ∀ (S61 : rs_St) (x62 : Int32), K S61 x62 = some o → rs_Xi G 11 p l e (rs_rm 5) s m args below meth c o S61 236 [(0, .ref (rs_ad G 91)), (1, .int a1), (2, .int a2), (3, .int a3), (4, .int a4), (5, .int x38), (6, .int x18), (7, .int x19), (8, .int x46), (9, .int x62)] []) h (fun S61 x62 h => ?_) (fun K209 hK209 h => ?_)
                          · refine rs_bipush (v := (-20)) C dX5_read_236 (by decide) rfl ?_
                            refine rs_iload C dX5_read_238 rfl rfl ?_
                            refine rs_isub C dX5_read_240 rfl ?_
                            exact rs_iret C hr hlk h dX5_read_241
                          · have L209 : ∀ (n209 : Nat) (S54 : rs_St) (x55 : Int32), xf_X5_read_l209 K209 n209 S54 x55 = some o → rs_Xi G 11 p l e (rs_rm 5) s m args below meth c o S54 209 [(0, .ref (rs_ad G 91)), (1, .int a1), (2, .int a2), (3, .int a3), (4, .int a4), (5, .int x38), (6, .int x18), (7, .int x19), (8, .int x46), (9, .int x55)] [] := by
                              intro n209
                              induction n209 with
                              | zero => intro S54 x55 h; exact (rs_no h).elim
                              | succ n209 ih209 =>
                                intro S54 x55 h
                                rw [xf_X5_read_l209] at h
                                refine rs_iload C dX5_read_209 rfl rfl ?_
                                refine rs_bipush (v := 51) C dX5_read_211 (by decide) rfl ?_
                                refine rs_icmp_ge (tgt := 236) C dX5_read_213 (by decide) rfl (fun z56 => ?_) (fun z56 => ?_)
                                · replace h := rs_it z56 h
                                  exact rs_subk (hK209 _ _ h) (rs_ac rfl (rs_ac rfl (rs_ac rfl (rs_ac rfl (rs_ac rfl (rs_ac rfl (rs_ac rfl (rs_ac rfl (rs_ac rfl (rs_ac rfl rs_a0))))))))))
                                · replace h := rs_if z56 h
                                  refine rs_aload_n (i := 0) C dX5_read_216 rfl rfl rfl ?_
                                  refine rg_X5_0 C kk_91 wl_X5_7 dX5_read_217 rfl ?_
                                  refine rs_iload C dX5_read_220 rfl rfl ?_
                                  refine rs_aload_n (i := 0) C dX5_read_222 rfl rfl rfl ?_
                                  refine rg_X5_33 C kk_91 wl_X5_50 dX5_read_223 rfl ?_
                                  refine rs_iload C dX5_read_226 rfl rfl ?_
                                  obtain ⟨z57, h⟩ := rs_ck h
                                  refine rs_ialdn C kk_105 ll_105 z57 dX5_read_228 rfl ?_
                                  obtain ⟨z59, h⟩ := rs_ck h
                                  refine rs_iastn C kk_92 ll_92 z59 dX5_read_229 rfl h (fun S58 h => ?_)
                                  refine rs_iincn (v := 1) C dX5_read_230 rfl (by decide) (by decide) rfl h (fun x60 h => ?_)
                                  refine rs_goto (tgt := 209) C dX5_read_233 (by decide) ?_
                                  exact rs_subk (ih209 _ _ h) (rs_ac rfl (rs_ac rfl (rs_ac rfl (rs_ac rfl (rs_ac rfl (rs_ac rfl (rs_ac rfl (rs_ac rfl (rs_ac rfl (rs_ac rfl rs_a0))))))))))
                            exact rs_subk (L209 rs_fu _ _ h) (rs_ac rfl (rs_ac rfl (rs_ac rfl (rs_ac rfl (rs_ac rfl (rs_ac rfl (rs_ac rfl (rs_ac rfl (rs_ac rfl (rs_ac rfl rs_a0))))))))))
                  · have L77 : ∀ (n77 : Nat) (x22 : Int32) (x23 : Int32), xf_X5_read_l77 a1 a2 a3 S16 x19 K77 n77 x22 x23 = some o → rs_Xi G 11 p l e (rs_rm 5) s m args below meth c o S16 77 [(0, .ref (rs_ad G 91)), (1, .int a1), (2, .int a2), (3, .int a3), (4, .int a4), (5, .int x22), (6, .int x18), (7, .int x19), (8, .int x23)] [] := by
                      intro n77
                      induction n77 with
                      | zero => intro x22 x23 h; exact (rs_no h).elim
                      | succ n77 ih77 =>
                        intro x22 x23 h
                        rw [xf_X5_read_l77] at h
                        refine rs_iload C dX5_read_77 rfl rfl ?_
                        refine rs_iconst (v := 2) C dX5_read_79 (by decide) rfl ?_
                        refine rs_icmp_ge (tgt := 164) C dX5_read_80 (by decide) rfl (fun z24 => ?_) (fun z24 => ?_)
                        · replace h := rs_it z24 h
                          exact rs_subk (hK77 _ _ h) (rs_ac rfl (rs_ac rfl (rs_ac rfl (rs_ac rfl (rs_ac rfl (rs_ac rfl (rs_ac rfl (rs_ac rfl (rs_ac rfl rs_a0)))))))))
                        · replace h := rs_if z24 h
                          refine rs_iload C dX5_read_83 rfl rfl ?_
                          refine rs_if_ne (tgt := 164) C dX5_read_85 (by decide) rfl (fun z25 => ?_) (fun z25 => ?_)
                          · replace h := rs_if z25 h
                            exact rs_subk (hK77 _ _ h) (rs_ac rfl (rs_ac rfl (rs_ac rfl (rs_ac rfl (rs_ac rfl (rs_ac rfl (rs_ac rfl (rs_ac rfl (rs_ac rfl rs_a0)))))))))
                          · replace h := rs_it z25 h
                            refine rs_iload_n (i := 3) C dX5_read_88 rfl rfl rfl ?_
                            refine rs_i2l C dX5_read_89 rfl ?_
                            refine rs_iconst (v := 2) C dX5_read_90 (by decide) rfl ?_
                            refine rs_iload C dX5_read_91 rfl rfl ?_
                            refine rs_imul C dX5_read_93 rfl ?_
                            refine rs_i2l C dX5_read_94 rfl ?_
                            refine rs_ladd C dX5_read_95 rfl ?_
                            refine rs_iload C dX5_read_96 rfl rfl ?_
                            refine rs_i2l C dX5_read_98 rfl ?_
                            refine rs_ladd C dX5_read_99 rfl ?_
                            refine rs_nml h (fun x26 h => ?_)
                            refine rs_lstore C dX5_read_100 (by decide) rfl ?_
                            refine rs_aload_n (i := 0) C dX5_read_102 rfl rfl rfl ?_
                            refine rg_X5_29 C kk_91 wl_X5_41 dX5_read_103 rfl ?_
                            refine rs_iload_n (i := 1) C dX5_read_106 rfl rfl rfl ?_
                            obtain ⟨z27, h⟩ := rs_ck h
                            refine rs_ialdn C kk_102 ll_102 z27 dX5_read_107 rfl ?_
                            refine rs_bipush (v := (-4)) C dX5_read_108 (by decide) rfl ?_
                            refine rs_jw (P := fun J => ∀ (x28 : Int32), J x28 = some o → rs_Xi G 11 p l e (rs_rm 5) s m args below meth c o S16 156 [(0, .ref (rs_ad G 91)), (1, .int a1), (2, .int a2), (3, .int a3), (4, .int a4), (5, .int x22), (6, .int x18), (7, .int x19), (8, .int x23), (9, .long x26)] [.int x28]) h (fun x28 h => ?_) (fun J29 KJ29 h => ?_)
                            · refine rs_istore C dX5_read_156 (by decide) rfl ?_
                              refine rs_iincn (v := 1) C dX5_read_158 rfl (by decide) (by decide) rfl h (fun x30 h => ?_)
                              refine rs_goto (tgt := 77) C dX5_read_161 (by decide) ?_
                              exact rs_subk (ih77 _ _ h) (rs_ac rfl (rs_ac rfl (rs_ac rfl (rs_ac rfl (rs_ac rfl (rs_ac rfl (rs_ac rfl (rs_ac rfl (rs_ac rfl rs_a0)))))))))
                            · refine rs_icmp_ne (tgt := 117) C dX5_read_110 (by decide) rfl (fun z31 => ?_) (fun z31 => ?_)
                              · replace h := rs_if z31 h
                                refine rs_aload_n (i := 0) C dX5_read_117 rfl rfl rfl ?_
                                refine rg_X5_29 C kk_91 wl_X5_41 dX5_read_118 rfl ?_
                                refine rs_iload_n (i := 1) C dX5_read_121 rfl rfl rfl ?_
                                obtain ⟨z32, h⟩ := rs_ck h
                                refine rs_ialdn C kk_102 ll_102 z32 dX5_read_122 rfl ?_
                                refine rs_iload_n (i := 2) C dX5_read_123 rfl rfl rfl ?_
                                refine rs_icmp_eq (tgt := 131) C dX5_read_124 (by decide) rfl (fun z33 => ?_) (fun z33 => ?_)
                                · replace h := rs_it z33 h
                                  refine rs_lload C dX5_read_131 rfl rfl ?_
                                  refine rs_lconst (v := 0) C dX5_read_133 (by decide) rfl ?_
                                  refine rs_lcmp C dX5_read_134 rfl ?_
                                  refine rs_jw (P := fun J => J = some o → rs_Xi G 11 p l e (rs_rm 5) s m args below meth c o S16 151 [(0, .ref (rs_ad G 91)), (1, .int a1), (2, .int a2), (3, .int a3), (4, .int a4), (5, .int x22), (6, .int x18), (7, .int x19), (8, .int x23), (9, .long x26)] []) h (fun  h => ?_) (fun J34 KJ34 h => ?_)
                                  · refine rs_iconst (v := 2) C dX5_read_151 (by decide) rfl ?_
                                    refine rs_goto (tgt := 156) C dX5_read_152 (by decide) ?_
                                    exact rs_subk (KJ29 _ h) (rs_ac rfl (rs_ac rfl (rs_ac rfl (rs_ac rfl (rs_ac rfl (rs_ac rfl (rs_ac rfl (rs_ac rfl (rs_ac rfl (rs_ac rfl rs_a0))))))))))
                                  · refine rs_if_lt (tgt := 151) C dX5_read_135 (by decide) rfl (fun z35 => ?_) (fun z35 => ?_)
                                    · replace h := rs_it z35 h
                                      exact rs_subk (KJ34 h) (rs_ac rfl (rs_ac rfl (rs_ac rfl (rs_ac rfl (rs_ac rfl (rs_ac rfl (rs_ac rfl (rs_ac rfl (rs_ac rfl (rs_ac rfl rs_a0))))))))))
                                    · replace h := rs_if z35 h
                                      refine rs_lload C dX5_read_138 rfl rfl ?_
                                      refine rs_aload_n (i := 0) C dX5_read_140 rfl rfl rfl ?_
                                      refine rg_X5_30 C kk_91 wl_X5_44 dX5_read_141 rfl ?_
                                      refine rs_iload_n (i := 1) C dX5_read_144 rfl rfl rfl ?_
                                      obtain ⟨z36, h⟩ := rs_ck h
                                      refine rs_ialdn C kk_103 ll_103 z36 dX5_read_145 rfl ?_
                                      refine rs_i2l C dX5_read_146 rfl ?_
                                      refine rs_lcmp C dX5_read_147 rfl ?_
                                      refine rs_if_lt (tgt := 155) C dX5_read_148 (by decide) rfl (fun z37 => ?_) (fun z37 => ?_)
                                      · replace h := rs_it z37 h
                                        refine rs_iconst (v := 0) C dX5_read_155 (by decide) rfl ?_
                                        exact rs_subk (KJ29 _ h) (rs_ac rfl (rs_ac rfl (rs_ac rfl (rs_ac rfl (rs_ac rfl (rs_ac rfl (rs_ac rfl (rs_ac rfl (rs_ac rfl (rs_ac rfl rs_a0))))))))))
                                      · replace h := rs_if z37 h
                                        exact rs_subk (KJ34 h) (rs_ac rfl (rs_ac rfl (rs_ac rfl (rs_ac rfl (rs_ac rfl (rs_ac rfl (rs_ac rfl (rs_ac rfl (rs_ac rfl (rs_ac rfl rs_a0))))))))))
                                · replace h := rs_if z33 h
                                  refine rs_iconst (v := 3) C dX5_read_127 (by decide) rfl ?_
                                  refine rs_goto (tgt := 156) C dX5_read_128 (by decide) ?_
                                  exact rs_subk (KJ29 _ h) (rs_ac rfl (rs_ac rfl (rs_ac rfl (rs_ac rfl (rs_ac rfl (rs_ac rfl (rs_ac rfl (rs_ac rfl (rs_ac rfl (rs_ac rfl rs_a0))))))))))
                              · replace h := rs_it z31 h
                                refine rs_iconst (v := 1) C dX5_read_113 (by decide) rfl ?_
                                refine rs_goto (tgt := 156) C dX5_read_114 (by decide) ?_
                                exact rs_subk (KJ29 _ h) (rs_ac rfl (rs_ac rfl (rs_ac rfl (rs_ac rfl (rs_ac rfl (rs_ac rfl (rs_ac rfl (rs_ac rfl (rs_ac rfl (rs_ac rfl rs_a0))))))))))
                    exact rs_subk (L77 rs_fu _ _ h) (rs_ac rfl (rs_ac rfl (rs_ac rfl (rs_ac rfl (rs_ac rfl (rs_ac rfl (rs_ac rfl (rs_ac rfl (rs_ac rfl rs_a0)))))))))
          exact rs_subk (L62 rs_fu _ _ _ _ h) (rs_ac rfl (rs_ac rfl (rs_ac rfl (rs_ac rfl (rs_ac rfl (rs_ac rfl (rs_ac rfl (rs_ac rfl rs_a0))))))))
      · have L26 : ∀ (n26 : Nat) (S7 : rs_St) (x8 : Int32), xf_X5_read_l26 K26 n26 S7 x8 = some o → rs_Xi G 11 p l e (rs_rm 5) s m args below meth c o S7 26 [(0, .ref (rs_ad G 91)), (1, .int a1), (2, .int a2), (3, .int a3), (4, .int a4), (5, .int x8)] [] := by
          intro n26
          induction n26 with
          | zero => intro S7 x8 h; exact (rs_no h).elim
          | succ n26 ih26 =>
            intro S7 x8 h
            rw [xf_X5_read_l26] at h
            refine rs_iload C dX5_read_26 rfl rfl ?_
            refine rs_bipush (v := 51) C dX5_read_28 (by decide) rfl ?_
            refine rs_icmp_ge (tgt := 53) C dX5_read_30 (by decide) rfl (fun z9 => ?_) (fun z9 => ?_)
            · replace h := rs_it z9 h
              exact rs_subk (hK26 _ _ h) (rs_ac rfl (rs_ac rfl (rs_ac rfl (rs_ac rfl (rs_ac rfl (rs_ac rfl rs_a0))))))
            · replace h := rs_if z9 h
              refine rs_aload_n (i := 0) C dX5_read_33 rfl rfl rfl ?_
              refine rg_X5_33 C kk_91 wl_X5_50 dX5_read_34 rfl ?_
              refine rs_iload C dX5_read_37 rfl rfl ?_
              refine rs_aload_n (i := 0) C dX5_read_39 rfl rfl rfl ?_
              refine rg_X5_0 C kk_91 wl_X5_7 dX5_read_40 rfl ?_
              refine rs_iload C dX5_read_43 rfl rfl ?_
              obtain ⟨z10, h⟩ := rs_ck h
              refine rs_ialdn C kk_92 ll_92 z10 dX5_read_45 rfl ?_
              obtain ⟨z12, h⟩ := rs_ck h
              refine rs_iastn C kk_105 ll_105 z12 dX5_read_46 rfl h (fun S11 h => ?_)
              refine rs_iincn (v := 1) C dX5_read_47 rfl (by decide) (by decide) rfl h (fun x13 h => ?_)
              refine rs_goto (tgt := 26) C dX5_read_50 (by decide) ?_
              exact rs_subk (ih26 _ _ h) (rs_ac rfl (rs_ac rfl (rs_ac rfl (rs_ac rfl (rs_ac rfl (rs_ac rfl rs_a0))))))
        exact rs_subk (L26 rs_fu _ _ h) (rs_ac rfl (rs_ac rfl (rs_ac rfl (rs_ac rfl (rs_ac rfl (rs_ac rfl rs_a0))))))
    · replace h := rs_it z6 h
      refine rs_iconst (v := (-1)) C dX5_read_21 (by decide) rfl ?_
      exact rs_iret C hr hlk h dX5_read_22
def xf_X5_torn (S : rs_St) : Option Int32 := some (rs_gi S 91 32)
set_option maxRecDepth 100000 in
theorem c_X5_torn (l : Launch) (G : rs_G) (hG : rs_ok G) (S : rs_St)  (o : Int32) (h : xf_X5_torn S = some o) : Met l yX5_torn (rs_wz yX5_torn cX5_torn 1 (some FieldType.int)) (rs_rm 2) (va_Pc [.ref (rs_ad G 91)] (rs_pre G S)) (va_Qi (fun r S2 => (r, S2) = (o, S)) (rs_post G) (rs_A G)) 0 0 (rs_A G) := by
  refine rs_met hG (by decide) (Nat.le_of_ble_eq_true rfl) ?_
  intro p e s m args below meth c C hr hlk
  rw [xf_X5_torn] at h
  refine rs_aload_n (i := 0) C dX5_torn_0 rfl rfl rfl ?_
  refine rg_X5_32 C kk_91 wl_X5_295 dX5_torn_1 rfl ?_
  exact rs_iret C hr hlk (rs_pr h) dX5_torn_4
def xf_X5_sumOf_l4 (S : rs_St) (a1 : Int32) (K4 : Int32 → Int32 → Option Int32) : Nat → Int32 → Int32 → Option Int32
  | 0, _, _ => none
  | n4 + 1, x1, x2 => if (rs_gi S 92 16) ≤ x2 then K4 x1 x2 else if ((4 * x2) + a1) < 0 ∨ 153 ≤ ((4 * x2) + a1).toNatClampNeg then none else rs_lt (x1 + (rs_gi S 92 ((4 * x2) + a1).toNatClampNeg)) (fun x5 => rs_lt (x2 + 1) (fun x6 => xf_X5_sumOf_l4 S a1 K4 n4 x5 x6))
def xf_X5_sumOf (S : rs_St) (a1 : Int32) : Option Int32 := xf_X5_sumOf_l4 S a1 (fun (x7 : Int32) (x8 : Int32) => some x7) rs_fu 0 0
set_option maxRecDepth 100000 in
theorem c_X5_sumOf (l : Launch) (G : rs_G) (hG : rs_ok G) (S : rs_St) (a1 : Int32)  (o : Int32) (h : xf_X5_sumOf S a1 = some o) : Met l yX5_sumOf (rs_wz yX5_sumOf cX5_sumOf 4 (some FieldType.int)) (rs_rm 2) (va_Pc [.ref (rs_ad G 91), .int a1] (rs_pre G S)) (va_Qi (fun r S2 => (r, S2) = (o, S)) (rs_post G) (rs_A G)) 0 0 (rs_A G) := by
  refine rs_met hG (by decide) (Nat.le_of_ble_eq_true rfl) ?_
  intro p e s m args below meth c C hr hlk
  rw [xf_X5_sumOf] at h
  refine rs_iconst (v := 0) C dX5_sumOf_0 (by decide) rfl ?_
  refine rs_istore_n (i := 2) C dX5_sumOf_1 rfl (by decide) rfl ?_
  refine rs_iconst (v := 0) C dX5_sumOf_2 (by decide) rfl ?_
  refine rs_istore_n (i := 3) C dX5_sumOf_3 rfl (by decide) rfl ?_
  refine rs_kw (F := fun K => xf_X5_sumOf_l4 S a1 K rs_fu 0 0) (P := fun K => ∀ (x7 : Int32) (x8 : Int32), K x7 x8 = some o → rs_Xi G 4 p l e (rs_rm 2) s m args below meth c (o, S) S 34 [(0, .ref (rs_ad G 91)), (1, .int a1), (2, .int x7), (3, .int x8)] []) h (fun x7 x8 h => ?_) (fun K4 hK4 h => ?_)
  · refine rs_iload_n (i := 2) C dX5_sumOf_34 rfl rfl rfl ?_
    exact rs_iret C hr hlk (rs_pr h) dX5_sumOf_35
  · have L4 : ∀ (n4 : Nat) (x1 : Int32) (x2 : Int32), xf_X5_sumOf_l4 S a1 K4 n4 x1 x2 = some o → rs_Xi G 4 p l e (rs_rm 2) s m args below meth c (o, S) S 4 [(0, .ref (rs_ad G 91)), (1, .int a1), (2, .int x1), (3, .int x2)] [] := by
      intro n4
      induction n4 with
      | zero => intro x1 x2 h; exact (rs_no h).elim
      | succ n4 ih4 =>
        intro x1 x2 h
        rw [xf_X5_sumOf_l4] at h
        refine rs_iload_n (i := 3) C dX5_sumOf_4 rfl rfl rfl ?_
        refine rs_aload_n (i := 0) C dX5_sumOf_5 rfl rfl rfl ?_
        refine rg_X5_0 C kk_91 wl_X5_7 dX5_sumOf_6 rfl ?_
        refine rs_bipush (v := 16) C dX5_sumOf_9 (by decide) rfl ?_
        refine rs_ialdc C kk_92 ll_92 16 (by decide) (by decide) dX5_sumOf_11 rfl ?_
        refine rs_icmp_ge (tgt := 34) C dX5_sumOf_12 (by decide) rfl (fun z3 => ?_) (fun z3 => ?_)
        · replace h := rs_it z3 h
          exact rs_subk (hK4 _ _ h) (rs_ac rfl (rs_ac rfl (rs_ac rfl (rs_ac rfl rs_a0))))
        · replace h := rs_if z3 h
          refine rs_iload_n (i := 2) C dX5_sumOf_15 rfl rfl rfl ?_
          refine rs_aload_n (i := 0) C dX5_sumOf_16 rfl rfl rfl ?_
          refine rg_X5_0 C kk_91 wl_X5_7 dX5_sumOf_17 rfl ?_
          refine rs_iconst (v := 4) C dX5_sumOf_20 (by decide) rfl ?_
          refine rs_iload_n (i := 3) C dX5_sumOf_21 rfl rfl rfl ?_
          refine rs_imul C dX5_sumOf_22 rfl ?_
          refine rs_iload_n (i := 1) C dX5_sumOf_23 rfl rfl rfl ?_
          refine rs_iadd C dX5_sumOf_24 rfl ?_
          obtain ⟨z4, h⟩ := rs_ck h
          refine rs_ialdn C kk_92 ll_92 z4 dX5_sumOf_25 rfl ?_
          refine rs_iadd C dX5_sumOf_26 rfl ?_
          refine rs_nmi h (fun x5 h => ?_)
          refine rs_istore_n (i := 2) C dX5_sumOf_27 rfl (by decide) rfl ?_
          refine rs_iincn (v := 1) C dX5_sumOf_28 rfl (by decide) (by decide) rfl h (fun x6 h => ?_)
          refine rs_goto (tgt := 4) C dX5_sumOf_31 (by decide) ?_
          exact rs_subk (ih4 _ _ h) (rs_ac rfl (rs_ac rfl (rs_ac rfl (rs_ac rfl rs_a0))))
    exact rs_subk (L4 rs_fu _ _ h) (rs_ac rfl (rs_ac rfl (rs_ac rfl (rs_ac rfl rs_a0))))
def xf_X5_count (S : rs_St) (a1 : Int32) : Option Int32 := if a1 = 0 then some (rs_gi S 92 32) else if a1 = 1 then rs_b1 (xf_X5_flag S (rs_gi S 94 0)) (fun r5 => rs_b1 (xf_X5_flag S (rs_gi S 94 1)) (fun r7 => some (r5 + r7))) else if a1 = 2 then some (rs_gi S 91 6) else if a1 = 3 then if (rs_gi S 102 0) = (-4) then some (-4) else some (rs_gi S 103 0) else if a1 = 4 then rs_b1 (xf_X5_sumOf S 1) (fun r13 => some r13) else if a1 = 5 then rs_b1 (xf_X5_sumOf S 2) (fun r16 => some r16) else some (-1)
set_option maxRecDepth 100000 in
theorem c_X5_count (l : Launch) (G : rs_G) (hG : rs_ok G) (S : rs_St) (a1 : Int32)  (o : Int32) (h : xf_X5_count S a1 = some o) : Met l yX5_count (rs_wz yX5_count cX5_count 2 (some FieldType.int)) (rs_rm 3) (va_Pc [.ref (rs_ad G 91), .int a1] (rs_pre G S)) (va_Qi (fun r S2 => (r, S2) = (o, S)) (rs_post G) (rs_A G)) 0 0 (rs_A G) := by
  refine rs_met hG (by decide) (Nat.le_of_ble_eq_true rfl) ?_
  intro p e s m args below meth c C hr hlk
  rw [xf_X5_count] at h
  refine rs_iload_n (i := 1) C dX5_count_0 rfl rfl rfl ?_
  by_cases z2 : a1 = 0
  · replace h := rs_it z2 h
    refine rs_tabIn (tgt := 40) C (39) dX5_count_1 0 z2 (by decide) (by decide) rfl (by decide) ?_
    refine rs_aload_n (i := 0) C dX5_count_40 rfl rfl rfl ?_
    refine rg_X5_0 C kk_91 wl_X5_7 dX5_count_41 rfl ?_
    refine rs_bipush (v := 32) C dX5_count_44 (by decide) rfl ?_
    refine rs_ialdc C kk_92 ll_92 32 (by decide) (by decide) dX5_count_46 rfl ?_
    exact rs_iret C hr hlk (rs_pr h) dX5_count_47
  · replace h := rs_if z2 h
    by_cases z3 : a1 = 1
    · replace h := rs_it z3 h
      refine rs_tabIn (tgt := 48) C (47) dX5_count_1 1 z3 (by decide) (by decide) rfl (by decide) ?_
      refine rs_aload_n (i := 0) C dX5_count_48 rfl rfl rfl ?_
      refine rg_X5_2 C kk_91 wl_X5_16 dX5_count_49 rfl ?_
      refine rs_iconst (v := 0) C dX5_count_52 (by decide) rfl ?_
      refine rs_zaldc C kk_94 ll_94 0 (by decide) (by decide) dX5_count_53 rfl ?_
      obtain ⟨r5, h4, h⟩ := rs_b1e h
      refine rs_callSi (r0 := r5) (S0 := S) C (c_X5_flag l G hG S (rs_gi S 94 0) _ h4) ⟨wl_X5_174, ws_yX5_flag, wn_X5, wc_yX5_flag⟩ wy_yX5_flag (by decide) ⟨rfl, rfl⟩ rfl rfl (Nat.le_of_ble_eq_true rfl) dX5_count_54 rfl ?_
      refine rs_aload_n (i := 0) C dX5_count_57 rfl rfl rfl ?_
      refine rg_X5_2 C kk_91 wl_X5_16 dX5_count_58 rfl ?_
      refine rs_iconst (v := 1) C dX5_count_61 (by decide) rfl ?_
      refine rs_zaldc C kk_94 ll_94 1 (by decide) (by decide) dX5_count_62 rfl ?_
      obtain ⟨r7, h6, h⟩ := rs_b1e h
      refine rs_callSi (r0 := r7) (S0 := S) C (c_X5_flag l G hG S (rs_gi S 94 1) _ h6) ⟨wl_X5_174, ws_yX5_flag, wn_X5, wc_yX5_flag⟩ wy_yX5_flag (by decide) ⟨rfl, rfl⟩ rfl rfl (Nat.le_of_ble_eq_true rfl) dX5_count_63 rfl ?_
      refine rs_iadd C dX5_count_66 rfl ?_
      exact rs_iret C hr hlk (rs_pr h) dX5_count_67
    · replace h := rs_if z3 h
      by_cases z8 : a1 = 2
      · replace h := rs_it z8 h
        refine rs_tabIn (tgt := 68) C (67) dX5_count_1 2 z8 (by decide) (by decide) rfl (by decide) ?_
        refine rs_aload_n (i := 0) C dX5_count_68 rfl rfl rfl ?_
        refine rg_X5_6 C kk_91 wl_X5_65 dX5_count_69 rfl ?_
        exact rs_iret C hr hlk (rs_pr h) dX5_count_72
      · replace h := rs_if z8 h
        by_cases z9 : a1 = 3
        · replace h := rs_it z9 h
          refine rs_tabIn (tgt := 73) C (72) dX5_count_1 3 z9 (by decide) (by decide) rfl (by decide) ?_
          refine rs_aload_n (i := 0) C dX5_count_73 rfl rfl rfl ?_
          refine rg_X5_29 C kk_91 wl_X5_41 dX5_count_74 rfl ?_
          refine rs_iconst (v := 0) C dX5_count_77 (by decide) rfl ?_
          refine rs_ialdc C kk_102 ll_102 0 (by decide) (by decide) dX5_count_78 rfl ?_
          refine rs_bipush (v := (-4)) C dX5_count_79 (by decide) rfl ?_
          refine rs_icmp_ne (tgt := 89) C dX5_count_81 (by decide) rfl (fun z10 => ?_) (fun z10 => ?_)
          · replace h := rs_if z10 h
            refine rs_aload_n (i := 0) C dX5_count_89 rfl rfl rfl ?_
            refine rg_X5_30 C kk_91 wl_X5_44 dX5_count_90 rfl ?_
            refine rs_iconst (v := 0) C dX5_count_93 (by decide) rfl ?_
            refine rs_ialdc C kk_103 ll_103 0 (by decide) (by decide) dX5_count_94 rfl ?_
            exact rs_iret C hr hlk (rs_pr h) dX5_count_95
          · replace h := rs_it z10 h
            refine rs_bipush (v := (-4)) C dX5_count_84 (by decide) rfl ?_
            refine rs_goto (tgt := 95) C dX5_count_86 (by decide) ?_
            exact rs_iret C hr hlk (rs_pr h) dX5_count_95
        · replace h := rs_if z9 h
          by_cases z11 : a1 = 4
          · replace h := rs_it z11 h
            refine rs_tabIn (tgt := 96) C (95) dX5_count_1 4 z11 (by decide) (by decide) rfl (by decide) ?_
            refine rs_aload_n (i := 0) C dX5_count_96 rfl rfl rfl ?_
            refine rs_iconst (v := 1) C dX5_count_97 (by decide) rfl ?_
            obtain ⟨r13, h12, h⟩ := rs_b1e h
            refine rs_callVi (r0 := r13) (S0 := S) C (rs_kd_lt kk_91 (by decide)) (rs_e5 kk_91) rfl (c_X5_sumOf l G hG S 1 _ h12) ⟨wl_X5_298, wi_yX5_sumOf, wx_yX5_sumOf, wn_X5, wc_yX5_sumOf⟩ wy_yX5_sumOf (by decide) ⟨rfl, rfl⟩ rfl rfl (Nat.le_of_ble_eq_true rfl) dX5_count_98 rfl ?_
            exact rs_iret C hr hlk (rs_pr h) dX5_count_101
          · replace h := rs_if z11 h
            by_cases z14 : a1 = 5
            · replace h := rs_it z14 h
              refine rs_tabIn (tgt := 102) C (101) dX5_count_1 5 z14 (by decide) (by decide) rfl (by decide) ?_
              refine rs_aload_n (i := 0) C dX5_count_102 rfl rfl rfl ?_
              refine rs_iconst (v := 2) C dX5_count_103 (by decide) rfl ?_
              obtain ⟨r16, h15, h⟩ := rs_b1e h
              refine rs_callVi (r0 := r16) (S0 := S) C (rs_kd_lt kk_91 (by decide)) (rs_e5 kk_91) rfl (c_X5_sumOf l G hG S 2 _ h15) ⟨wl_X5_298, wi_yX5_sumOf, wx_yX5_sumOf, wn_X5, wc_yX5_sumOf⟩ wy_yX5_sumOf (by decide) ⟨rfl, rfl⟩ rfl rfl (Nat.le_of_ble_eq_true rfl) dX5_count_104 rfl ?_
              exact rs_iret C hr hlk (rs_pr h) dX5_count_107
            · replace h := rs_if z14 h
              refine rs_tabOut (tgt := 108) C dX5_count_1 (by have e0 := rs_nev z2 (0) (by decide); have e1 := rs_nev z3 (1) (by decide); have e2 := rs_nev z8 (2) (by decide); have e3 := rs_nev z9 (3) (by decide); have e4 := rs_nev z11 (4) (by decide); have e5 := rs_nev z14 (5) (by decide); omega) (by decide) ?_
              refine rs_iconst (v := (-1)) C dX5_count_108 (by decide) rfl ?_
              exact rs_iret C hr hlk (rs_pr h) dX5_count_109
