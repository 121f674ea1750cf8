def xf_X3_append (S : rs_St) (a1 : Int32) : Option (Int32 × rs_St) := if (rs_gi S 80 1) < 160 then if (rs_gi S 80 1) < 0 ∨ 160 ≤ (rs_gi S 80 1).toNatClampNeg then none else rs_lt (rs_si S 81 (rs_gi S 80 1).toNatClampNeg (vp_nar .byte (a1.toInt8.toInt32))) (fun S2 => rs_lt (rs_si S2 80 1 ((rs_gi S2 80 1) + 1)) (fun S4 => some (1, S4))) else some (0, S)
set_option maxRecDepth 100000 in
theorem c_X3_append (l : Launch) (G : rs_G) (hG : rs_ok G) (S : rs_St) (a1 : Int32)  (o : (Int32 × rs_St)) (h : xf_X3_append S a1 = some o) : Met l yX3_append (rs_wz yX3_append cX3_append 2 (some FieldType.boolean)) (rs_rm 2) (va_Pc [.ref (rs_ad G 80), .int a1] (rs_pre G S)) (va_Qi (fun r S2 => (r, S2) = o) (rs_post G) (rs_A G)) 0 0 (rs_A G) := by
  refine rs_met hG (by decide) (Nat.le_of_ble_eq_true rfl) ?_
  intro p e s m args below meth c C hr hlk
  rw [xf_X3_append] at h
  refine rs_aload_n (i := 0) C dX3_append_0 rfl rfl rfl ?_
  refine rg_X3_1 C kk_80 wl_X3_15 dX3_append_1 rfl ?_
  refine rs_sipush (v := 160) C dX3_append_4 (by decide) rfl ?_
  refine rs_icmp_lt (tgt := 12) C dX3_append_7 (by decide) rfl (fun z1 => ?_) (fun z1 => ?_)
  · replace h := rs_it z1 h
    refine rs_aload_n (i := 0) C dX3_append_12 rfl rfl rfl ?_
    refine rg_X3_0 C kk_80 wl_X3_9 dX3_append_13 rfl ?_
    refine rs_aload_n (i := 0) C dX3_append_16 rfl rfl rfl ?_
    refine rg_X3_1 C kk_80 wl_X3_15 dX3_append_17 rfl ?_
    refine rs_iload_n (i := 1) C dX3_append_20 rfl rfl rfl ?_
    refine rs_i2b C dX3_append_21 rfl ?_
    obtain ⟨z3, h⟩ := rs_ck h
    refine rs_bastn C kk_81 ll_81 z3 dX3_append_22 rfl h (fun S2 h => ?_)
    refine rs_aload_n (i := 0) C dX3_append_23 rfl rfl rfl ?_
    refine rs_dup C dX3_append_24 rfl rfl ?_
    refine rg_X3_1 C kk_80 wl_X3_15 dX3_append_25 rfl ?_
    refine rs_iconst (v := 1) C dX3_append_28 (by decide) rfl ?_
    refine rs_iadd C dX3_append_29 rfl ?_
    refine rp_X3_1 C kk_80 wl_X3_15 dX3_append_30 rfl h (fun S4 h => ?_)
    refine rs_iconst (v := 1) C dX3_append_33 (by decide) rfl ?_
    exact rs_zret C hr hlk (Or.inr rfl) h dX3_append_34
  · replace h := rs_if z1 h
    refine rs_iconst (v := 0) C dX3_append_10 (by decide) rfl ?_
    exact rs_zret C hr hlk (Or.inl rfl) h dX3_append_11
def xf_X4_feed (S : rs_St) (a1 : Int32) : Option (Int32 × rs_St) := rs_b1 (xf_X4_outside S a1 0 127) (fun r2 => if r2 = 0 then rs_b2 (xf_X3_append S a1) (fun r6 S5 => if r6 = 0 then some ((-3), S5) else some ((rs_gi S5 80 1), S5)) else some ((-1), S))
set_option maxRecDepth 100000 in
theorem c_X4_feed (l : Launch) (G : rs_G) (hG : rs_ok G) (S : rs_St) (a1 : Int32)  (o : (Int32 × rs_St)) (h : xf_X4_feed S a1 = some o) : Met l yX4_feed (rs_wz yX4_feed cX4_feed 2 (some FieldType.int)) (rs_rm 3) (va_Pc [.ref (rs_ad G 76), .int a1] (rs_pre G S)) (va_Qi (fun r S2 => (r, S2) = o) (rs_post G) (rs_A G)) 0 0 (rs_A G) := by
  refine rs_met hG (by decide) (Nat.le_of_ble_eq_true rfl) ?_
  intro p e s m args below meth c C hr hlk
  rw [xf_X4_feed] at h
  refine rs_iload_n (i := 1) C dX4_feed_0 rfl rfl rfl ?_
  refine rs_iconst (v := 0) C dX4_feed_1 (by decide) rfl ?_
  refine rs_bipush (v := 127) C dX4_feed_2 (by decide) rfl ?_
  obtain ⟨r2, h1, h⟩ := rs_b1e h
  refine rs_callSi (r0 := r2) (S0 := S) C (c_X4_outside l G hG S a1 0 127 _ h1) ⟨wl_X4_45, ws_yX4_outside, wn_X4, wc_yX4_outside⟩ wy_yX4_outside (by decide) ⟨rfl, rfl⟩ rfl rfl (Nat.le_of_ble_eq_true rfl) dX4_feed_4 rfl ?_
  refine rs_if_eq (tgt := 12) C dX4_feed_7 (by decide) rfl (fun z3 => ?_) (fun z3 => ?_)
  · replace h := rs_it z3 h
    refine rs_aload_n (i := 0) C dX4_feed_12 rfl rfl rfl ?_
    refine rg_X4_5 C kk_76 wl_X4_36 dX4_feed_13 rfl ?_
    refine rs_iload_n (i := 1) C dX4_feed_16 rfl rfl rfl ?_
    obtain ⟨r6, S5, h4, h⟩ := rs_b2e h
    refine rs_callVi (r0 := r6) (S0 := S5) C (rs_kd_lt kk_80 (by decide)) (rs_e3 kk_80) rfl (c_X3_append l G hG S a1 _ h4) ⟨wl_X4_49, wi_yX3_append, wx_yX3_append, wn_X3, wc_yX3_append⟩ wy_yX3_append (by decide) ⟨rfl, rfl⟩ rfl rfl (Nat.le_of_ble_eq_true rfl) dX4_feed_17 rfl ?_
    refine rs_if_eq (tgt := 33) C dX4_feed_20 (by decide) rfl (fun z7 => ?_) (fun z7 => ?_)
    · replace h := rs_it z7 h
      refine rs_bipush (v := (-3)) C dX4_feed_33 (by decide) rfl ?_
      exact rs_iret C hr hlk h dX4_feed_35
    · replace h := rs_if z7 h
      refine rs_aload_n (i := 0) C dX4_feed_23 rfl rfl rfl ?_
      refine rg_X4_5 C kk_76 wl_X4_36 dX4_feed_24 rfl ?_
      refine rg_X3_1 C kk_80 wl_X4_53 dX4_feed_27 rfl ?_
      refine rs_goto (tgt := 35) C dX4_feed_30 (by decide) ?_
      exact rs_iret C hr hlk h dX4_feed_35
  · replace h := rs_if z3 h
    refine rs_iconst (v := (-1)) C dX4_feed_10 (by decide) rfl ?_
    exact rs_iret C hr hlk h dX4_feed_11
def xf_X3_takeAll_l0 (a1 : Int32) (a2 : Int32) (K0 : rs_St → Option rs_St) : Nat → rs_St → Option rs_St
  | 0, _ => none
  | n0 + 1, S1 => if (rs_gi S1 80 1) ≤ (rs_gi S1 80 4) then K0 S1 else if (rs_gi S1 80 4) < 0 ∨ 160 ≤ (rs_gi S1 80 4).toNatClampNeg then none else if (rs_gi S1 81 (rs_gi S1 80 4).toNatClampNeg) < a1 then K0 S1 else if (rs_gi S1 80 4) < 0 ∨ 160 ≤ (rs_gi S1 80 4).toNatClampNeg then none else if a2 < (rs_gi S1 81 (rs_gi S1 80 4).toNatClampNeg) then K0 S1 else rs_lt (rs_si S1 80 4 ((rs_gi S1 80 4) + 1)) (fun S7 => xf_X3_takeAll_l0 a1 a2 K0 n0 S7)
def xf_X3_takeAll (S : rs_St) (a1 : Int32) (a2 : Int32) : Option rs_St := xf_X3_takeAll_l0 a1 a2 (fun (S8 : rs_St) => some S8) rs_fu S
set_option maxRecDepth 100000 in
theorem c_X3_takeAll (l : Launch) (G : rs_G) (hG : rs_ok G) (S : rs_St) (a1 : Int32) (a2 : Int32)  (o : rs_St) (h : xf_X3_takeAll S a1 a2 = some o) : Met l yX3_takeAll (rs_wz yX3_takeAll cX3_takeAll 3 none) (rs_rm 2) (va_Pc [.ref (rs_ad G 80), .int a1, .int a2] (rs_pre G S)) (va_Qv (fun S2 => S2 = o) (rs_post G) (rs_A G)) 0 0 (rs_A G) := by
  refine rs_met hG (by decide) (Nat.le_of_ble_eq_true rfl) ?_
  intro p e s m args below meth c C hr hlk
  rw [xf_X3_takeAll] at h
  refine rs_kw (F := fun K => xf_X3_takeAll_l0 a1 a2 K rs_fu S) (P := fun K => ∀ (S8 : rs_St), K S8 = some o → rs_Xv G 3 p l e (rs_rm 2) s m args below meth c o S8 50 [(0, .ref (rs_ad G 80)), (1, .int a1), (2, .int a2)] []) h (fun S8 h => ?_) (fun K0 hK0 h => ?_)
  · exact rs_vret C hr hlk h dX3_takeAll_50
  · have L0 : ∀ (n0 : Nat) (S1 : rs_St), xf_X3_takeAll_l0 a1 a2 K0 n0 S1 = some o → rs_Xv G 3 p l e (rs_rm 2) s m args below meth c o S1 0 [(0, .ref (rs_ad G 80)), (1, .int a1), (2, .int a2)] [] := by
      intro n0
      induction n0 with
      | zero => intro S1 h; exact (rs_no h).elim
      | succ n0 ih0 =>
        intro S1 h
        rw [xf_X3_takeAll_l0] at h
        refine rs_aload_n (i := 0) C dX3_takeAll_0 rfl rfl rfl ?_
        refine rg_X3_4 C kk_80 wl_X3_24 dX3_takeAll_1 rfl ?_
        refine rs_aload_n (i := 0) C dX3_takeAll_4 rfl rfl rfl ?_
        refine rg_X3_1 C kk_80 wl_X3_15 dX3_takeAll_5 rfl ?_
        refine rs_icmp_ge (tgt := 50) C dX3_takeAll_8 (by decide) rfl (fun z2 => ?_) (fun z2 => ?_)
        · replace h := rs_it z2 h
          exact rs_subk (hK0 _ h) (rs_ac rfl (rs_ac rfl (rs_ac rfl rs_a0)))
        · replace h := rs_if z2 h
          refine rs_aload_n (i := 0) C dX3_takeAll_11 rfl rfl rfl ?_
          refine rg_X3_0 C kk_80 wl_X3_9 dX3_takeAll_12 rfl ?_
          refine rs_aload_n (i := 0) C dX3_takeAll_15 rfl rfl rfl ?_
          refine rg_X3_4 C kk_80 wl_X3_24 dX3_takeAll_16 rfl ?_
          obtain ⟨z3, h⟩ := rs_ck h
          refine rs_baldn C kk_81 ll_81 z3 dX3_takeAll_19 rfl ?_
          refine rs_iload_n (i := 1) C dX3_takeAll_20 rfl rfl rfl ?_
          refine rs_icmp_lt (tgt := 50) C dX3_takeAll_21 (by decide) rfl (fun z4 => ?_) (fun z4 => ?_)
          · replace h := rs_it z4 h
            exact rs_subk (hK0 _ h) (rs_ac rfl (rs_ac rfl (rs_ac rfl rs_a0)))
          · replace h := rs_if z4 h
            refine rs_aload_n (i := 0) C dX3_takeAll_24 rfl rfl rfl ?_
            refine rg_X3_0 C kk_80 wl_X3_9 dX3_takeAll_25 rfl ?_
            refine rs_aload_n (i := 0) C dX3_takeAll_28 rfl rfl rfl ?_
            refine rg_X3_4 C kk_80 wl_X3_24 dX3_takeAll_29 rfl ?_
            obtain ⟨z5, h⟩ := rs_ck h
            refine rs_baldn C kk_81 ll_81 z5 dX3_takeAll_32 rfl ?_
            refine rs_iload_n (i := 2) C dX3_takeAll_33 rfl rfl rfl ?_
            refine rs_icmp_gt (tgt := 50) C dX3_takeAll_34 (by decide) rfl (fun z6 => ?_) (fun z6 => ?_)
            · replace h := rs_it z6 h
              exact rs_subk (hK0 _ h) (rs_ac rfl (rs_ac rfl (rs_ac rfl rs_a0)))
            · replace h := rs_if z6 h
              refine rs_aload_n (i := 0) C dX3_takeAll_37 rfl rfl rfl ?_
              refine rs_dup C dX3_takeAll_38 rfl rfl ?_
              refine rg_X3_4 C kk_80 wl_X3_24 dX3_takeAll_39 rfl ?_
              refine rs_iconst (v := 1) C dX3_takeAll_42 (by decide) rfl ?_
              refine rs_iadd C dX3_takeAll_43 rfl ?_
              refine rp_X3_4 C kk_80 wl_X3_24 dX3_takeAll_44 rfl h (fun S7 h => ?_)
              refine rs_goto (tgt := 0) C dX3_takeAll_47 (by decide) ?_
              exact rs_subk (ih0 _ h) (rs_ac rfl (rs_ac rfl (rs_ac rfl rs_a0)))
    exact rs_subk (L0 rs_fu _ h) (rs_ac rfl (rs_ac rfl (rs_ac rfl rs_a0)))
def xf_X3_advance (S : rs_St) : Option rs_St := rs_b1 (xf_X3_takeAll S 32 32) (fun S2 => rs_lt (rs_si S2 80 3 (rs_gi S2 80 4)) (fun S3 => rs_jn (fun (x4 : Int32) => if 0 ≤ x4 then if x4 < 97 then if x4 < 48 then if x4 = 59 then rs_lt (rs_si S3 80 2 2) (fun S11 => rs_lt (rs_si S11 80 4 ((rs_gi S11 80 4) + 1)) (fun S12 => some S12)) else rs_lt (rs_si S3 80 6 1) (fun S10 => some S10) else if 57 < x4 then if x4 = 59 then rs_lt (rs_si S3 80 2 2) (fun S16 => rs_lt (rs_si S16 80 4 ((rs_gi S16 80 4) + 1)) (fun S17 => some S17)) else rs_lt (rs_si S3 80 6 1) (fun S15 => some S15) else rs_lt (rs_si S3 80 2 1) (fun S18 => rs_b1 (xf_X3_takeAll S18 48 57) (fun S20 => if ((rs_gi S20 80 4) - (rs_gi S20 80 3)) ≤ 2 then some S20 else rs_lt (rs_si S20 80 6 1) (fun S22 => some S22))) else if 122 < x4 then if x4 < 48 then if x4 = 59 then rs_lt (rs_si S3 80 2 2) (fun S27 => rs_lt (rs_si S27 80 4 ((rs_gi S27 80 4) + 1)) (fun S28 => some S28)) else rs_lt (rs_si S3 80 6 1) (fun S26 => some S26) else if 57 < x4 then if x4 = 59 then rs_lt (rs_si S3 80 2 2) (fun S32 => rs_lt (rs_si S32 80 4 ((rs_gi S32 80 4) + 1)) (fun S33 => some S33)) else rs_lt (rs_si S3 80 6 1) (fun S31 => some S31) else rs_lt (rs_si S3 80 2 1) (fun S34 => rs_b1 (xf_X3_takeAll S34 48 57) (fun S36 => if ((rs_gi S36 80 4) - (rs_gi S36 80 3)) ≤ 2 then some S36 else rs_lt (rs_si S36 80 6 1) (fun S38 => some S38))) else rs_lt (rs_si S3 80 2 0) (fun S39 => rs_b1 (xf_X3_takeAll S39 97 122) (fun S41 => some S41)) else rs_lt (rs_si S3 80 2 3) (fun S42 => some S42)) (fun J5 => if (rs_gi S3 80 1) ≤ (rs_gi S3 80 4) then J5 (-1) else if (rs_gi S3 80 4) < 0 ∨ 160 ≤ (rs_gi S3 80 4).toNatClampNeg then none else J5 (rs_gi S3 81 (rs_gi S3 80 4).toNatClampNeg))))
set_option maxRecDepth 100000 in
theorem c_X3_advance (l : Launch) (G : rs_G) (hG : rs_ok G) (S : rs_St)  (o : rs_St) (h : xf_X3_advance S = some o) : Met l yX3_advance (rs_wz yX3_advance cX3_advance 2 none) (rs_rm 3) (va_Pc [.ref (rs_ad G 80)] (rs_pre G S)) (va_Qv (fun S2 => S2 = o) (rs_post G) (rs_A G)) 0 0 (rs_A G) := by
  refine rs_met hG (by decide) (Nat.le_of_ble_eq_true rfl) ?_
  intro p e s m args below meth c C hr hlk
  rw [xf_X3_advance] at h
  refine rs_aload_n (i := 0) C dX3_advance_0 rfl rfl rfl ?_
  refine rs_bipush (v := 32) C dX3_advance_1 (by decide) rfl ?_
  refine rs_bipush (v := 32) C dX3_advance_3 (by decide) rfl ?_
  obtain ⟨S2, h1, h⟩ := rs_b1e h
  refine rs_callVv (S0 := S2) C (rs_kd_lt kk_80 (by decide)) (rs_e3 kk_80) rfl (c_X3_takeAll l G hG S 32 32 _ h1) ⟨wl_X3_88, wi_yX3_takeAll, wx_yX3_takeAll, wn_X3, wc_yX3_takeAll⟩ wy_yX3_takeAll (by decide) ⟨rfl, rfl⟩ rfl rfl (Nat.le_of_ble_eq_true rfl) dX3_advance_5 rfl ?_
  refine rs_aload_n (i := 0) C dX3_advance_8 rfl rfl rfl ?_
  refine rs_aload_n (i := 0) C dX3_advance_9 rfl rfl rfl ?_
  refine rg_X3_4 C kk_80 wl_X3_24 dX3_advance_10 rfl ?_
  refine rp_X3_3 C kk_80 wl_X3_43 dX3_advance_13 rfl h (fun S3 h => ?_)
  refine rs_aload_n (i := 0) C dX3_advance_16 rfl rfl rfl ?_
  refine rg_X3_4 C kk_80 wl_X3_24 dX3_advance_17 rfl ?_
  refine rs_aload_n (i := 0) C dX3_advance_20 rfl rfl rfl ?_
  refine rg_X3_1 C kk_80 wl_X3_15 dX3_advance_21 rfl ?_
  refine rs_jw (P := fun J => ∀ (x4 : Int32), J x4 = some o → rs_Xv G 2 p l e (rs_rm 3) s m args below meth c o S3 40 [(0, .ref (rs_ad G 80))] [.int x4]) h (fun x4 h => ?_) (fun J5 KJ5 h => ?_)
  · refine rs_istore_n (i := 1) C dX3_advance_40 rfl (by decide) rfl ?_
    refine rs_iload_n (i := 1) C dX3_advance_41 rfl rfl rfl ?_
    refine rs_if_ge (tgt := 53) C dX3_advance_42 (by decide) rfl (fun z6 => ?_) (fun z6 => ?_)
    · replace h := rs_it z6 h
      refine rs_iload_n (i := 1) C dX3_advance_53 rfl rfl rfl ?_
      refine rs_bipush (v := 97) C dX3_advance_54 (by decide) rfl ?_
      refine rs_icmp_lt (tgt := 81) C dX3_advance_56 (by decide) rfl (fun z7 => ?_) (fun z7 => ?_)
      · replace h := rs_it z7 h
        refine rs_iload_n (i := 1) C dX3_advance_81 rfl rfl rfl ?_
        refine rs_bipush (v := 48) C dX3_advance_82 (by decide) rfl ?_
        refine rs_icmp_lt (tgt := 127) C dX3_advance_84 (by decide) rfl (fun z8 => ?_) (fun z8 => ?_)
        · replace h := rs_it z8 h
          refine rs_iload_n (i := 1) C dX3_advance_127 rfl rfl rfl ?_
          refine rs_bipush (v := 59) C dX3_advance_128 (by decide) rfl ?_
          refine rs_icmp_ne (tgt := 151) C dX3_advance_130 (by decide) rfl (fun z9 => ?_) (fun z9 => ?_)
          · replace h := rs_if z9 h
            refine rs_aload_n (i := 0) C dX3_advance_151 rfl rfl rfl ?_
            refine rs_iconst (v := 1) C dX3_advance_152 (by decide) rfl ?_
            refine rp_X3_6 C kk_80 wl_X3_30 dX3_advance_153 rfl h (fun S10 h => ?_)
            exact rs_vret C hr hlk h dX3_advance_156
          · replace h := rs_it z9 h
            refine rs_aload_n (i := 0) C dX3_advance_133 rfl rfl rfl ?_
            refine rs_iconst (v := 2) C dX3_advance_134 (by decide) rfl ?_
            refine rp_X3_2 C kk_80 wl_X3_36 dX3_advance_135 rfl h (fun S11 h => ?_)
            refine rs_aload_n (i := 0) C dX3_advance_138 rfl rfl rfl ?_
            refine rs_dup C dX3_advance_139 rfl rfl ?_
            refine rg_X3_4 C kk_80 wl_X3_24 dX3_advance_140 rfl ?_
            refine rs_iconst (v := 1) C dX3_advance_143 (by decide) rfl ?_
            refine rs_iadd C dX3_advance_144 rfl ?_
            refine rp_X3_4 C kk_80 wl_X3_24 dX3_advance_145 rfl h (fun S12 h => ?_)
            refine rs_goto (tgt := 156) C dX3_advance_148 (by decide) ?_
            exact rs_vret C hr hlk h dX3_advance_156
        · replace h := rs_if z8 h
          refine rs_iload_n (i := 1) C dX3_advance_87 rfl rfl rfl ?_
          refine rs_bipush (v := 57) C dX3_advance_88 (by decide) rfl ?_
          refine rs_icmp_gt (tgt := 127) C dX3_advance_90 (by decide) rfl (fun z13 => ?_) (fun z13 => ?_)
          · replace h := rs_it z13 h
            refine rs_iload_n (i := 1) C dX3_advance_127 rfl rfl rfl ?_
            refine rs_bipush (v := 59) C dX3_advance_128 (by decide) rfl ?_
            refine rs_icmp_ne (tgt := 151) C dX3_advance_130 (by decide) rfl (fun z14 => ?_) (fun z14 => ?_)
            · replace h := rs_if z14 h
              refine rs_aload_n (i := 0) C dX3_advance_151 rfl rfl rfl ?_
              refine rs_iconst (v := 1) C dX3_advance_152 (by decide) rfl ?_
              refine rp_X3_6 C kk_80 wl_X3_30 dX3_advance_153 rfl h (fun S15 h => ?_)
              exact rs_vret C hr hlk h dX3_advance_156
            · replace h := rs_it z14 h
              refine rs_aload_n (i := 0) C dX3_advance_133 rfl rfl rfl ?_
              refine rs_iconst (v := 2) C dX3_advance_134 (by decide) rfl ?_
              refine rp_X3_2 C kk_80 wl_X3_36 dX3_advance_135 rfl h (fun S16 h => ?_)
              refine rs_aload_n (i := 0) C dX3_advance_138 rfl rfl rfl ?_
              refine rs_dup C dX3_advance_139 rfl rfl ?_
              refine rg_X3_4 C kk_80 wl_X3_24 dX3_advance_140 rfl ?_
              refine rs_iconst (v := 1) C dX3_advance_143 (by decide) rfl ?_
              refine rs_iadd C dX3_advance_144 rfl ?_
              refine rp_X3_4 C kk_80 wl_X3_24 dX3_advance_145 rfl h (fun S17 h => ?_)
              refine rs_goto (tgt := 156) C dX3_advance_148 (by decide) ?_
              exact rs_vret C hr hlk h dX3_advance_156
          · replace h := rs_if z13 h
            refine rs_aload_n (i := 0) C dX3_advance_93 rfl rfl rfl ?_
            refine rs_iconst (v := 1) C dX3_advance_94 (by decide) rfl ?_
            refine rp_X3_2 C kk_80 wl_X3_36 dX3_advance_95 rfl h (fun S18 h => ?_)
            refine rs_aload_n (i := 0) C dX3_advance_98 rfl rfl rfl ?_
            refine rs_bipush (v := 48) C dX3_advance_99 (by decide) rfl ?_
            refine rs_bipush (v := 57) C dX3_advance_101 (by decide) rfl ?_
            obtain ⟨S20, h19, h⟩ := rs_b1e h
            refine rs_callVv (S0 := S20) C (rs_kd_lt kk_80 (by decide)) (rs_e3 kk_80) rfl (c_X3_takeAll l G hG S18 48 57 _ h19) ⟨wl_X3_88, wi_yX3_takeAll, wx_yX3_takeAll, wn_X3, wc_yX3_takeAll⟩ wy_yX3_takeAll (by decide) ⟨rfl, rfl⟩ rfl rfl (Nat.le_of_ble_eq_true rfl) dX3_advance_103 rfl ?_
            refine rs_aload_n (i := 0) C dX3_advance_106 rfl rfl rfl ?_
            refine rg_X3_4 C kk_80 wl_X3_24 dX3_advance_107 rfl ?_
            refine rs_aload_n (i := 0) C dX3_advance_110 rfl rfl rfl ?_
            refine rg_X3_3 C kk_80 wl_X3_43 dX3_advance_111 rfl ?_
            refine rs_isub C dX3_advance_114 rfl ?_
            refine rs_iconst (v := 2) C dX3_advance_115 (by decide) rfl ?_
            refine rs_icmp_le (tgt := 156) C dX3_advance_116 (by decide) rfl (fun z21 => ?_) (fun z21 => ?_)
            · replace h := rs_it z21 h
              exact rs_vret C hr hlk h dX3_advance_156
            · replace h := rs_if z21 h
              refine rs_aload_n (i := 0) C dX3_advance_119 rfl rfl rfl ?_
              refine rs_iconst (v := 1) C dX3_advance_120 (by decide) rfl ?_
              refine rp_X3_6 C kk_80 wl_X3_30 dX3_advance_121 rfl h (fun S22 h => ?_)
              refine rs_goto (tgt := 156) C dX3_advance_124 (by decide) ?_
              exact rs_vret C hr hlk h dX3_advance_156
      · replace h := rs_if z7 h
        refine rs_iload_n (i := 1) C dX3_advance_59 rfl rfl rfl ?_
        refine rs_bipush (v := 122) C dX3_advance_60 (by decide) rfl ?_
        refine rs_icmp_gt (tgt := 81) C dX3_advance_62 (by decide) rfl (fun z23 => ?_) (fun z23 => ?_)
        · replace h := rs_it z23 h
          refine rs_iload_n (i := 1) C dX3_advance_81 rfl rfl rfl ?_
          refine rs_bipush (v := 48) C dX3_advance_82 (by decide) rfl ?_
          refine rs_icmp_lt (tgt := 127) C dX3_advance_84 (by decide) rfl (fun z24 => ?_) (fun z24 => ?_)
          · replace h := rs_it z24 h
            refine rs_iload_n (i := 1) C dX3_advance_127 rfl rfl rfl ?_
            refine rs_bipush (v := 59) C dX3_advance_128 (by decide) rfl ?_
            refine rs_icmp_ne (tgt := 151) C dX3_advance_130 (by decide) rfl (fun z25 => ?_) (fun z25 => ?_)
            · replace h := rs_if z25 h
              refine rs_aload_n (i := 0) C dX3_advance_151 rfl rfl rfl ?_
              refine rs_iconst (v := 1) C dX3_advance_152 (by decide) rfl ?_
              refine rp_X3_6 C kk_80 wl_X3_30 dX3_advance_153 rfl h (fun S26 h => ?_)
              exact rs_vret C hr hlk h dX3_advance_156
            · replace h := rs_it z25 h
              refine rs_aload_n (i := 0) C dX3_advance_133 rfl rfl rfl ?_
              refine rs_iconst (v := 2) C dX3_advance_134 (by decide) rfl ?_
              refine rp_X3_2 C kk_80 wl_X3_36 dX3_advance_135 rfl h (fun S27 h => ?_)
              refine rs_aload_n (i := 0) C dX3_advance_138 rfl rfl rfl ?_
              refine rs_dup C dX3_advance_139 rfl rfl ?_
              refine rg_X3_4 C kk_80 wl_X3_24 dX3_advance_140 rfl ?_
              refine rs_iconst (v := 1) C dX3_advance_143 (by decide) rfl ?_
              refine rs_iadd C dX3_advance_144 rfl ?_
              refine rp_X3_4 C kk_80 wl_X3_24 dX3_advance_145 rfl h (fun S28 h => ?_)
              refine rs_goto (tgt := 156) C dX3_advance_148 (by decide) ?_
              exact rs_vret C hr hlk h dX3_advance_156
          · replace h := rs_if z24 h
            refine rs_iload_n (i := 1) C dX3_advance_87 rfl rfl rfl ?_
            refine rs_bipush (v := 57) C dX3_advance_88 (by decide) rfl ?_
            refine rs_icmp_gt (tgt := 127) C dX3_advance_90 (by decide) rfl (fun z29 => ?_) (fun z29 => ?_)
            · replace h := rs_it z29 h
              refine rs_iload_n (i := 1) C dX3_advance_127 rfl rfl rfl ?_
              refine rs_bipush (v := 59) C dX3_advance_128 (by decide) rfl ?_
              refine rs_icmp_ne (tgt := 151) C dX3_advance_130 (by decide) rfl (fun z30 => ?_) (fun z30 => ?_)
              · replace h := rs_if z30 h
                refine rs_aload_n (i := 0) C dX3_advance_151 rfl rfl rfl ?_
                refine rs_iconst (v := 1) C dX3_advance_152 (by decide) rfl ?_
                refine rp_X3_6 C kk_80 wl_X3_30 dX3_advance_153 rfl h (fun S31 h => ?_)
                exact rs_vret C hr hlk h dX3_advance_156
              · replace h := rs_it z30 h
                refine rs_aload_n (i := 0) C dX3_advance_133 rfl rfl rfl ?_
                refine rs_iconst (v := 2) C dX3_advance_134 (by decide) rfl ?_
                refine rp_X3_2 C kk_80 wl_X3_36 dX3_advance_135 rfl h (fun S32 h => ?_)
                refine rs_aload_n (i := 0) C dX3_advance_138 rfl rfl rfl ?_
                refine rs_dup C dX3_advance_139 rfl rfl ?_
                refine rg_X3_4 C kk_80 wl_X3_24 dX3_advance_140 rfl ?_
                refine rs_iconst (v := 1) C dX3_advance_143 (by decide) rfl ?_
                refine rs_iadd C dX3_advance_144 rfl ?_
                refine rp_X3_4 C kk_80 wl_X3_24 dX3_advance_145 rfl h (fun S33 h => ?_)
                refine rs_goto (tgt := 156) C dX3_advance_148 (by decide) ?_
                exact rs_vret C hr hlk h dX3_advance_156
            · replace h := rs_if z29 h
              refine rs_aload_n (i := 0) C dX3_advance_93 rfl rfl rfl ?_
              refine rs_iconst (v := 1) C dX3_advance_94 (by decide) rfl ?_
              refine rp_X3_2 C kk_80 wl_X3_36 dX3_advance_95 rfl h (fun S34 h => ?_)
              refine rs_aload_n (i := 0) C dX3_advance_98 rfl rfl rfl ?_
              refine rs_bipush (v := 48) C dX3_advance_99 (by decide) rfl ?_
              refine rs_bipush (v := 57) C dX3_advance_101 (by decide) rfl ?_
              obtain ⟨S36, h35, h⟩ := rs_b1e h
              refine rs_callVv (S0 := S36) C (rs_kd_lt kk_80 (by decide)) (rs_e3 kk_80) rfl (c_X3_takeAll l G hG S34 48 57 _ h35) ⟨wl_X3_88, wi_yX3_takeAll, wx_yX3_takeAll, wn_X3, wc_yX3_takeAll⟩ wy_yX3_takeAll (by decide) ⟨rfl, rfl⟩ rfl rfl (Nat.le_of_ble_eq_true rfl) dX3_advance_103 rfl ?_
              refine rs_aload_n (i := 0) C dX3_advance_106 rfl rfl rfl ?_
              refine rg_X3_4 C kk_80 wl_X3_24 dX3_advance_107 rfl ?_
              refine rs_aload_n (i := 0) C dX3_advance_110 rfl rfl rfl ?_
              refine rg_X3_3 C kk_80 wl_X3_43 dX3_advance_111 rfl ?_
              refine rs_isub C dX3_advance_114 rfl ?_
              refine rs_iconst (v := 2) C dX3_advance_115 (by decide) rfl ?_
              refine rs_icmp_le (tgt := 156) C dX3_advance_116 (by decide) rfl (fun z37 => ?_) (fun z37 => ?_)
              · replace h := rs_it z37 h
                exact rs_vret C hr hlk h dX3_advance_156
              · replace h := rs_if z37 h
                refine rs_aload_n (i := 0) C dX3_advance_119 rfl rfl rfl ?_
                refine rs_iconst (v := 1) C dX3_advance_120 (by decide) rfl ?_
                refine rp_X3_6 C kk_80 wl_X3_30 dX3_advance_121 rfl h (fun S38 h => ?_)
                refine rs_goto (tgt := 156) C dX3_advance_124 (by decide) ?_
                exact rs_vret C hr hlk h dX3_advance_156
        · replace h := rs_if z23 h
          refine rs_aload_n (i := 0) C dX3_advance_65 rfl rfl rfl ?_
          refine rs_iconst (v := 0) C dX3_advance_66 (by decide) rfl ?_
          refine rp_X3_2 C kk_80 wl_X3_36 dX3_advance_67 rfl h (fun S39 h => ?_)
          refine rs_aload_n (i := 0) C dX3_advance_70 rfl rfl rfl ?_
          refine rs_bipush (v := 97) C dX3_advance_71 (by decide) rfl ?_
          refine rs_bipush (v := 122) C dX3_advance_73 (by decide) rfl ?_
          obtain ⟨S41, h40, h⟩ := rs_b1e h
          refine rs_callVv (S0 := S41) C (rs_kd_lt kk_80 (by decide)) (rs_e3 kk_80) rfl (c_X3_takeAll l G hG S39 97 122 _ h40) ⟨wl_X3_88, wi_yX3_takeAll, wx_yX3_takeAll, wn_X3, wc_yX3_takeAll⟩ wy_yX3_takeAll (by decide) ⟨rfl, rfl⟩ rfl rfl (Nat.le_of_ble_eq_true rfl) dX3_advance_75 rfl ?_
          refine rs_goto (tgt := 156) C dX3_advance_78 (by decide) ?_
          exact rs_vret C hr hlk h dX3_advance_156
    · replace h := rs_if z6 h
      refine rs_aload_n (i := 0) C dX3_advance_45 rfl rfl rfl ?_
      refine rs_iconst (v := 3) C dX3_advance_46 (by decide) rfl ?_
      refine rp_X3_2 C kk_80 wl_X3_36 dX3_advance_47 rfl h (fun S42 h => ?_)
      refine rs_goto (tgt := 156) C dX3_advance_50 (by decide) ?_
      exact rs_vret C hr hlk h dX3_advance_156
  · refine rs_icmp_ge (tgt := 39) C dX3_advance_24 (by decide) rfl (fun z43 => ?_) (fun z43 => ?_)
    · replace h := rs_it z43 h
      refine rs_iconst (v := (-1)) C dX3_advance_39 (by decide) rfl ?_
      exact rs_subk (KJ5 _ h) (rs_ac rfl rs_a0)
    · replace h := rs_if z43 h
      refine rs_aload_n (i := 0) C dX3_advance_27 rfl rfl rfl ?_
      refine rg_X3_0 C kk_80 wl_X3_9 dX3_advance_28 rfl ?_
      refine rs_aload_n (i := 0) C dX3_advance_31 rfl rfl rfl ?_
      refine rg_X3_4 C kk_80 wl_X3_24 dX3_advance_32 rfl ?_
      obtain ⟨z44, h⟩ := rs_ck h
      refine rs_baldn C kk_81 ll_81 z44 dX3_advance_35 rfl ?_
      refine rs_goto (tgt := 40) C dX3_advance_36 (by decide) ?_
      exact rs_subk (KJ5 _ h) (rs_ac rfl rs_a0)
def xf_X3_nameOf (S : rs_St) (a1 : Int32) : Option (Option Nat) := if a1 = 0 then some (some 0) else if a1 = 1 then some (some 1) else if a1 = 2 then some (some 2) else if a1 = 3 then some (some 3) else if a1 = 4 then some (some 4) else if a1 = 5 then some (some 5) else if a1 = 6 then some (some 6) else some (some 7)
set_option maxRecDepth 100000 in
theorem c_X3_nameOf (l : Launch) (G : rs_G) (hG : rs_ok G) (S : rs_St) (a1 : Int32)  (o : (Option Nat)) (h : xf_X3_nameOf S a1 = some o) : Met l yX3_nameOf (rs_wz yX3_nameOf cX3_nameOf 1 (some (FieldType.object "java/lang/String"))) (rs_rm 2) (va_Pc [.int a1] (rs_pre G S)) (va_Qq (fun r S2 => (r, S2) = (o.map ((fun i => rs_tb G (5 + i))), S)) (rs_post G) (rs_A G)) 0 0 (rs_A G) := by
  refine rs_met hG (by decide) (Nat.le_of_ble_eq_true rfl) ?_
  intro p e s m args below meth c C hr hlk
  rw [xf_X3_nameOf] at h
  refine rs_iload_n (i := 0) C dX3_nameOf_0 rfl rfl rfl ?_
  by_cases z2 : a1 = 0
  · replace h := rs_it z2 h
    refine rs_tabIn (tgt := 44) C (43) dX3_nameOf_1 0 z2 (by decide) (by decide) rfl (by decide) ?_
    refine rs_ldcS C 0 (by decide) rfl (by decide) dX3_nameOf_44 rfl ?_
    exact rs_aret (v := (some 0)) (mp := fun i => rs_tb G (5 + i)) C hr (Or.inl ⟨_, rfl⟩) hlk (rs_pr h) dX3_nameOf_46
  · replace h := rs_if z2 h
    by_cases z3 : a1 = 1
    · replace h := rs_it z3 h
      refine rs_tabIn (tgt := 47) C (46) dX3_nameOf_1 1 z3 (by decide) (by decide) rfl (by decide) ?_
      refine rs_ldcS C 1 (by decide) rfl (by decide) dX3_nameOf_47 rfl ?_
      exact rs_aret (v := (some 1)) (mp := fun i => rs_tb G (5 + i)) C hr (Or.inl ⟨_, rfl⟩) hlk (rs_pr h) dX3_nameOf_49
    · replace h := rs_if z3 h
      by_cases z4 : a1 = 2
      · replace h := rs_it z4 h
        refine rs_tabIn (tgt := 50) C (49) dX3_nameOf_1 2 z4 (by decide) (by decide) rfl (by decide) ?_
        refine rs_ldcS C 2 (by decide) rfl (by decide) dX3_nameOf_50 rfl ?_
        exact rs_aret (v := (some 2)) (mp := fun i => rs_tb G (5 + i)) C hr (Or.inl ⟨_, rfl⟩) hlk (rs_pr h) dX3_nameOf_52
      · replace h := rs_if z4 h
        by_cases z5 : a1 = 3
        · replace h := rs_it z5 h
          refine rs_tabIn (tgt := 53) C (52) dX3_nameOf_1 3 z5 (by decide) (by decide) rfl (by decide) ?_
          refine rs_ldcS C 3 (by decide) rfl (by decide) dX3_nameOf_53 rfl ?_
          exact rs_aret (v := (some 3)) (mp := fun i => rs_tb G (5 + i)) C hr (Or.inl ⟨_, rfl⟩) hlk (rs_pr h) dX3_nameOf_55
        · replace h := rs_if z5 h
          by_cases z6 : a1 = 4
          · replace h := rs_it z6 h
            refine rs_tabIn (tgt := 56) C (55) dX3_nameOf_1 4 z6 (by decide) (by decide) rfl (by decide) ?_
            refine rs_ldcS C 4 (by decide) rfl (by decide) dX3_nameOf_56 rfl ?_
            exact rs_aret (v := (some 4)) (mp := fun i => rs_tb G (5 + i)) C hr (Or.inl ⟨_, rfl⟩) hlk (rs_pr h) dX3_nameOf_58
          · replace h := rs_if z6 h
            by_cases z7 : a1 = 5
            · replace h := rs_it z7 h
              refine rs_tabIn (tgt := 59) C (58) dX3_nameOf_1 5 z7 (by decide) (by decide) rfl (by decide) ?_
              refine rs_ldcS C 5 (by decide) rfl (by decide) dX3_nameOf_59 rfl ?_
              exact rs_aret (v := (some 5)) (mp := fun i => rs_tb G (5 + i)) C hr (Or.inl ⟨_, rfl⟩) hlk (rs_pr h) dX3_nameOf_61
            · replace h := rs_if z7 h
              by_cases z8 : a1 = 6
              · replace h := rs_it z8 h
                refine rs_tabIn (tgt := 62) C (61) dX3_nameOf_1 6 z8 (by decide) (by decide) rfl (by decide) ?_
                refine rs_ldcS C 6 (by decide) rfl (by decide) dX3_nameOf_62 rfl ?_
                exact rs_aret (v := (some 6)) (mp := fun i => rs_tb G (5 + i)) C hr (Or.inl ⟨_, rfl⟩) hlk (rs_pr h) dX3_nameOf_64
              · replace h := rs_if z8 h
                refine rs_tabOut (tgt := 65) C dX3_nameOf_1 (by have e0 := rs_nev z2 (0) (by decide); have e1 := rs_nev z3 (1) (by decide); have e2 := rs_nev z4 (2) (by decide); have e3 := rs_nev z5 (3) (by decide); have e4 := rs_nev z6 (4) (by decide); have e5 := rs_nev z7 (5) (by decide); have e6 := rs_nev z8 (6) (by decide); omega) (by decide) ?_
                refine rs_ldcS C 7 (by decide) rfl (by decide) dX3_nameOf_65 rfl ?_
                exact rs_aret (v := (some 7)) (mp := fun i => rs_tb G (5 + i)) C hr (Or.inl ⟨_, rfl⟩) hlk (rs_pr h) dX3_nameOf_67
def xf_X3_isCalled_l20 (S : rs_St) (a1 : Nat) (K20 : Int32 → Option Int32) : Nat → Int32 → Option Int32
  | 0, _ => none
  | n20 + 1, x4 => rs_b1 (xf_J0_length_8abf5 S a1) (fun r6 => if r6 ≤ x4 then K20 x4 else if ((rs_gi S 80 3) + x4) < 0 ∨ 160 ≤ ((rs_gi S 80 3) + x4).toNatClampNeg then none else rs_b1 (xf_J0_charAt_5068e S a1 x4) (fun r10 => if (rs_gi S 81 ((rs_gi S 80 3) + x4).toNatClampNeg) = r10 then rs_lt (x4 + 1) (fun x12 => xf_X3_isCalled_l20 S a1 K20 n20 x12) else some 0))
def xf_X3_isCalled (S : rs_St) (a1 : Nat) : Option Int32 := rs_b1 (xf_J0_length_8abf5 S a1) (fun r2 => if r2 = ((rs_gi S 80 4) - (rs_gi S 80 3)) then xf_X3_isCalled_l20 S a1 (fun (x13 : Int32) => some 1) rs_fu 0 else some 0)
set_option maxRecDepth 100000 in
theorem c_X3_isCalled (l : Launch) (G : rs_G) (hG : rs_ok G) (S : rs_St) (a1 : Nat) (hk1 : a1 < 8) (o : Int32) (h : xf_X3_isCalled S a1 = some o) : Met l yX3_isCalled (rs_wz yX3_isCalled cX3_isCalled 3 (some FieldType.boolean)) (rs_rm 6) (va_Pc [.ref (rs_ad G 80), .ref (rs_tb G (5 + a1))] (rs_pre G S)) (va_Qi (fun r S2 => (r, S2) = (o, S)) (rs_post G) (rs_A G)) 0 0 (rs_A G) := by
  refine rs_met hG (by decide) (Nat.le_of_ble_eq_true rfl) ?_
  intro p e s m args below meth c C hr hlk
  rw [xf_X3_isCalled] at h
  refine rs_aload_n (i := 1) C dX3_isCalled_0 rfl rfl rfl ?_
  obtain ⟨r2, h1, h⟩ := rs_b1e h
  refine rs_callVs (r0 := r2) (S0 := S) C hk1 (c_J0_length_8abf5 l G hG S a1 hk1 _ h1) ⟨wl_X3_100, wi_yJ0_length_8abf5, wx_yJ0_length_8abf5, wn_J0, wc_yJ0_length_8abf5⟩ wy_yJ0_length_8abf5 (by decide) ⟨rfl, rfl⟩ rfl rfl (Nat.le_of_ble_eq_true rfl) dX3_isCalled_1 rfl ?_
  refine rs_aload_n (i := 0) C dX3_isCalled_4 rfl rfl rfl ?_
  refine rg_X3_4 C kk_80 wl_X3_24 dX3_isCalled_5 rfl ?_
  refine rs_aload_n (i := 0) C dX3_isCalled_8 rfl rfl rfl ?_
  refine rg_X3_3 C kk_80 wl_X3_43 dX3_isCalled_9 rfl ?_
  refine rs_isub C dX3_isCalled_12 rfl ?_
  refine rs_icmp_eq (tgt := 18) C dX3_isCalled_13 (by decide) rfl (fun z3 => ?_) (fun z3 => ?_)
  · replace h := rs_it z3 h
    refine rs_iconst (v := 0) C dX3_isCalled_18 (by decide) rfl ?_
    refine rs_istore_n (i := 2) C dX3_isCalled_19 rfl (by decide) rfl ?_
    refine rs_kw (F := fun K => xf_X3_isCalled_l20 S a1 K rs_fu 0) (P := fun K => ∀ (x13 : Int32), K x13 = some o → rs_Xi G 3 p l e (rs_rm 6) s m args below meth c (o, S) S 55 [(0, .ref (rs_ad G 80)), (1, .ref (rs_tb G (5 + a1))), (2, .int x13)] []) h (fun x13 h => ?_) (fun K20 hK20 h => ?_)
    · refine rs_iconst (v := 1) C dX3_isCalled_55 (by decide) rfl ?_
      exact rs_zret C hr hlk (Or.inr rfl) (rs_pr h) dX3_isCalled_56
    · have L20 : ∀ (n20 : Nat) (x4 : Int32), xf_X3_isCalled_l20 S a1 K20 n20 x4 = some o → rs_Xi G 3 p l e (rs_rm 6) s m args below meth c (o, S) S 20 [(0, .ref (rs_ad G 80)), (1, .ref (rs_tb G (5 + a1))), (2, .int x4)] [] := by
        intro n20
        induction n20 with
        | zero => intro x4 h; exact (rs_no h).elim
        | succ n20 ih20 =>
          intro x4 h
          rw [xf_X3_isCalled_l20] at h
          refine rs_iload_n (i := 2) C dX3_isCalled_20 rfl rfl rfl ?_
          refine rs_aload_n (i := 1) C dX3_isCalled_21 rfl rfl rfl ?_
          obtain ⟨r6, h5, h⟩ := rs_b1e h
          refine rs_callVs (r0 := r6) (S0 := S) C hk1 (c_J0_length_8abf5 l G hG S a1 hk1 _ h5) ⟨wl_X3_100, wi_yJ0_length_8abf5, wx_yJ0_length_8abf5, wn_J0, wc_yJ0_length_8abf5⟩ wy_yJ0_length_8abf5 (by decide) ⟨rfl, rfl⟩ rfl rfl (Nat.le_of_ble_eq_true rfl) dX3_isCalled_22 rfl ?_
          refine rs_icmp_ge (tgt := 55) C dX3_isCalled_25 (by decide) rfl (fun z7 => ?_) (fun z7 => ?_)
          · replace h := rs_it z7 h
            exact rs_subk (hK20 _ h) (rs_ac rfl (rs_ac rfl (rs_ac rfl rs_a0)))
          · replace h := rs_if z7 h
            refine rs_aload_n (i := 0) C dX3_isCalled_28 rfl rfl rfl ?_
            refine rg_X3_0 C kk_80 wl_X3_9 dX3_isCalled_29 rfl ?_
            refine rs_aload_n (i := 0) C dX3_isCalled_32 rfl rfl rfl ?_
            refine rg_X3_3 C kk_80 wl_X3_43 dX3_isCalled_33 rfl ?_
            refine rs_iload_n (i := 2) C dX3_isCalled_36 rfl rfl rfl ?_
            refine rs_iadd C dX3_isCalled_37 rfl ?_
            obtain ⟨z8, h⟩ := rs_ck h
            refine rs_baldn C kk_81 ll_81 z8 dX3_isCalled_38 rfl ?_
            refine rs_aload_n (i := 1) C dX3_isCalled_39 rfl rfl rfl ?_
            refine rs_iload_n (i := 2) C dX3_isCalled_40 rfl rfl rfl ?_
            obtain ⟨r10, h9, h⟩ := rs_b1e h
            refine rs_callVs (r0 := r10) (S0 := S) C hk1 (c_J0_charAt_5068e l G hG S a1 x4 hk1 _ h9) ⟨wl_X3_104, wi_yJ0_charAt_5068e, wx_yJ0_charAt_5068e, wn_J0, wc_yJ0_charAt_5068e⟩ wy_yJ0_charAt_5068e (by decide) ⟨rfl, rfl⟩ rfl rfl (Nat.le_of_ble_eq_true rfl) dX3_isCalled_41 rfl ?_
            refine rs_icmp_eq (tgt := 49) C dX3_isCalled_44 (by decide) rfl (fun z11 => ?_) (fun z11 => ?_)
            · replace h := rs_it z11 h
              refine rs_iincn (v := 1) C dX3_isCalled_49 rfl (by decide) (by decide) rfl h (fun x12 h => ?_)
              refine rs_goto (tgt := 20) C dX3_isCalled_52 (by decide) ?_
              exact rs_subk (ih20 _ h) (rs_ac rfl (rs_ac rfl (rs_ac rfl rs_a0)))
            · replace h := rs_if z11 h
              refine rs_iconst (v := 0) C dX3_isCalled_47 (by decide) rfl ?_
              exact rs_zret C hr hlk (Or.inl rfl) (rs_pr h) dX3_isCalled_48
      exact rs_subk (L20 rs_fu _ h) (rs_ac rfl (rs_ac rfl (rs_ac rfl rs_a0)))
  · replace h := rs_if z3 h
    refine rs_iconst (v := 0) C dX3_isCalled_16 (by decide) rfl ?_
    exact rs_zret C hr hlk (Or.inl rfl) (rs_pr h) dX3_isCalled_17
def xf_X3_lineBegun_l11 (S : rs_St) (K11 : Int32 → Option Int32) : Nat → Int32 → Option Int32
  | 0, _ => none
  | n11 + 1, x2 => if 8 ≤ x2 then K11 x2 else rs_b1 (xf_X3_nameOf S x2) (fun r5 => rs_om r5 none (fun q6 => if q6 < 8 then rs_b1 (xf_X3_isCalled S q6) (fun r9 => if r9 = 0 then rs_lt (x2 + 1) (fun x11 => xf_X3_lineBegun_l11 S K11 n11 x11) else some x2) else none))
def xf_X3_lineBegun (S : rs_St) : Option Int32 := if (rs_gi S 80 2) = 0 then xf_X3_lineBegun_l11 S (fun (x12 : Int32) => some (-1)) rs_fu 0 else some (-1)
set_option maxRecDepth 100000 in
theorem c_X3_lineBegun (l : Launch) (G : rs_G) (hG : rs_ok G) (S : rs_St)  (o : Int32) (h : xf_X3_lineBegun S = some o) : Met l yX3_lineBegun (rs_wz yX3_lineBegun cX3_lineBegun 2 (some FieldType.int)) (rs_rm 7) (va_Pc [.ref (rs_ad G 80)] (rs_pre G S)) (va_Qi (fun r S2 => (r, S2) = (o, S)) (rs_post G) (rs_A G)) 0 0 (rs_A G) := by
  refine rs_met hG (by decide) (Nat.le_of_ble_eq_true rfl) ?_
  intro p e s m args below meth c C hr hlk
  rw [xf_X3_lineBegun] at h
  refine rs_aload_n (i := 0) C dX3_lineBegun_0 rfl rfl rfl ?_
  refine rg_X3_2 C kk_80 wl_X3_36 dX3_lineBegun_1 rfl ?_
  refine rs_if_eq (tgt := 9) C dX3_lineBegun_4 (by decide) rfl (fun z1 => ?_) (fun z1 => ?_)
  · replace h := rs_it z1 h
    refine rs_iconst (v := 0) C dX3_lineBegun_9 (by decide) rfl ?_
    refine rs_istore_n (i := 1) C dX3_lineBegun_10 rfl (by decide) rfl ?_
    refine rs_kw (F := fun K => xf_X3_lineBegun_l11 S K rs_fu 0) (P := fun K => ∀ (x12 : Int32), K x12 = some o → rs_Xi G 2 p l e (rs_rm 7) s m args below meth c (o, S) S 36 [(0, .ref (rs_ad G 80)), (1, .int x12)] []) h (fun x12 h => ?_) (fun K11 hK11 h => ?_)
    · refine rs_iconst (v := (-1)) C dX3_lineBegun_36 (by decide) rfl ?_
      exact rs_iret C hr hlk (rs_pr h) dX3_lineBegun_37
    · have L11 : ∀ (n11 : Nat) (x2 : Int32), xf_X3_lineBegun_l11 S K11 n11 x2 = some o → rs_Xi G 2 p l e (rs_rm 7) s m args below meth c (o, S) S 11 [(0, .ref (rs_ad G 80)), (1, .int x2)] [] := by
        intro n11
        induction n11 with
        | zero => intro x2 h; exact (rs_no h).elim
        | succ n11 ih11 =>
          intro x2 h
          rw [xf_X3_lineBegun_l11] at h
          refine rs_iload_n (i := 1) C dX3_lineBegun_11 rfl rfl rfl ?_
          refine rs_bipush (v := 8) C dX3_lineBegun_12 (by decide) rfl ?_
          refine rs_icmp_ge (tgt := 36) C dX3_lineBegun_14 (by decide) rfl (fun z3 => ?_) (fun z3 => ?_)
          · replace h := rs_it z3 h
            exact rs_subk (hK11 _ h) (rs_ac rfl (rs_ac rfl rs_a0))
          · replace h := rs_if z3 h
            refine rs_aload_n (i := 0) C dX3_lineBegun_17 rfl rfl rfl ?_
            refine rs_iload_n (i := 1) C dX3_lineBegun_18 rfl rfl rfl ?_
            obtain ⟨r5, h4, h⟩ := rs_b1e h
            refine rs_callSq (r0 := r5) (mp := (fun i => rs_tb G (5 + i))) (S0 := S) C (c_X3_nameOf l G hG S x2 _ h4) ⟨wl_X3_92, ws_yX3_nameOf, wn_X3, wc_yX3_nameOf⟩ wy_yX3_nameOf (by decide) ⟨rfl, rfl⟩ rfl rfl (Nat.le_of_ble_eq_true rfl) dX3_lineBegun_19 rfl ?_
            cases r5 with
            | none => exact (rs_no (rs_omn h)).elim
            | some q6 =>
              replace h := rs_oms h
              obtain ⟨z7, h⟩ := rs_ckp h
              obtain ⟨r9, h8, h⟩ := rs_b1e h
              refine rs_callVi (r0 := r9) (S0 := S) C (rs_kd_lt kk_80 (by decide)) (rs_e3 kk_80) rfl (c_X3_isCalled l G hG S q6 z7 _ h8) ⟨wl_X3_96, wi_yX3_isCalled, wx_yX3_isCalled, wn_X3, wc_yX3_isCalled⟩ wy_yX3_isCalled (by decide) ⟨rfl, rfl⟩ rfl rfl (Nat.le_of_ble_eq_true rfl) dX3_lineBegun_22 rfl ?_
              refine rs_if_eq (tgt := 30) C dX3_lineBegun_25 (by decide) rfl (fun z10 => ?_) (fun z10 => ?_)
              · replace h := rs_it z10 h
                refine rs_iincn (v := 1) C dX3_lineBegun_30 rfl (by decide) (by decide) rfl h (fun x11 h => ?_)
                refine rs_goto (tgt := 11) C dX3_lineBegun_33 (by decide) ?_
                exact rs_subk (ih11 _ h) (rs_ac rfl (rs_ac rfl rs_a0))
              · replace h := rs_if z10 h
                refine rs_iload_n (i := 1) C dX3_lineBegun_28 rfl rfl rfl ?_
                exact rs_iret C hr hlk (rs_pr h) dX3_lineBegun_29
      exact rs_subk (L11 rs_fu _ h) (rs_ac rfl (rs_ac rfl rs_a0))
  · replace h := rs_if z1 h
    refine rs_iconst (v := (-1)) C dX3_lineBegun_7 (by decide) rfl ?_
    exact rs_iret C hr hlk (rs_pr h) dX3_lineBegun_8
def xf_X3_readNumber_l48 (S3 : rs_St) (K48 : Int32 → Int32 → Option (Int32 × rs_St)) : Nat → Int32 → Int32 → Option (Int32 × rs_St)
  | 0, _, _ => none
  | n48 + 1, x7, x8 => if (rs_gi S3 80 4) ≤ x8 then K48 x7 x8 else if x8 < 0 ∨ 160 ≤ x8.toNatClampNeg then none else rs_lt (((10 * x7) + (rs_gi S3 81 x8.toNatClampNeg)) - 48) (fun x11 => rs_lt (x8 + 1) (fun x12 => xf_X3_readNumber_l48 S3 K48 n48 x11 x12))
def xf_X3_readNumber (S : rs_St) (a1 : Int32) (a2 : Int32) : Option (Int32 × rs_St) := rs_jn (fun (S1 : rs_St) => rs_jn (fun (S3 : rs_St) => if (rs_gi S3 80 6) = 0 then rs_lt (rs_gi S3 80 3) (fun x6 => xf_X3_readNumber_l48 S3 (fun (x13 : Int32) (x14 : Int32) => rs_b1 (xf_X4_outside S3 x13 a1 a2) (fun r16 => if r16 = 0 then some (x13, S3) else rs_lt (rs_si S3 80 6 3) (fun S18 => some (x13, S18)))) rs_fu 0 x6) else some (0, S3)) (fun J4 => if (rs_gi S1 80 6) = 0 then if (rs_gi S1 80 2) = 1 then J4 S1 else rs_lt (rs_si S1 80 6 2) (fun S21 => J4 S21) else J4 S1)) (fun J2 => if (rs_gi S 80 6) = 0 then rs_b1 (xf_X3_advance S) (fun S24 => J2 S24) else J2 S)
set_option maxRecDepth 100000 in
theorem c_X3_readNumber (l : Launch) (G : rs_G) (hG : rs_ok G) (S : rs_St) (a1 : Int32) (a2 : Int32)  (o : (Int32 × rs_St)) (h : xf_X3_readNumber S a1 a2 = some o) : Met l yX3_readNumber (rs_wz yX3_readNumber cX3_readNumber 5 (some FieldType.int)) (rs_rm 4) (va_Pc [.ref (rs_ad G 80), .int a1, .int a2] (rs_pre G S)) (va_Qi (fun r S2 => (r, S2) = o) (rs_post G) (rs_A G)) 0 0 (rs_A G) := by
  refine rs_met hG (by decide) (Nat.le_of_ble_eq_true rfl) ?_
  intro p e s m args below meth c C hr hlk
  rw [xf_X3_readNumber] at h
  refine rs_aload_n (i := 0) C dX3_readNumber_0 rfl rfl rfl ?_
  refine rg_X3_6 C kk_80 wl_X3_30 dX3_readNumber_1 rfl ?_
  refine rs_jw (P := fun J => ∀ (S1 : rs_St), J S1 = some o → rs_Xi G 5 p l e (rs_rm 4) s m args below meth c o S1 11 [(0, .ref (rs_ad G 80)), (1, .int a1), (2, .int a2)] []) h (fun S1 h => ?_) (fun J2 KJ2 h => ?_)
  · refine rs_aload_n (i := 0) C dX3_readNumber_11 rfl rfl rfl ?_
    refine rg_X3_6 C kk_80 wl_X3_30 dX3_readNumber_12 rfl ?_
    refine rs_jw (P := fun J => ∀ (S3 : rs_St), J S3 = some o → rs_Xi G 5 p l e (rs_rm 4) s m args below meth c o S3 31 [(0, .ref (rs_ad G 80)), (1, .int a1), (2, .int a2)] []) h (fun S3 h => ?_) (fun J4 KJ4 h => ?_)
    · refine rs_aload_n (i := 0) C dX3_readNumber_31 rfl rfl rfl ?_
      refine rg_X3_6 C kk_80 wl_X3_30 dX3_readNumber_32 rfl ?_
      refine rs_if_eq (tgt := 40) C dX3_readNumber_35 (by decide) rfl (fun z5 => ?_) (fun z5 => ?_)
      · replace h := rs_it z5 h
        refine rs_iconst (v := 0) C dX3_readNumber_40 (by decide) rfl ?_
        refine rs_istore_n (i := 3) C dX3_readNumber_41 rfl (by decide) rfl ?_
        refine rs_aload_n (i := 0) C dX3_readNumber_42 rfl rfl rfl ?_
        refine rg_X3_3 C kk_80 wl_X3_43 dX3_readNumber_43 rfl ?_
        refine rs_nmi h (fun x6 h => ?_)
        refine rs_istore C dX3_readNumber_46 (by decide) rfl ?_
        refine rs_kw (F := fun K => xf_X3_readNumber_l48 S3 K rs_fu 0 x6) (P := fun K => ∀ (x13 : Int32) (x14 : Int32), K x13 x14 = some o → rs_Xi G 5 p l e (rs_rm 4) s m args below meth c o S3 79 [(0, .ref (rs_ad G 80)), (1, .int a1), (2, .int a2), (3, .int x13), (4, .int x14)] []) h (fun x13 x14 h => ?_) (fun K48 hK48 h => ?_)
        · refine rs_iload_n (i := 3) C dX3_readNumber_79 rfl rfl rfl ?_
          refine rs_iload_n (i := 1) C dX3_readNumber_80 rfl rfl rfl ?_
          refine rs_iload_n (i := 2) C dX3_readNumber_81 rfl rfl rfl ?_
          obtain ⟨r16, h15, h⟩ := rs_b1e h
          refine rs_callNi (r0 := r16) (S0 := S3) C (c_X4_outside l G hG S3 x13 a1 a2 _ h15) ⟨(by decide +kernel), ws_yX4_outside, wn_X4, wc_yX4_outside⟩ wy_yX4_outside (by decide) ⟨rfl, rfl⟩ rfl rfl (Nat.le_of_ble_eq_true rfl) dX3_readNumber_82 rfl ?_
          refine rs_if_eq (tgt := 93) C dX3_readNumber_85 (by decide) rfl (fun z17 => ?_) (fun z17 => ?_)
          · replace h := rs_it z17 h
            refine rs_iload_n (i := 3) C dX3_readNumber_93 rfl rfl rfl ?_
            exact rs_iret C hr hlk h dX3_readNumber_94
          · replace h := rs_if z17 h
            refine rs_aload_n (i := 0) C dX3_readNumber_88 rfl rfl rfl ?_
            refine rs_iconst (v := 3) C dX3_readNumber_89 (by decide) rfl ?_
            refine rp_X3_6 C kk_80 wl_X3_30 dX3_readNumber_90 rfl h (fun S18 h => ?_)
            refine rs_iload_n (i := 3) C dX3_readNumber_93 rfl rfl rfl ?_
            exact rs_iret C hr hlk h dX3_readNumber_94
        · have L48 : ∀ (n48 : Nat) (x7 : Int32) (x8 : Int32), xf_X3_readNumber_l48 S3 K48 n48 x7 x8 = some o → rs_Xi G 5 p l e (rs_rm 4) s m args below meth c o S3 48 [(0, .ref (rs_ad G 80)), (1, .int a1), (2, .int a2), (3, .int x7), (4, .int x8)] [] := by
            intro n48
            induction n48 with
            | zero => intro x7 x8 h; exact (rs_no h).elim
            | succ n48 ih48 =>
              intro x7 x8 h
              rw [xf_X3_readNumber_l48] at h
              refine rs_iload C dX3_readNumber_48 rfl rfl ?_
              refine rs_aload_n (i := 0) C dX3_readNumber_50 rfl rfl rfl ?_
              refine rg_X3_4 C kk_80 wl_X3_24 dX3_readNumber_51 rfl ?_
              refine rs_icmp_ge (tgt := 79) C dX3_readNumber_54 (by decide) rfl (fun z9 => ?_) (fun z9 => ?_)
              · replace h := rs_it z9 h
                exact rs_subk (hK48 _ _ h) (rs_ac rfl (rs_ac rfl (rs_ac rfl (rs_ac rfl (rs_ac rfl rs_a0)))))
              · replace h := rs_if z9 h
                refine rs_bipush (v := 10) C dX3_readNumber_57 (by decide) rfl ?_
                refine rs_iload_n (i := 3) C dX3_readNumber_59 rfl rfl rfl ?_
                refine rs_imul C dX3_readNumber_60 rfl ?_
                refine rs_aload_n (i := 0) C dX3_readNumber_61 rfl rfl rfl ?_
                refine rg_X3_0 C kk_80 wl_X3_9 dX3_readNumber_62 rfl ?_
                refine rs_iload C dX3_readNumber_65 rfl rfl ?_
                obtain ⟨z10, h⟩ := rs_ck h
                refine rs_baldn C kk_81 ll_81 z10 dX3_readNumber_67 rfl ?_
                refine rs_iadd C dX3_readNumber_68 rfl ?_
                refine rs_bipush (v := 48) C dX3_readNumber_69 (by decide) rfl ?_
                refine rs_isub C dX3_readNumber_71 rfl ?_
                refine rs_nmi h (fun x11 h => ?_)
                refine rs_istore_n (i := 3) C dX3_readNumber_72 rfl (by decide) rfl ?_
                refine rs_iincn (v := 1) C dX3_readNumber_73 rfl (by decide) (by decide) rfl h (fun x12 h => ?_)
                refine rs_goto (tgt := 48) C dX3_readNumber_76 (by decide) ?_
                exact rs_subk (ih48 _ _ h) (rs_ac rfl (rs_ac rfl (rs_ac rfl (rs_ac rfl (rs_ac rfl rs_a0)))))
          exact rs_subk (L48 rs_fu _ _ h) (rs_ac rfl (rs_ac rfl (rs_ac rfl (rs_ac rfl (rs_ac rfl rs_a0)))))
      · replace h := rs_if z5 h
        refine rs_iconst (v := 0) C dX3_readNumber_38 (by decide) rfl ?_
        exact rs_iret C hr hlk h dX3_readNumber_39
    · refine rs_if_ne (tgt := 31) C dX3_readNumber_15 (by decide) rfl (fun z19 => ?_) (fun z19 => ?_)
      · replace h := rs_if z19 h
        exact rs_subk (KJ4 _ h) (rs_ac rfl (rs_ac rfl (rs_ac rfl rs_a0)))
      · replace h := rs_it z19 h
        refine rs_aload_n (i := 0) C dX3_readNumber_18 rfl rfl rfl ?_
        refine rg_X3_2 C kk_80 wl_X3_36 dX3_readNumber_19 rfl ?_
        refine rs_iconst (v := 1) C dX3_readNumber_22 (by decide) rfl ?_
        refine rs_icmp_eq (tgt := 31) C dX3_readNumber_23 (by decide) rfl (fun z20 => ?_) (fun z20 => ?_)
        · replace h := rs_it z20 h
          exact rs_subk (KJ4 _ h) (rs_ac rfl (rs_ac rfl (rs_ac rfl rs_a0)))
        · replace h := rs_if z20 h
          refine rs_aload_n (i := 0) C dX3_readNumber_26 rfl rfl rfl ?_
          refine rs_iconst (v := 2) C dX3_readNumber_27 (by decide) rfl ?_
          refine rp_X3_6 C kk_80 wl_X3_30 dX3_readNumber_28 rfl h (fun S21 h => ?_)
          exact rs_subk (KJ4 _ h) (rs_ac rfl (rs_ac rfl (rs_ac rfl rs_a0)))
  · refine rs_if_ne (tgt := 11) C dX3_readNumber_4 (by decide) rfl (fun z22 => ?_) (fun z22 => ?_)
    · replace h := rs_if z22 h
      exact rs_subk (KJ2 _ h) (rs_ac rfl (rs_ac rfl (rs_ac rfl rs_a0)))
    · replace h := rs_it z22 h
      refine rs_aload_n (i := 0) C dX3_readNumber_7 rfl rfl rfl ?_
      obtain ⟨S24, h23, h⟩ := rs_b1e h
      refine rs_callVv (S0 := S24) C (rs_kd_lt kk_80 (by decide)) (rs_e3 kk_80) rfl (c_X3_advance l G hG S _ h23) ⟨wl_X3_33, wi_yX3_advance, wx_yX3_advance, wn_X3, wc_yX3_advance⟩ wy_yX3_advance (by decide) ⟨rfl, rfl⟩ rfl rfl (Nat.le_of_ble_eq_true rfl) dX3_readNumber_8 rfl ?_
      exact rs_subk (KJ2 _ h) (rs_ac rfl (rs_ac rfl (rs_ac rfl rs_a0)))
def xf_X3_readLamp (S : rs_St) (a1 : Nat) (a2 : Int32) : Option rs_St := if (rs_gi S a1 1) < 4 then rs_b2 (xf_X3_readNumber S (rs_sv 0 1) (rs_sv 1 1)) (fun r4 S3 => rs_b2 (xf_X3_readNumber S3 (rs_sv 0 2) (rs_sv 1 2)) (fun r7 S6 => rs_b2 (xf_X3_readNumber S6 (rs_sv 0 3) (rs_sv 1 3)) (fun r10 S9 => if (rs_gi S9 80 6) = 0 then rs_b2 (xf_X1_addLamp S9 a1 a2 r4 r7 r10) (fun r14 S13 => some S13) else some S9))) else rs_lt (rs_si S 80 6 5) (fun S15 => some S15)
set_option maxRecDepth 100000 in
theorem c_X3_readLamp (l : Launch) (G : rs_G) (hG : rs_ok G) (S : rs_St) (a1 : Nat) (a2 : Int32) (hk1 : rs_kd a1 = 1) (o : rs_St) (h : xf_X3_readLamp S a1 a2 = some o) : Met l yX3_readLamp (rs_wz yX3_readLamp cX3_readLamp 6 none) (rs_rm 6) (va_Pc [.ref (rs_ad G 80), .ref (rs_ad G a1), .int a2] (rs_pre G S)) (va_Qv (fun S2 => S2 = o) (rs_post G) (rs_A G)) 0 0 (rs_A G) := by
  refine rs_met hG (by decide) (Nat.le_of_ble_eq_true rfl) ?_
  intro p e s m args below meth c C hr hlk
  rw [xf_X3_readLamp] at h
  refine rs_aload_n (i := 1) C dX3_readLamp_0 rfl rfl rfl ?_
  refine rg_X1_1 C hk1 wl_X3_57 dX3_readLamp_1 rfl ?_
  refine rs_iconst (v := 4) C dX3_readLamp_4 (by decide) rfl ?_
  refine rs_icmp_lt (tgt := 14) C dX3_readLamp_5 (by decide) rfl (fun z1 => ?_) (fun z1 => ?_)
  · replace h := rs_it z1 h
    refine rs_aload_n (i := 0) C dX3_readLamp_14 rfl rfl rfl ?_
    refine rs_getsN C 0 (by decide) (by decide +kernel) dX3_readLamp_15 rfl ?_
    refine rs_iconst (v := 1) C dX3_readLamp_18 (by decide) rfl ?_
    refine rs_saldc C 0 (by decide) 1 (by decide) (by decide) dX3_readLamp_19 rfl ?_
    refine rs_getsN C 1 (by decide) (by decide +kernel) dX3_readLamp_20 rfl ?_
    refine rs_iconst (v := 1) C dX3_readLamp_23 (by decide) rfl ?_
    refine rs_saldc C 1 (by decide) 1 (by decide) (by decide) dX3_readLamp_24 rfl ?_
    obtain ⟨r4, S3, h2, h⟩ := rs_b2e h
    refine rs_callVi (r0 := r4) (S0 := S3) C (rs_kd_lt kk_80 (by decide)) (rs_e3 kk_80) rfl (c_X3_readNumber l G hG S (rs_sv 0 1) (rs_sv 1 1) _ h2) ⟨wl_X3_67, wi_yX3_readNumber, wx_yX3_readNumber, wn_X3, wc_yX3_readNumber⟩ wy_yX3_readNumber (by decide) ⟨rfl, rfl⟩ rfl rfl (Nat.le_of_ble_eq_true rfl) dX3_readLamp_25 rfl ?_
    refine rs_istore_n (i := 3) C dX3_readLamp_28 rfl (by decide) rfl ?_
    refine rs_aload_n (i := 0) C dX3_readLamp_29 rfl rfl rfl ?_
    refine rs_getsN C 0 (by decide) (by decide +kernel) dX3_readLamp_30 rfl ?_
    refine rs_iconst (v := 2) C dX3_readLamp_33 (by decide) rfl ?_
    refine rs_saldc C 0 (by decide) 2 (by decide) (by decide) dX3_readLamp_34 rfl ?_
    refine rs_getsN C 1 (by decide) (by decide +kernel) dX3_readLamp_35 rfl ?_
    refine rs_iconst (v := 2) C dX3_readLamp_38 (by decide) rfl ?_
    refine rs_saldc C 1 (by decide) 2 (by decide) (by decide) dX3_readLamp_39 rfl ?_
    obtain ⟨r7, S6, h5, h⟩ := rs_b2e h
    refine rs_callVi (r0 := r7) (S0 := S6) C (rs_kd_lt kk_80 (by decide)) (rs_e3 kk_80) rfl (c_X3_readNumber l G hG S3 (rs_sv 0 2) (rs_sv 1 2) _ h5) ⟨wl_X3_67, wi_yX3_readNumber, wx_yX3_readNumber, wn_X3, wc_yX3_readNumber⟩ wy_yX3_readNumber (by decide) ⟨rfl, rfl⟩ rfl rfl (Nat.le_of_ble_eq_true rfl) dX3_readLamp_40 rfl ?_
    refine rs_istore C dX3_readLamp_43 (by decide) rfl ?_
    refine rs_aload_n (i := 0) C dX3_readLamp_45 rfl rfl rfl ?_
    refine rs_getsN C 0 (by decide) (by decide +kernel) dX3_readLamp_46 rfl ?_
    refine rs_iconst (v := 3) C dX3_readLamp_49 (by decide) rfl ?_
    refine rs_saldc C 0 (by decide) 3 (by decide) (by decide) dX3_readLamp_50 rfl ?_
    refine rs_getsN C 1 (by decide) (by decide +kernel) dX3_readLamp_51 rfl ?_
    refine rs_iconst (v := 3) C dX3_readLamp_54 (by decide) rfl ?_
    refine rs_saldc C 1 (by decide) 3 (by decide) (by decide) dX3_readLamp_55 rfl ?_
    obtain ⟨r10, S9, h8, h⟩ := rs_b2e h
    refine rs_callVi (r0 := r10) (S0 := S9) C (rs_kd_lt kk_80 (by decide)) (rs_e3 kk_80) rfl (c_X3_readNumber l G hG S6 (rs_sv 0 3) (rs_sv 1 3) _ h8) ⟨wl_X3_67, wi_yX3_readNumber, wx_yX3_readNumber, wn_X3, wc_yX3_readNumber⟩ wy_yX3_readNumber (by decide) ⟨rfl, rfl⟩ rfl rfl (Nat.le_of_ble_eq_true rfl) dX3_readLamp_56 rfl ?_
    refine rs_istore C dX3_readLamp_59 (by decide) rfl ?_
    refine rs_aload_n (i := 0) C dX3_readLamp_61 rfl rfl rfl ?_
    refine rg_X3_6 C kk_80 wl_X3_30 dX3_readLamp_62 rfl ?_
    refine rs_if_ne (tgt := 79) C dX3_readLamp_65 (by decide) rfl (fun z11 => ?_) (fun z11 => ?_)
    · replace h := rs_if z11 h
      exact rs_vret C hr hlk h dX3_readLamp_79
    · replace h := rs_it z11 h
      refine rs_aload_n (i := 1) C dX3_readLamp_68 rfl rfl rfl ?_
      refine rs_iload_n (i := 2) C dX3_readLamp_69 rfl rfl rfl ?_
      refine rs_iload_n (i := 3) C dX3_readLamp_70 rfl rfl rfl ?_
      refine rs_iload C dX3_readLamp_71 rfl rfl ?_
      refine rs_iload C dX3_readLamp_73 rfl rfl ?_
      obtain ⟨r14, S13, h12, h⟩ := rs_b2e h
      refine rs_callVi (r0 := r14) (S0 := S13) C (rs_kd_lt hk1 (by decide)) (rs_e1 hk1) rfl (c_X1_addLamp l G hG S9 a1 a2 r4 r7 r10 hk1 _ h12) ⟨wl_X3_71, wi_yX1_addLamp, wx_yX1_addLamp, wn_X1, wc_yX1_addLamp⟩ wy_yX1_addLamp (by decide) ⟨rfl, rfl⟩ rfl rfl (Nat.le_of_ble_eq_true rfl) dX3_readLamp_75 rfl ?_
      refine rs_pop C dX3_readLamp_78 rfl rfl ?_
      exact rs_vret C hr hlk h dX3_readLamp_79
  · replace h := rs_if z1 h
    refine rs_aload_n (i := 0) C dX3_readLamp_8 rfl rfl rfl ?_
    refine rs_iconst (v := 5) C dX3_readLamp_9 (by decide) rfl ?_
    refine rp_X3_6 C kk_80 wl_X3_30 dX3_readLamp_10 rfl h (fun S15 h => ?_)
    exact rs_vret C hr hlk h dX3_readLamp_13
def xf_X3_readRule (S : rs_St) (a1 : Nat) (a2 : Int32) : Option rs_St := if (((rs_gi S 80 5) >>> (a2 &&& 31)) &&& 1) = 1 then rs_lt (rs_si S 80 6 4) (fun S11 => some S11) else rs_lt (rs_si S 80 5 ((rs_gi S 80 5) ||| (1 <<< (a2 &&& 31)))) (fun S2 => if a2 < 0 ∨ 4 ≤ a2.toNatClampNeg then none else if a2 < 0 ∨ 4 ≤ a2.toNatClampNeg then none else rs_b2 (xf_X3_readNumber S2 (rs_sv 2 a2.toNatClampNeg) (rs_sv 3 a2.toNatClampNeg)) (fun r7 S6 => if (rs_gi S6 80 6) = 0 then if a2 < 0 ∨ 4 ≤ a2.toNatClampNeg then none else rs_lt (rs_si S6 (a1 + 2) a2.toNatClampNeg r7) (fun S9 => some S9) else some S6))
set_option maxRecDepth 100000 in
theorem c_X3_readRule (l : Launch) (G : rs_G) (hG : rs_ok G) (S : rs_St) (a1 : Nat) (a2 : Int32) (hk1 : rs_kd a1 = 1) (o : rs_St) (h : xf_X3_readRule S a1 a2 = some o) : Met l yX3_readRule (rs_wz yX3_readRule cX3_readRule 4 none) (rs_rm 5) (va_Pc [.ref (rs_ad G 80), .ref (rs_ad G a1), .int a2] (rs_pre G S)) (va_Qv (fun S2 => S2 = o) (rs_post G) (rs_A G)) 0 0 (rs_A G) := by
  refine rs_met hG (by decide) (Nat.le_of_ble_eq_true rfl) ?_
  intro p e s m args below meth c C hr hlk
  rw [xf_X3_readRule] at h
  refine rs_aload_n (i := 0) C dX3_readRule_0 rfl rfl rfl ?_
  refine rg_X3_5 C kk_80 wl_X3_27 dX3_readRule_1 rfl ?_
  refine rs_iload_n (i := 2) C dX3_readRule_4 rfl rfl rfl ?_
  refine rs_ishr C dX3_readRule_5 rfl ?_
  refine rs_iconst (v := 1) C dX3_readRule_6 (by decide) rfl ?_
  refine rs_iand C dX3_readRule_7 rfl ?_
  refine rs_iconst (v := 1) C dX3_readRule_8 (by decide) rfl ?_
  refine rs_icmp_ne (tgt := 18) C dX3_readRule_9 (by decide) rfl (fun z1 => ?_) (fun z1 => ?_)
  · replace h := rs_if z1 h
    refine rs_aload_n (i := 0) C dX3_readRule_18 rfl rfl rfl ?_
    refine rs_dup C dX3_readRule_19 rfl rfl ?_
    refine rg_X3_5 C kk_80 wl_X3_27 dX3_readRule_20 rfl ?_
    refine rs_iconst (v := 1) C dX3_readRule_23 (by decide) rfl ?_
    refine rs_iload_n (i := 2) C dX3_readRule_24 rfl rfl rfl ?_
    refine rs_ishl C dX3_readRule_25 rfl ?_
    refine rs_ior C dX3_readRule_26 rfl ?_
    refine rp_X3_5 C kk_80 wl_X3_27 dX3_readRule_27 rfl h (fun S2 h => ?_)
    refine rs_aload_n (i := 0) C dX3_readRule_30 rfl rfl rfl ?_
    refine rs_getsN C 2 (by decide) (by decide +kernel) dX3_readRule_31 rfl ?_
    refine rs_iload_n (i := 2) C dX3_readRule_34 rfl rfl rfl ?_
    obtain ⟨z3, h⟩ := rs_ck h
    refine rs_sald C 2 (by decide) z3 dX3_readRule_35 rfl ?_
    refine rs_getsN C 3 (by decide) (by decide +kernel) dX3_readRule_36 rfl ?_
    refine rs_iload_n (i := 2) C dX3_readRule_39 rfl rfl rfl ?_
    obtain ⟨z4, h⟩ := rs_ck h
    refine rs_sald C 3 (by decide) z4 dX3_readRule_40 rfl ?_
    obtain ⟨r7, S6, h5, h⟩ := rs_b2e h
    refine rs_callVi (r0 := r7) (S0 := S6) C (rs_kd_lt kk_80 (by decide)) (rs_e3 kk_80) rfl (c_X3_readNumber l G hG S2 (rs_sv 2 a2.toNatClampNeg) (rs_sv 3 a2.toNatClampNeg) _ h5) ⟨wl_X3_67, wi_yX3_readNumber, wx_yX3_readNumber, wn_X3, wc_yX3_readNumber⟩ wy_yX3_readNumber (by decide) ⟨rfl, rfl⟩ rfl rfl (Nat.le_of_ble_eq_true rfl) dX3_readRule_41 rfl ?_
    refine rs_istore_n (i := 3) C dX3_readRule_44 rfl (by decide) rfl ?_
    refine rs_aload_n (i := 0) C dX3_readRule_45 rfl rfl rfl ?_
    refine rg_X3_6 C kk_80 wl_X3_30 dX3_readRule_46 rfl ?_
    refine rs_if_ne (tgt := 59) C dX3_readRule_49 (by decide) rfl (fun z8 => ?_) (fun z8 => ?_)
    · replace h := rs_if z8 h
      exact rs_vret C hr hlk h dX3_readRule_59
    · replace h := rs_it z8 h
      refine rs_aload_n (i := 1) C dX3_readRule_52 rfl rfl rfl ?_
      refine rg_X1_2 C hk1 wl_X3_81 dX3_readRule_53 rfl ?_
      refine rs_iload_n (i := 2) C dX3_readRule_56 rfl rfl rfl ?_
      refine rs_iload_n (i := 3) C dX3_readRule_57 rfl rfl rfl ?_
      obtain ⟨z10, h⟩ := rs_ck h
      refine rs_iastn C (rs_k1b hk1) (rs_l1b hk1) z10 dX3_readRule_58 rfl h (fun S9 h => ?_)
      exact rs_vret C hr hlk h dX3_readRule_59
  · replace h := rs_it z1 h
    refine rs_aload_n (i := 0) C dX3_readRule_12 rfl rfl rfl ?_
    refine rs_iconst (v := 4) C dX3_readRule_13 (by decide) rfl ?_
    refine rp_X3_6 C kk_80 wl_X3_30 dX3_readRule_14 rfl h (fun S11 h => ?_)
    exact rs_vret C hr hlk h dX3_readRule_17
def xf_X3_readLine (S : rs_St) (a1 : Nat) : Option rs_St := rs_b1 (xf_X3_lineBegun S) (fun r2 => rs_jn (fun (S3 : rs_St) => rs_jn (fun (S5 : rs_St) => if (rs_gi S5 80 6) = 0 then if (rs_gi S5 80 2) = 2 then some S5 else rs_lt (rs_si S5 80 6 2) (fun S9 => some S9) else some S5) (fun J6 => if (rs_gi S3 80 6) = 0 then rs_b1 (xf_X3_advance S3) (fun S12 => J6 S12) else J6 S3)) (fun J4 => if 0 ≤ r2 then if 4 ≤ r2 then rs_b1 (xf_X3_readRule S a1 (r2 - 4)) (fun S16 => J4 S16) else rs_b1 (xf_X3_readLamp S a1 r2) (fun S18 => J4 S18) else rs_lt (rs_si S 80 6 2) (fun S19 => J4 S19)))
set_option maxRecDepth 100000 in
theorem c_X3_readLine (l : Launch) (G : rs_G) (hG : rs_ok G) (S : rs_St) (a1 : Nat) (hk1 : rs_kd a1 = 1) (o : rs_St) (h : xf_X3_readLine S a1 = some o) : Met l yX3_readLine (rs_wz yX3_readLine cX3_readLine 3 none) (rs_rm 8) (va_Pc [.ref (rs_ad G 80), .ref (rs_ad G a1)] (rs_pre G S)) (va_Qv (fun S2 => S2 = o) (rs_post G) (rs_A G)) 0 0 (rs_A G) := by
  refine rs_met hG (by decide) (Nat.le_of_ble_eq_true rfl) ?_
  intro p e s m args below meth c C hr hlk
  rw [xf_X3_readLine] at h
  refine rs_aload_n (i := 0) C dX3_readLine_0 rfl rfl rfl ?_
  obtain ⟨r2, h1, h⟩ := rs_b1e h
  refine rs_callVi (r0 := r2) (S0 := S) C (rs_kd_lt kk_80 (by decide)) (rs_e3 kk_80) rfl (c_X3_lineBegun l G hG S _ h1) ⟨wl_X3_46, wi_yX3_lineBegun, wx_yX3_lineBegun, wn_X3, wc_yX3_lineBegun⟩ wy_yX3_lineBegun (by decide) ⟨rfl, rfl⟩ rfl rfl (Nat.le_of_ble_eq_true rfl) dX3_readLine_1 rfl ?_
  refine rs_istore_n (i := 2) C dX3_readLine_4 rfl (by decide) rfl ?_
  refine rs_iload_n (i := 2) C dX3_readLine_5 rfl rfl rfl ?_
  refine rs_jw (P := fun J => ∀ (S3 : rs_St), J S3 = some o → rs_Xv G 3 p l e (rs_rm 8) s m args below meth c o S3 39 [(0, .ref (rs_ad G 80)), (1, .ref (rs_ad G a1)), (2, .int r2)] []) h (fun S3 h => ?_) (fun J4 KJ4 h => ?_)
  · refine rs_aload_n (i := 0) C dX3_readLine_39 rfl rfl rfl ?_
    refine rg_X3_6 C kk_80 wl_X3_30 dX3_readLine_40 rfl ?_
    refine rs_jw (P := fun J => ∀ (S5 : rs_St), J S5 = some o → rs_Xv G 3 p l e (rs_rm 8) s m args below meth c o S5 50 [(0, .ref (rs_ad G 80)), (1, .ref (rs_ad G a1)), (2, .int r2)] []) h (fun S5 h => ?_) (fun J6 KJ6 h => ?_)
    · refine rs_aload_n (i := 0) C dX3_readLine_50 rfl rfl rfl ?_
      refine rg_X3_6 C kk_80 wl_X3_30 dX3_readLine_51 rfl ?_
      refine rs_if_ne (tgt := 70) C dX3_readLine_54 (by decide) rfl (fun z7 => ?_) (fun z7 => ?_)
      · replace h := rs_if z7 h
        exact rs_vret C hr hlk h dX3_readLine_70
      · replace h := rs_it z7 h
        refine rs_aload_n (i := 0) C dX3_readLine_57 rfl rfl rfl ?_
        refine rg_X3_2 C kk_80 wl_X3_36 dX3_readLine_58 rfl ?_
        refine rs_iconst (v := 2) C dX3_readLine_61 (by decide) rfl ?_
        refine rs_icmp_eq (tgt := 70) C dX3_readLine_62 (by decide) rfl (fun z8 => ?_) (fun z8 => ?_)
        · replace h := rs_it z8 h
          exact rs_vret C hr hlk h dX3_readLine_70
        · replace h := rs_if z8 h
          refine rs_aload_n (i := 0) C dX3_readLine_65 rfl rfl rfl ?_
          refine rs_iconst (v := 2) C dX3_readLine_66 (by decide) rfl ?_
          refine rp_X3_6 C kk_80 wl_X3_30 dX3_readLine_67 rfl h (fun S9 h => ?_)
          exact rs_vret C hr hlk h dX3_readLine_70
    · refine rs_if_ne (tgt := 50) C dX3_readLine_43 (by decide) rfl (fun z10 => ?_) (fun z10 => ?_)
      · replace h := rs_if z10 h
        exact rs_subk (KJ6 _ h) (rs_ac rfl (rs_ac rfl (rs_ac rfl rs_a0)))
      · replace h := rs_it z10 h
        refine rs_aload_n (i := 0) C dX3_readLine_46 rfl rfl rfl ?_
        obtain ⟨S12, h11, h⟩ := rs_b1e h
        refine rs_callVv (S0 := S12) C (rs_kd_lt kk_80 (by decide)) (rs_e3 kk_80) rfl (c_X3_advance l G hG S3 _ h11) ⟨wl_X3_33, wi_yX3_advance, wx_yX3_advance, wn_X3, wc_yX3_advance⟩ wy_yX3_advance (by decide) ⟨rfl, rfl⟩ rfl rfl (Nat.le_of_ble_eq_true rfl) dX3_readLine_47 rfl ?_
        exact rs_subk (KJ6 _ h) (rs_ac rfl (rs_ac rfl (rs_ac rfl rs_a0)))
  · refine rs_if_ge (tgt := 17) C dX3_readLine_6 (by decide) rfl (fun z13 => ?_) (fun z13 => ?_)
    · replace h := rs_it z13 h
      refine rs_iload_n (i := 2) C dX3_readLine_17 rfl rfl rfl ?_
      refine rs_iconst (v := 4) C dX3_readLine_18 (by decide) rfl ?_
      refine rs_icmp_ge (tgt := 31) C dX3_readLine_19 (by decide) rfl (fun z14 => ?_) (fun z14 => ?_)
      · replace h := rs_it z14 h
        refine rs_aload_n (i := 0) C dX3_readLine_31 rfl rfl rfl ?_
        refine rs_aload_n (i := 1) C dX3_readLine_32 rfl rfl rfl ?_
        refine rs_iload_n (i := 2) C dX3_readLine_33 rfl rfl rfl ?_
        refine rs_iconst (v := 4) C dX3_readLine_34 (by decide) rfl ?_
        refine rs_isub C dX3_readLine_35 rfl ?_
        obtain ⟨S16, h15, h⟩ := rs_b1e h
        refine rs_callVv (S0 := S16) C (rs_kd_lt kk_80 (by decide)) (rs_e3 kk_80) rfl (c_X3_readRule l G hG S a1 (r2 - 4) hk1 _ h15) ⟨wl_X3_54, wi_yX3_readRule, wx_yX3_readRule, wn_X3, wc_yX3_readRule⟩ wy_yX3_readRule (by decide) ⟨rfl, rfl⟩ rfl rfl (Nat.le_of_ble_eq_true rfl) dX3_readLine_36 rfl ?_
        exact rs_subk (KJ4 _ h) (rs_ac rfl (rs_ac rfl (rs_ac rfl rs_a0)))
      · replace h := rs_if z14 h
        refine rs_aload_n (i := 0) C dX3_readLine_22 rfl rfl rfl ?_
        refine rs_aload_n (i := 1) C dX3_readLine_23 rfl rfl rfl ?_
        refine rs_iload_n (i := 2) C dX3_readLine_24 rfl rfl rfl ?_
        obtain ⟨S18, h17, h⟩ := rs_b1e h
        refine rs_callVv (S0 := S18) C (rs_kd_lt kk_80 (by decide)) (rs_e3 kk_80) rfl (c_X3_readLamp l G hG S a1 r2 hk1 _ h17) ⟨wl_X3_50, wi_yX3_readLamp, wx_yX3_readLamp, wn_X3, wc_yX3_readLamp⟩ wy_yX3_readLamp (by decide) ⟨rfl, rfl⟩ rfl rfl (Nat.le_of_ble_eq_true rfl) dX3_readLine_25 rfl ?_
        refine rs_goto (tgt := 39) C dX3_readLine_28 (by decide) ?_
        exact rs_subk (KJ4 _ h) (rs_ac rfl (rs_ac rfl (rs_ac rfl rs_a0)))
    · replace h := rs_if z13 h
      refine rs_aload_n (i := 0) C dX3_readLine_9 rfl rfl rfl ?_
      refine rs_iconst (v := 2) C dX3_readLine_10 (by decide) rfl ?_
      refine rp_X3_6 C kk_80 wl_X3_30 dX3_readLine_11 rfl h (fun S19 h => ?_)
      refine rs_goto (tgt := 39) C dX3_readLine_14 (by decide) ?_
      exact rs_subk (KJ4 _ h) (rs_ac rfl (rs_ac rfl (rs_ac rfl rs_a0)))
def xf_X3_readInto_l25 (a1 : Nat) (K25 : rs_St → Int32 → Option (Int32 × rs_St)) : Nat → rs_St → Int32 → Option (Int32 × rs_St)
  | 0, _, _ => none
  | n25 + 1, S8, x9 => if 160 ≤ x9 then K25 S8 x9 else if (rs_gi S8 80 6) = 0 then if (rs_gi S8 80 2) = 3 then K25 S8 x9 else rs_b1 (xf_X3_readLine S8 a1) (fun S14 => rs_jn (fun (S15 : rs_St) => rs_lt (x9 + 1) (fun x17 => xf_X3_readInto_l25 a1 K25 n25 S15 x17)) (fun J16 => if (rs_gi S14 80 6) = 0 then rs_b1 (xf_X3_advance S14) (fun S20 => J16 S20) else J16 S14)) else K25 S8 x9
def xf_X3_readInto (S : rs_St) (a1 : Nat) : Option (Int32 × rs_St) := rs_b1 (xf_X1_clear S a1) (fun S2 => rs_lt (rs_si S2 80 4 0) (fun S3 => rs_lt (rs_si S3 80 5 0) (fun S4 => rs_lt (rs_si S4 80 6 0) (fun S5 => rs_b1 (xf_X3_advance S5) (fun S7 => xf_X3_readInto_l25 a1 (fun (S21 : rs_St) (x22 : Int32) => if (rs_gi S21 80 6) = 0 then some (x22, S21) else some (((-10) - (rs_gi S21 80 3)), S21)) rs_fu S7 0)))))
set_option maxRecDepth 100000 in
theorem c_X3_readInto (l : Launch) (G : rs_G) (hG : rs_ok G) (S : rs_St) (a1 : Nat) (hk1 : rs_kd a1 = 1) (o : (Int32 × rs_St)) (h : xf_X3_readInto S a1 = some o) : Met l yX3_readInto (rs_wz yX3_readInto cX3_readInto 3 (some FieldType.int)) (rs_rm 9) (va_Pc [.ref (rs_ad G 80), .ref (rs_ad G a1)] (rs_pre G S)) (va_Qi (fun r S2 => (r, S2) = o) (rs_post G) (rs_A G)) 0 0 (rs_A G) := by
  refine rs_met hG (by decide) (Nat.le_of_ble_eq_true rfl) ?_
  intro p e s m args below meth c C hr hlk
  rw [xf_X3_readInto] at h
  refine rs_aload_n (i := 1) C dX3_readInto_0 rfl rfl rfl ?_
  obtain ⟨S2, h1, h⟩ := rs_b1e h
  refine rs_callVv (S0 := S2) C (rs_kd_lt hk1 (by decide)) (rs_e1 hk1) rfl (c_X1_clear l G hG S a1 hk1 _ h1) ⟨wl_X3_19, wi_yX1_clear, wx_yX1_clear, wn_X1, wc_yX1_clear⟩ wy_yX1_clear (by decide) ⟨rfl, rfl⟩ rfl rfl (Nat.le_of_ble_eq_true rfl) dX3_readInto_1 rfl ?_
  refine rs_aload_n (i := 0) C dX3_readInto_4 rfl rfl rfl ?_
  refine rs_iconst (v := 0) C dX3_readInto_5 (by decide) rfl ?_
  refine rp_X3_4 C kk_80 wl_X3_24 dX3_readInto_6 rfl h (fun S3 h => ?_)
  refine rs_aload_n (i := 0) C dX3_readInto_9 rfl rfl rfl ?_
  refine rs_iconst (v := 0) C dX3_readInto_10 (by decide) rfl ?_
  refine rp_X3_5 C kk_80 wl_X3_27 dX3_readInto_11 rfl h (fun S4 h => ?_)
  refine rs_aload_n (i := 0) C dX3_readInto_14 rfl rfl rfl ?_
  refine rs_iconst (v := 0) C dX3_readInto_15 (by decide) rfl ?_
  refine rp_X3_6 C kk_80 wl_X3_30 dX3_readInto_16 rfl h (fun S5 h => ?_)
  refine rs_aload_n (i := 0) C dX3_readInto_19 rfl rfl rfl ?_
  obtain ⟨S7, h6, h⟩ := rs_b1e h
  refine rs_callVv (S0 := S7) C (rs_kd_lt kk_80 (by decide)) (rs_e3 kk_80) rfl (c_X3_advance l G hG S5 _ h6) ⟨wl_X3_33, wi_yX3_advance, wx_yX3_advance, wn_X3, wc_yX3_advance⟩ wy_yX3_advance (by decide) ⟨rfl, rfl⟩ rfl rfl (Nat.le_of_ble_eq_true rfl) dX3_readInto_20 rfl ?_
  refine rs_iconst (v := 0) C dX3_readInto_23 (by decide) rfl ?_
  refine rs_istore_n (i := 2) C dX3_readInto_24 rfl (by decide) rfl ?_
  refine rs_kw (F := fun K => xf_X3_readInto_l25 a1 K rs_fu S7 0) (P := fun K => ∀ (S21 : rs_St) (x22 : Int32), K S21 x22 = some o → rs_Xi G 3 p l e (rs_rm 9) s m args below meth c o S21 69 [(0, .ref (rs_ad G 80)), (1, .ref (rs_ad G a1)), (2, .int x22)] []) h (fun S21 x22 h => ?_) (fun K25 hK25 h => ?_)
  · refine rs_aload_n (i := 0) C dX3_readInto_69 rfl rfl rfl ?_
    refine rg_X3_6 C kk_80 wl_X3_30 dX3_readInto_70 rfl ?_
    refine rs_if_ne (tgt := 80) C dX3_readInto_73 (by decide) rfl (fun z23 => ?_) (fun z23 => ?_)
    · replace h := rs_if z23 h
      refine rs_bipush (v := (-10)) C dX3_readInto_80 (by decide) rfl ?_
      refine rs_aload_n (i := 0) C dX3_readInto_82 rfl rfl rfl ?_
      refine rg_X3_3 C kk_80 wl_X3_43 dX3_readInto_83 rfl ?_
      refine rs_isub C dX3_readInto_86 rfl ?_
      exact rs_iret C hr hlk h dX3_readInto_87
    · replace h := rs_it z23 h
      refine rs_iload_n (i := 2) C dX3_readInto_76 rfl rfl rfl ?_
      refine rs_goto (tgt := 87) C dX3_readInto_77 (by decide) ?_
      exact rs_iret C hr hlk h dX3_readInto_87
  · have L25 : ∀ (n25 : Nat) (S8 : rs_St) (x9 : Int32), xf_X3_readInto_l25 a1 K25 n25 S8 x9 = some o → rs_Xi G 3 p l e (rs_rm 9) s m args below meth c o S8 25 [(0, .ref (rs_ad G 80)), (1, .ref (rs_ad G a1)), (2, .int x9)] [] := by
      intro n25
      induction n25 with
      | zero => intro S8 x9 h; exact (rs_no h).elim
      | succ n25 ih25 =>
        intro S8 x9 h
        rw [xf_X3_readInto_l25] at h
        refine rs_iload_n (i := 2) C dX3_readInto_25 rfl rfl rfl ?_
        refine rs_sipush (v := 160) C dX3_readInto_26 (by decide) rfl ?_
        refine rs_icmp_ge (tgt := 69) C dX3_readInto_29 (by decide) rfl (fun z10 => ?_) (fun z10 => ?_)
        · replace h := rs_it z10 h
          exact rs_subk (hK25 _ _ h) (rs_ac rfl (rs_ac rfl (rs_ac rfl rs_a0)))
        · replace h := rs_if z10 h
          refine rs_aload_n (i := 0) C dX3_readInto_32 rfl rfl rfl ?_
          refine rg_X3_6 C kk_80 wl_X3_30 dX3_readInto_33 rfl ?_
          refine rs_if_ne (tgt := 69) C dX3_readInto_36 (by decide) rfl (fun z11 => ?_) (fun z11 => ?_)
          · replace h := rs_if z11 h
            exact rs_subk (hK25 _ _ h) (rs_ac rfl (rs_ac rfl (rs_ac rfl rs_a0)))
          · replace h := rs_it z11 h
            refine rs_aload_n (i := 0) C dX3_readInto_39 rfl rfl rfl ?_
            refine rg_X3_2 C kk_80 wl_X3_36 dX3_readInto_40 rfl ?_
            refine rs_iconst (v := 3) C dX3_readInto_43 (by decide) rfl ?_
            refine rs_icmp_eq (tgt := 69) C dX3_readInto_44 (by decide) rfl (fun z12 => ?_) (fun z12 => ?_)
            · replace h := rs_it z12 h
              exact rs_subk (hK25 _ _ h) (rs_ac rfl (rs_ac rfl (rs_ac rfl rs_a0)))
            · replace h := rs_if z12 h
              refine rs_aload_n (i := 0) C dX3_readInto_47 rfl rfl rfl ?_
              refine rs_aload_n (i := 1) C dX3_readInto_48 rfl rfl rfl ?_
              obtain ⟨S14, h13, h⟩ := rs_b1e h
              refine rs_callVv (S0 := S14) C (rs_kd_lt kk_80 (by decide)) (rs_e3 kk_80) rfl (c_X3_readLine l G hG S8 a1 hk1 _ h13) ⟨wl_X3_39, wi_yX3_readLine, wx_yX3_readLine, wn_X3, wc_yX3_readLine⟩ wy_yX3_readLine (by decide) ⟨rfl, rfl⟩ rfl rfl (Nat.le_of_ble_eq_true rfl) dX3_readInto_49 rfl ?_
              refine rs_aload_n (i := 0) C dX3_readInto_52 rfl rfl rfl ?_
              refine rg_X3_6 C kk_80 wl_X3_30 dX3_readInto_53 rfl ?_
              refine rs_jw (P := fun J => ∀ (S15 : rs_St), J S15 = some o → rs_Xi G 3 p l e (rs_rm 9) s m args below meth c o S15 63 [(0, .ref (rs_ad G 80)), (1, .ref (rs_ad G a1)), (2, .int x9)] []) h (fun S15 h => ?_) (fun J16 KJ16 h => ?_)
              · refine rs_iincn (v := 1) C dX3_readInto_63 rfl (by decide) (by decide) rfl h (fun x17 h => ?_)
                refine rs_goto (tgt := 25) C dX3_readInto_66 (by decide) ?_
                exact rs_subk (ih25 _ _ h) (rs_ac rfl (rs_ac rfl (rs_ac rfl rs_a0)))
              · refine rs_if_ne (tgt := 63) C dX3_readInto_56 (by decide) rfl (fun z18 => ?_) (fun z18 => ?_)
                · replace h := rs_if z18 h
                  exact rs_subk (KJ16 _ h) (rs_ac rfl (rs_ac rfl (rs_ac rfl rs_a0)))
                · replace h := rs_it z18 h
                  refine rs_aload_n (i := 0) C dX3_readInto_59 rfl rfl rfl ?_
                  obtain ⟨S20, h19, h⟩ := rs_b1e h
                  refine rs_callVv (S0 := S20) C (rs_kd_lt kk_80 (by decide)) (rs_e3 kk_80) rfl (c_X3_advance l G hG S14 _ h19) ⟨wl_X3_33, wi_yX3_advance, wx_yX3_advance, wn_X3, wc_yX3_advance⟩ wy_yX3_advance (by decide) ⟨rfl, rfl⟩ rfl rfl (Nat.le_of_ble_eq_true rfl) dX3_readInto_60 rfl ?_
                  exact rs_subk (KJ16 _ h) (rs_ac rfl (rs_ac rfl (rs_ac rfl rs_a0)))
    exact rs_subk (L25 rs_fu _ _ h) (rs_ac rfl (rs_ac rfl (rs_ac rfl rs_a0)))
def xf_X4_text_l43 (K43 : rs_St → Int32 → Option (Int32 × rs_St)) : Nat → rs_St → Int32 → Option (Int32 × rs_St)
  | 0, _, _ => none
  | n43 + 1, S8, x9 => if 2 ≤ x9 then K43 S8 x9 else if x9 < 0 ∨ 2 ≤ x9.toNatClampNeg then none else rs_lt (rs_si S8 78 x9.toNatClampNeg (vp_nar .boolean 0)) (fun S11 => rs_lt (x9 + 1) (fun x13 => xf_X4_text_l43 K43 n43 S11 x13))
def xf_X4_text (S : rs_St) : Option (Int32 × rs_St) := rs_b2 (xf_X3_readInto S 19) (fun r3 S2 => rs_lt (rs_si S2 80 1 0) (fun S4 => if (rs_gi S4 80 6) = 0 then rs_b1 (xf_X1_copyFrom S4 0 19) (fun S7 => xf_X4_text_l43 (fun (S14 : rs_St) (x15 : Int32) => some (r3, S14)) rs_fu S7 0) else some (r3, S4)))
set_option maxRecDepth 100000 in
theorem c_X4_text (l : Launch) (G : rs_G) (hG : rs_ok G) (S : rs_St)  (o : (Int32 × rs_St)) (h : xf_X4_text S = some o) : Met l yX4_text (rs_wz yX4_text cX4_text 3 (some FieldType.int)) (rs_rm 10) (va_Pc [.ref (rs_ad G 76)] (rs_pre G S)) (va_Qi (fun r S2 => (r, S2) = o) (rs_post G) (rs_A G)) 0 0 (rs_A G) := by
  refine rs_met hG (by decide) (Nat.le_of_ble_eq_true rfl) ?_
  intro p e s m args below meth c C hr hlk
  rw [xf_X4_text] at h
  refine rs_aload_n (i := 0) C dX4_text_0 rfl rfl rfl ?_
  refine rg_X4_5 C kk_76 wl_X4_36 dX4_text_1 rfl ?_
  refine rs_aload_n (i := 0) C dX4_text_4 rfl rfl rfl ?_
  refine rg_X4_1 C kk_76 wl_X4_16 dX4_text_5 rfl ?_
  obtain ⟨r3, S2, h1, h⟩ := rs_b2e h
  refine rs_callVi (r0 := r3) (S0 := S2) C (rs_kd_lt kk_80 (by decide)) (rs_e3 kk_80) rfl (c_X3_readInto l G hG S 19 kk_19 _ h1) ⟨wl_X4_57, wi_yX3_readInto, wx_yX3_readInto, wn_X3, wc_yX3_readInto⟩ wy_yX3_readInto (by decide) ⟨rfl, rfl⟩ rfl rfl (Nat.le_of_ble_eq_true rfl) dX4_text_8 rfl ?_
  refine rs_istore_n (i := 1) C dX4_text_11 rfl (by decide) rfl ?_
  refine rs_aload_n (i := 0) C dX4_text_12 rfl rfl rfl ?_
  refine rg_X4_5 C kk_76 wl_X4_36 dX4_text_13 rfl ?_
  refine rs_iconst (v := 0) C dX4_text_16 (by decide) rfl ?_
  refine rp_X3_1 C kk_80 wl_X4_53 dX4_text_17 rfl h (fun S4 h => ?_)
  refine rs_aload_n (i := 0) C dX4_text_20 rfl rfl rfl ?_
  refine rg_X4_5 C kk_76 wl_X4_36 dX4_text_21 rfl ?_
  refine rg_X3_6 C kk_80 wl_X4_61 dX4_text_24 rfl ?_
  refine rs_if_ne (tgt := 61) C dX4_text_27 (by decide) rfl (fun z5 => ?_) (fun z5 => ?_)
  · replace h := rs_if z5 h
    refine rs_iload_n (i := 1) C dX4_text_61 rfl rfl rfl ?_
    exact rs_iret C hr hlk h dX4_text_62
  · replace h := rs_it z5 h
    refine rs_aload_n (i := 0) C dX4_text_30 rfl rfl rfl ?_
    refine rg_X4_0 C kk_76 wl_X4_10 dX4_text_31 rfl ?_
    refine rs_aload_n (i := 0) C dX4_text_34 rfl rfl rfl ?_
    refine rg_X4_1 C kk_76 wl_X4_16 dX4_text_35 rfl ?_
    obtain ⟨S7, h6, h⟩ := rs_b1e h
    refine rs_callVv (S0 := S7) C (rs_kd_lt kk_0 (by decide)) (rs_e1 kk_0) rfl (c_X1_copyFrom l G hG S4 0 19 kk_0 kk_19 _ h6) ⟨wl_X4_64, wi_yX1_copyFrom, wx_yX1_copyFrom, wn_X1, wc_yX1_copyFrom⟩ wy_yX1_copyFrom (by decide) ⟨rfl, rfl⟩ rfl rfl (Nat.le_of_ble_eq_true rfl) dX4_text_38 rfl ?_
    refine rs_iconst (v := 0) C dX4_text_41 (by decide) rfl ?_
    refine rs_istore_n (i := 2) C dX4_text_42 rfl (by decide) rfl ?_
    refine rs_kw (F := fun K => xf_X4_text_l43 K rs_fu S7 0) (P := fun K => ∀ (S14 : rs_St) (x15 : Int32), K S14 x15 = some o → rs_Xi G 3 p l e (rs_rm 10) s m args below meth c o S14 61 [(0, .ref (rs_ad G 76)), (1, .int r3), (2, .int x15)] []) h (fun S14 x15 h => ?_) (fun K43 hK43 h => ?_)
    · refine rs_iload_n (i := 1) C dX4_text_61 rfl rfl rfl ?_
      exact rs_iret C hr hlk h dX4_text_62
    · have L43 : ∀ (n43 : Nat) (S8 : rs_St) (x9 : Int32), xf_X4_text_l43 K43 n43 S8 x9 = some o → rs_Xi G 3 p l e (rs_rm 10) s m args below meth c o S8 43 [(0, .ref (rs_ad G 76)), (1, .int r3), (2, .int x9)] [] := by
        intro n43
        induction n43 with
        | zero => intro S8 x9 h; exact (rs_no h).elim
        | succ n43 ih43 =>
          intro S8 x9 h
          rw [xf_X4_text_l43] at h
          refine rs_iload_n (i := 2) C dX4_text_43 rfl rfl rfl ?_
          refine rs_iconst (v := 2) C dX4_text_44 (by decide) rfl ?_
          refine rs_icmp_ge (tgt := 61) C dX4_text_45 (by decide) rfl (fun z10 => ?_) (fun z10 => ?_)
          · replace h := rs_it z10 h
            exact rs_subk (hK43 _ _ h) (rs_ac rfl (rs_ac rfl (rs_ac rfl rs_a0)))
          · replace h := rs_if z10 h
            refine rs_aload_n (i := 0) C dX4_text_48 rfl rfl rfl ?_
            refine rg_X4_3 C kk_76 wl_X4_23 dX4_text_49 rfl ?_
            refine rs_iload_n (i := 2) C dX4_text_52 rfl rfl rfl ?_
            refine rs_iconst (v := 0) C dX4_text_53 (by decide) rfl ?_
            obtain ⟨z12, h⟩ := rs_ck h
            refine rs_zastn C kk_78 ll_78 z12 dX4_text_54 rfl h (fun S11 h => ?_)
            refine rs_iincn (v := 1) C dX4_text_55 rfl (by decide) (by decide) rfl h (fun x13 h => ?_)
            refine rs_goto (tgt := 43) C dX4_text_58 (by decide) ?_
            exact rs_subk (ih43 _ _ h) (rs_ac rfl (rs_ac rfl (rs_ac rfl rs_a0)))
      exact rs_subk (L43 rs_fu _ _ h) (rs_ac rfl (rs_ac rfl (rs_ac rfl rs_a0)))
