def xf_X2_renew (S : rs_St) (k : Nat) (a1 : Int32) (a2 : Int32) : Option rs_St := rs_b1 (xf_J7_fill_53178 S (k + 1) 0) (fun S2 => rs_lt (rs_si S2 k 1 a1) (fun S3 => rs_lt (rs_si S3 k 2 a2) (fun S4 => some S4)))
set_option maxRecDepth 100000 in
theorem c_X2_renew (l : Launch) (G : rs_G) (hG : rs_ok G) (S : rs_St) (k : Nat) (a1 : Int32) (a2 : Int32) (hk : rs_kd k = 2) (o : rs_St) (h : xf_X2_renew S k a1 a2 = some o) : Met l yX2_renew (rs_wz yX2_renew cX2_renew 3 none) (rs_rm 3) (va_Pc [.ref (rs_ad G k), .int a1, .int a2] (rs_pre G S)) (va_Qv (fun S2 => S2 = o) (rs_post G) (rs_A G)) 0 0 (rs_A G) := by
  refine rs_met hG (by decide) (Nat.le_of_ble_eq_true rfl) ?_
  intro p e s m args below meth c C hr hlk
  rw [xf_X2_renew] at h
  refine rs_aload_n (i := 0) C dX2_renew_0 rfl rfl rfl ?_
  refine rg_X2_0 C hk wl_X2_9 dX2_renew_1 rfl ?_
  refine rs_iconst (v := 0) C dX2_renew_4 (by decide) rfl ?_
  obtain ⟨S2, h1, h⟩ := rs_b1e h
  refine rs_callSv (S0 := S2) C (c_J7_fill_53178 l G hG S (k + 1) 0 (rs_k2a hk) _ h1) ⟨wl_X2_19, ws_yJ7_fill_53178, wn_J7, wc_yJ7_fill_53178⟩ wy_yJ7_fill_53178 (by decide) ⟨rfl, rfl⟩ rfl rfl (Nat.le_of_ble_eq_true rfl) dX2_renew_5 rfl ?_
  refine rs_aload_n (i := 0) C dX2_renew_8 rfl rfl rfl ?_
  refine rs_iload_n (i := 1) C dX2_renew_9 rfl rfl rfl ?_
  refine rp_X2_1 C hk wl_X2_15 dX2_renew_10 rfl h (fun S3 h => ?_)
  refine rs_aload_n (i := 0) C dX2_renew_13 rfl rfl rfl ?_
  refine rs_iload_n (i := 2) C dX2_renew_14 rfl rfl rfl ?_
  refine rp_X2_2 C hk wl_X2_25 dX2_renew_15 rfl h (fun S4 h => ?_)
  exact rs_vret C hr hlk h dX2_renew_18
def xf_X2_faultAt (S : rs_St) (k : Nat) (a1 : Int32) : Option Int32 := if (rs_gi S k 1) = (-1) then some 1 else if a1 < 0 then some 2 else if a1 < (rs_gi S k 2) then some 0 else some 2
set_option maxRecDepth 100000 in
theorem c_X2_faultAt (l : Launch) (G : rs_G) (hG : rs_ok G) (S : rs_St) (k : Nat) (a1 : Int32) (hk : rs_kd k = 2) (o : Int32) (h : xf_X2_faultAt S k a1 = some o) : Met l yX2_faultAt (rs_wz yX2_faultAt cX2_faultAt 2 (some FieldType.int)) (rs_rm 2) (va_Pc [.ref (rs_ad G k), .int a1] (rs_pre G S)) (va_Qi (fun r S2 => (r, S2) = (o, S)) (rs_post G) (rs_A G)) 0 0 (rs_A G) := by
  refine rs_met hG (by decide) (Nat.le_of_ble_eq_true rfl) ?_
  intro p e s m args below meth c C hr hlk
  rw [xf_X2_faultAt] at h
  refine rs_aload_n (i := 0) C dX2_faultAt_0 rfl rfl rfl ?_
  refine rg_X2_1 C hk wl_X2_15 dX2_faultAt_1 rfl ?_
  refine rs_iconst (v := (-1)) C dX2_faultAt_4 (by decide) rfl ?_
  refine rs_icmp_ne (tgt := 10) C dX2_faultAt_5 (by decide) rfl (fun z1 => ?_) (fun z1 => ?_)
  · replace h := rs_if z1 h
    refine rs_iload_n (i := 1) C dX2_faultAt_10 rfl rfl rfl ?_
    refine rs_if_lt (tgt := 22) C dX2_faultAt_11 (by decide) rfl (fun z2 => ?_) (fun z2 => ?_)
    · replace h := rs_it z2 h
      refine rs_iconst (v := 2) C dX2_faultAt_22 (by decide) rfl ?_
      refine rs_goto (tgt := 27) C dX2_faultAt_23 (by decide) ?_
      exact rs_iret C hr hlk (rs_pr h) dX2_faultAt_27
    · replace h := rs_if z2 h
      refine rs_iload_n (i := 1) C dX2_faultAt_14 rfl rfl rfl ?_
      refine rs_aload_n (i := 0) C dX2_faultAt_15 rfl rfl rfl ?_
      refine rg_X2_2 C hk wl_X2_25 dX2_faultAt_16 rfl ?_
      refine rs_icmp_lt (tgt := 26) C dX2_faultAt_19 (by decide) rfl (fun z3 => ?_) (fun z3 => ?_)
      · replace h := rs_it z3 h
        refine rs_iconst (v := 0) C dX2_faultAt_26 (by decide) rfl ?_
        exact rs_iret C hr hlk (rs_pr h) dX2_faultAt_27
      · replace h := rs_if z3 h
        refine rs_iconst (v := 2) C dX2_faultAt_22 (by decide) rfl ?_
        refine rs_goto (tgt := 27) C dX2_faultAt_23 (by decide) ?_
        exact rs_iret C hr hlk (rs_pr h) dX2_faultAt_27
  · replace h := rs_it z1 h
    refine rs_iconst (v := 1) C dX2_faultAt_8 (by decide) rfl ?_
    exact rs_iret C hr hlk (rs_pr h) dX2_faultAt_9
def xf_X2_faultOfPair (S : rs_St) (k : Nat) (a1 : Int32) (a2 : Int32) : Option Int32 := rs_jn (rs_b1 (xf_X2_faultAt S k a2) (fun r3 => if r3 = 0 then rs_b1 (xf_X2_faultAt S k (a2 + 1)) (fun r6 => some r6) else some r3)) (fun J1 => if (rs_gi S k 1) = (-1) then J1 else if (rs_gi S k 1) = a1 then J1 else some 3)
set_option maxRecDepth 100000 in
theorem c_X2_faultOfPair (l : Launch) (G : rs_G) (hG : rs_ok G) (S : rs_St) (k : Nat) (a1 : Int32) (a2 : Int32) (hk : rs_kd k = 2) (o : Int32) (h : xf_X2_faultOfPair S k a1 a2 = some o) : Met l yX2_faultOfPair (rs_wz yX2_faultOfPair cX2_faultOfPair 4 (some FieldType.int)) (rs_rm 3) (va_Pc [.ref (rs_ad G k), .int a1, .int a2] (rs_pre G S)) (va_Qi (fun r S2 => (r, S2) = (o, S)) (rs_post G) (rs_A G)) 0 0 (rs_A G) := by
  refine rs_met hG (by decide) (Nat.le_of_ble_eq_true rfl) ?_
  intro p e s m args below meth c C hr hlk
  rw [xf_X2_faultOfPair] at h
  refine rs_aload_n (i := 0) C dX2_faultOfPair_0 rfl rfl rfl ?_
  refine rg_X2_1 C hk wl_X2_15 dX2_faultOfPair_1 rfl ?_
  refine rs_iconst (v := (-1)) C dX2_faultOfPair_4 (by decide) rfl ?_
  refine rs_jw (P := fun J => J = some o → rs_Xi G 4 p l e (rs_rm 3) s m args below meth c (o, S) S 18 [(0, .ref (rs_ad G k)), (1, .int a1), (2, .int a2)] []) h (fun  h => ?_) (fun J1 KJ1 h => ?_)
  · refine rs_aload_n (i := 0) C dX2_faultOfPair_18 rfl rfl rfl ?_
    refine rs_iload_n (i := 2) C dX2_faultOfPair_19 rfl rfl rfl ?_
    obtain ⟨r3, h2, h⟩ := rs_b1e h
    refine rs_callVi (r0 := r3) (S0 := S) C (rs_kd_lt hk (by decide)) (rs_e2 hk) rfl (c_X2_faultAt l G hG S k a2 hk _ h2) ⟨wl_X2_28, wi_yX2_faultAt, wx_yX2_faultAt, wn_X2, wc_yX2_faultAt⟩ wy_yX2_faultAt (by decide) ⟨rfl, rfl⟩ rfl rfl (Nat.le_of_ble_eq_true rfl) dX2_faultOfPair_20 rfl ?_
    refine rs_istore_n (i := 3) C dX2_faultOfPair_23 rfl (by decide) rfl ?_
    refine rs_iload_n (i := 3) C dX2_faultOfPair_24 rfl rfl rfl ?_
    refine rs_if_eq (tgt := 32) C dX2_faultOfPair_25 (by decide) rfl (fun z4 => ?_) (fun z4 => ?_)
    · replace h := rs_it z4 h
      refine rs_aload_n (i := 0) C dX2_faultOfPair_32 rfl rfl rfl ?_
      refine rs_iload_n (i := 2) C dX2_faultOfPair_33 rfl rfl rfl ?_
      refine rs_iconst (v := 1) C dX2_faultOfPair_34 (by decide) rfl ?_
      refine rs_iadd C dX2_faultOfPair_35 rfl ?_
      obtain ⟨r6, h5, h⟩ := rs_b1e h
      refine rs_callVi (r0 := r6) (S0 := S) C (rs_kd_lt hk (by decide)) (rs_e2 hk) rfl (c_X2_faultAt l G hG S k (a2 + 1) hk _ h5) ⟨wl_X2_28, wi_yX2_faultAt, wx_yX2_faultAt, wn_X2, wc_yX2_faultAt⟩ wy_yX2_faultAt (by decide) ⟨rfl, rfl⟩ rfl rfl (Nat.le_of_ble_eq_true rfl) dX2_faultOfPair_36 rfl ?_
      exact rs_iret C hr hlk (rs_pr h) dX2_faultOfPair_39
    · replace h := rs_if z4 h
      refine rs_iload_n (i := 3) C dX2_faultOfPair_28 rfl rfl rfl ?_
      refine rs_goto (tgt := 39) C dX2_faultOfPair_29 (by decide) ?_
      exact rs_iret C hr hlk (rs_pr h) dX2_faultOfPair_39
  · refine rs_icmp_eq (tgt := 18) C dX2_faultOfPair_5 (by decide) rfl (fun z7 => ?_) (fun z7 => ?_)
    · replace h := rs_it z7 h
      exact rs_subk (KJ1 h) (rs_ac rfl (rs_ac rfl (rs_ac rfl rs_a0)))
    · replace h := rs_if z7 h
      refine rs_aload_n (i := 0) C dX2_faultOfPair_8 rfl rfl rfl ?_
      refine rg_X2_1 C hk wl_X2_15 dX2_faultOfPair_9 rfl ?_
      refine rs_iload_n (i := 1) C dX2_faultOfPair_12 rfl rfl rfl ?_
      refine rs_icmp_eq (tgt := 18) C dX2_faultOfPair_13 (by decide) rfl (fun z8 => ?_) (fun z8 => ?_)
      · replace h := rs_it z8 h
        exact rs_subk (KJ1 h) (rs_ac rfl (rs_ac rfl (rs_ac rfl rs_a0)))
      · replace h := rs_if z8 h
        refine rs_iconst (v := 3) C dX2_faultOfPair_16 (by decide) rfl ?_
        exact rs_iret C hr hlk (rs_pr h) dX2_faultOfPair_17
def xf_X2_store (S : rs_St) (k : Nat) (a1 : Int32) (a2 : Int32) : Option rs_St := rs_b1 (xf_X2_faultAt S k a1) (fun r2 => if r2 = 0 then if (rs_gi S k 1) = 0 then if a1 < 0 ∨ 40 ≤ a1.toNatClampNeg then none else rs_lt (rs_si S (k + 1) a1.toNatClampNeg (a2.toInt8.toInt32)) (fun S6 => some S6) else if (rs_gi S k 1) = 1 then if a1 < 0 ∨ 40 ≤ a1.toNatClampNeg then none else rs_lt (rs_si S (k + 1) a1.toNatClampNeg (a2.toInt16.toInt32)) (fun S9 => some S9) else if a1 < 0 ∨ 40 ≤ a1.toNatClampNeg then none else rs_lt (rs_si S (k + 1) a1.toNatClampNeg a2) (fun S11 => some S11) else some S)
set_option maxRecDepth 100000 in
theorem c_X2_store (l : Launch) (G : rs_G) (hG : rs_ok G) (S : rs_St) (k : Nat) (a1 : Int32) (a2 : Int32) (hk : rs_kd k = 2) (o : rs_St) (h : xf_X2_store S k a1 a2 = some o) : Met l yX2_store (rs_wz yX2_store cX2_store 3 none) (rs_rm 3) (va_Pc [.ref (rs_ad G k), .int a1, .int a2] (rs_pre G S)) (va_Qv (fun S2 => S2 = o) (rs_post G) (rs_A G)) 0 0 (rs_A G) := by
  refine rs_met hG (by decide) (Nat.le_of_ble_eq_true rfl) ?_
  intro p e s m args below meth c C hr hlk
  rw [xf_X2_store] at h
  refine rs_aload_n (i := 0) C dX2_store_0 rfl rfl rfl ?_
  refine rs_iload_n (i := 1) C dX2_store_1 rfl rfl rfl ?_
  obtain ⟨r2, h1, h⟩ := rs_b1e h
  refine rs_callVi (r0 := r2) (S0 := S) C (rs_kd_lt hk (by decide)) (rs_e2 hk) rfl (c_X2_faultAt l G hG S k a1 hk _ h1) ⟨wl_X2_28, wi_yX2_faultAt, wx_yX2_faultAt, wn_X2, wc_yX2_faultAt⟩ wy_yX2_faultAt (by decide) ⟨rfl, rfl⟩ rfl rfl (Nat.le_of_ble_eq_true rfl) dX2_store_2 rfl ?_
  refine rs_if_eq (tgt := 9) C dX2_store_5 (by decide) rfl (fun z3 => ?_) (fun z3 => ?_)
  · replace h := rs_it z3 h
    refine rs_aload_n (i := 0) C dX2_store_9 rfl rfl rfl ?_
    refine rg_X2_1 C hk wl_X2_15 dX2_store_10 rfl ?_
    by_cases z5 : (rs_gi S k 1) = 0
    · replace h := rs_it z5 h
      refine rs_look (tgt := 40) C (27) dX2_store_13 (by decide) (by rw [z5]; decide) (by decide) ?_
      refine rs_aload_n (i := 0) C dX2_store_40 rfl rfl rfl ?_
      refine rg_X2_0 C hk wl_X2_9 dX2_store_41 rfl ?_
      refine rs_iload_n (i := 1) C dX2_store_44 rfl rfl rfl ?_
      refine rs_iload_n (i := 2) C dX2_store_45 rfl rfl rfl ?_
      refine rs_i2b C dX2_store_46 rfl ?_
      obtain ⟨z7, h⟩ := rs_ck h
      refine rs_iastn C (rs_k2a hk) (rs_l2a hk) z7 dX2_store_47 rfl h (fun S6 h => ?_)
      refine rs_goto (tgt := 69) C dX2_store_48 (by decide) ?_
      exact rs_vret C hr hlk h dX2_store_69
    · replace h := rs_if z5 h
      by_cases z8 : (rs_gi S k 1) = 1
      · replace h := rs_it z8 h
        refine rs_look (tgt := 51) C (38) dX2_store_13 (by decide) (by rw [z8]; decide) (by decide) ?_
        refine rs_aload_n (i := 0) C dX2_store_51 rfl rfl rfl ?_
        refine rg_X2_0 C hk wl_X2_9 dX2_store_52 rfl ?_
        refine rs_iload_n (i := 1) C dX2_store_55 rfl rfl rfl ?_
        refine rs_iload_n (i := 2) C dX2_store_56 rfl rfl rfl ?_
        refine rs_i2s C dX2_store_57 rfl ?_
        obtain ⟨z10, h⟩ := rs_ck h
        refine rs_iastn C (rs_k2a hk) (rs_l2a hk) z10 dX2_store_58 rfl h (fun S9 h => ?_)
        refine rs_goto (tgt := 69) C dX2_store_59 (by decide) ?_
        exact rs_vret C hr hlk h dX2_store_69
      · replace h := rs_if z8 h
        refine rs_look (tgt := 62) C (49) dX2_store_13 (by decide) (rs_lkd (rs_nev z5 (0) (by decide)) (rs_nev z8 (1) (by decide))) (by decide) ?_
        refine rs_aload_n (i := 0) C dX2_store_62 rfl rfl rfl ?_
        refine rg_X2_0 C hk wl_X2_9 dX2_store_63 rfl ?_
        refine rs_iload_n (i := 1) C dX2_store_66 rfl rfl rfl ?_
        refine rs_iload_n (i := 2) C dX2_store_67 rfl rfl rfl ?_
        obtain ⟨z12, h⟩ := rs_ck h
        refine rs_iastn C (rs_k2a hk) (rs_l2a hk) z12 dX2_store_68 rfl h (fun S11 h => ?_)
        exact rs_vret C hr hlk h dX2_store_69
  · replace h := rs_if z3 h
    exact rs_vret C hr hlk h dX2_store_8
def xf_X4_outside (S : rs_St) (a1 : Int32) (a2 : Int32) (a3 : Int32) : Option Int32 := if a1 < a2 then some 1 else if a1 ≤ a3 then some 0 else some 1
set_option maxRecDepth 100000 in
theorem c_X4_outside (l : Launch) (G : rs_G) (hG : rs_ok G) (S : rs_St) (a1 : Int32) (a2 : Int32) (a3 : Int32)  (o : Int32) (h : xf_X4_outside S a1 a2 a3 = some o) : Met l yX4_outside (rs_wz yX4_outside cX4_outside 3 (some FieldType.boolean)) (rs_rm 2) (va_Pc [.int a1, .int a2, .int a3] (rs_pre G S)) (va_Qi (fun r S2 => (r, S2) = (o, S)) (rs_post G) (rs_A G)) 0 0 (rs_A G) := by
  refine rs_met hG (by decide) (Nat.le_of_ble_eq_true rfl) ?_
  intro p e s m args below meth c C hr hlk
  rw [xf_X4_outside] at h
  refine rs_iload_n (i := 0) C dX4_outside_0 rfl rfl rfl ?_
  refine rs_iload_n (i := 1) C dX4_outside_1 rfl rfl rfl ?_
  refine rs_icmp_lt (tgt := 10) C dX4_outside_2 (by decide) rfl (fun z1 => ?_) (fun z1 => ?_)
  · replace h := rs_it z1 h
    refine rs_iconst (v := 1) C dX4_outside_10 (by decide) rfl ?_
    refine rs_goto (tgt := 15) C dX4_outside_11 (by decide) ?_
    exact rs_zret C hr hlk (Or.inr rfl) (rs_pr h) dX4_outside_15
  · replace h := rs_if z1 h
    refine rs_iload_n (i := 0) C dX4_outside_5 rfl rfl rfl ?_
    refine rs_iload_n (i := 2) C dX4_outside_6 rfl rfl rfl ?_
    refine rs_icmp_le (tgt := 14) C dX4_outside_7 (by decide) rfl (fun z2 => ?_) (fun z2 => ?_)
    · replace h := rs_it z2 h
      refine rs_iconst (v := 0) C dX4_outside_14 (by decide) rfl ?_
      exact rs_zret C hr hlk (Or.inl rfl) (rs_pr h) dX4_outside_15
    · replace h := rs_if z2 h
      refine rs_iconst (v := 1) C dX4_outside_10 (by decide) rfl ?_
      refine rs_goto (tgt := 15) C dX4_outside_11 (by decide) ?_
      exact rs_zret C hr hlk (Or.inr rfl) (rs_pr h) dX4_outside_15
def xf_X4_end (S : rs_St) (a1 : Int32) : Option (Int32 × rs_St) := rs_b1 (xf_X4_outside S a1 0 (rs_gi S 80 1)) (fun r2 => if r2 = 0 then rs_lt (rs_gi S 80 1) (fun x4 => rs_lt (rs_si S 80 1 a1) (fun S5 => some (x4, S5))) else some ((-1), S))
set_option maxRecDepth 100000 in
theorem c_X4_end (l : Launch) (G : rs_G) (hG : rs_ok G) (S : rs_St) (a1 : Int32)  (o : (Int32 × rs_St)) (h : xf_X4_end S a1 = some o) : Met l yX4_end (rs_wz yX4_end cX4_end 3 (some FieldType.int)) (rs_rm 3) (va_Pc [.ref (rs_ad G 76), .int a1] (rs_pre G S)) (va_Qi (fun r S2 => (r, S2) = o) (rs_post G) (rs_A G)) 0 0 (rs_A G) := by
  refine rs_met hG (by decide) (Nat.le_of_ble_eq_true rfl) ?_
  intro p e s m args below meth c C hr hlk
  rw [xf_X4_end] at h
  refine rs_iload_n (i := 1) C dX4_end_0 rfl rfl rfl ?_
  refine rs_iconst (v := 0) C dX4_end_1 (by decide) rfl ?_
  refine rs_aload_n (i := 0) C dX4_end_2 rfl rfl rfl ?_
  refine rg_X4_5 C kk_76 wl_X4_36 dX4_end_3 rfl ?_
  refine rg_X3_1 C kk_80 wl_X4_53 dX4_end_6 rfl ?_
  obtain ⟨r2, h1, h⟩ := rs_b1e h
  refine rs_callSi (r0 := r2) (S0 := S) C (c_X4_outside l G hG S a1 0 (rs_gi S 80 1) _ h1) ⟨wl_X4_45, ws_yX4_outside, wn_X4, wc_yX4_outside⟩ wy_yX4_outside (by decide) ⟨rfl, rfl⟩ rfl rfl (Nat.le_of_ble_eq_true rfl) dX4_end_9 rfl ?_
  refine rs_if_eq (tgt := 17) C dX4_end_12 (by decide) rfl (fun z3 => ?_) (fun z3 => ?_)
  · replace h := rs_it z3 h
    refine rs_aload_n (i := 0) C dX4_end_17 rfl rfl rfl ?_
    refine rg_X4_5 C kk_76 wl_X4_36 dX4_end_18 rfl ?_
    refine rg_X3_1 C kk_80 wl_X4_53 dX4_end_21 rfl ?_
    refine rs_nmi h (fun x4 h => ?_)
    refine rs_istore_n (i := 2) C dX4_end_24 rfl (by decide) rfl ?_
    refine rs_aload_n (i := 0) C dX4_end_25 rfl rfl rfl ?_
    refine rg_X4_5 C kk_76 wl_X4_36 dX4_end_26 rfl ?_
    refine rs_iload_n (i := 1) C dX4_end_29 rfl rfl rfl ?_
    refine rp_X3_1 C kk_80 wl_X4_53 dX4_end_30 rfl h (fun S5 h => ?_)
    refine rs_iload_n (i := 2) C dX4_end_33 rfl rfl rfl ?_
    exact rs_iret C hr hlk h dX4_end_34
  · replace h := rs_if z3 h
    refine rs_iconst (v := (-1)) C dX4_end_15 (by decide) rfl ?_
    exact rs_iret C hr hlk h dX4_end_16
def xf_X4_fault (S : rs_St) : Option Int32 := some (rs_gi S 80 6)
set_option maxRecDepth 100000 in
theorem c_X4_fault (l : Launch) (G : rs_G) (hG : rs_ok G) (S : rs_St)  (o : Int32) (h : xf_X4_fault S = some o) : Met l yX4_fault (rs_wz yX4_fault cX4_fault 1 (some FieldType.int)) (rs_rm 2) (va_Pc [.ref (rs_ad G 76)] (rs_pre G S)) (va_Qi (fun r S2 => (r, S2) = (o, S)) (rs_post G) (rs_A G)) 0 0 (rs_A G) := by
  refine rs_met hG (by decide) (Nat.le_of_ble_eq_true rfl) ?_
  intro p e s m args below meth c C hr hlk
  rw [xf_X4_fault] at h
  refine rs_aload_n (i := 0) C dX4_fault_0 rfl rfl rfl ?_
  refine rg_X4_5 C kk_76 wl_X4_36 dX4_fault_1 rfl ?_
  refine rg_X3_6 C kk_80 wl_X4_61 dX4_fault_4 rfl ?_
  exact rs_iret C hr hlk (rs_pr h) dX4_fault_7
def xf_X4_rule (S : rs_St) (a1 : Int32) : Option Int32 := if a1 = 0 then some (rs_gi S 0 1) else if a1 = 1 then some (rs_gi S 0 4) else if a1 = 2 then some (rs_gi S 0 3) else if a1 = 3 then some (rs_gi S (0 + 2) 0) else if a1 = 4 then some (rs_gi S (0 + 2) 1) else if a1 = 5 then some (rs_gi S (0 + 2) 2) else if a1 = 6 then some (rs_gi S (0 + 2) 3) else if a1 = 7 then rs_b1 (xf_X1_shine S 0) (fun r11 => some r11) else some (-1)
set_option maxRecDepth 100000 in
theorem c_X4_rule (l : Launch) (G : rs_G) (hG : rs_ok G) (S : rs_St) (a1 : Int32)  (o : Int32) (h : xf_X4_rule S a1 = some o) : Met l yX4_rule (rs_wz yX4_rule cX4_rule 2 (some FieldType.int)) (rs_rm 5) (va_Pc [.ref (rs_ad G 76), .int a1] (rs_pre G S)) (va_Qi (fun r S2 => (r, S2) = (o, S)) (rs_post G) (rs_A G)) 0 0 (rs_A G) := by
  refine rs_met hG (by decide) (Nat.le_of_ble_eq_true rfl) ?_
  intro p e s m args below meth c C hr hlk
  rw [xf_X4_rule] at h
  refine rs_iload_n (i := 1) C dX4_rule_0 rfl rfl rfl ?_
  by_cases z2 : a1 = 0
  · replace h := rs_it z2 h
    refine rs_tabIn (tgt := 48) C (47) dX4_rule_1 0 z2 (by decide) (by decide) rfl (by decide) ?_
    refine rs_aload_n (i := 0) C dX4_rule_48 rfl rfl rfl ?_
    refine rg_X4_0 C kk_76 wl_X4_10 dX4_rule_49 rfl ?_
    refine rg_X1_1 C kk_0 wl_X4_68 dX4_rule_52 rfl ?_
    exact rs_iret C hr hlk (rs_pr h) dX4_rule_55
  · replace h := rs_if z2 h
    by_cases z3 : a1 = 1
    · replace h := rs_it z3 h
      refine rs_tabIn (tgt := 56) C (55) dX4_rule_1 1 z3 (by decide) (by decide) rfl (by decide) ?_
      refine rs_aload_n (i := 0) C dX4_rule_56 rfl rfl rfl ?_
      refine rg_X4_0 C kk_76 wl_X4_10 dX4_rule_57 rfl ?_
      refine rg_X1_4 C kk_0 wl_X4_71 dX4_rule_60 rfl ?_
      exact rs_iret C hr hlk (rs_pr h) dX4_rule_63
    · replace h := rs_if z3 h
      by_cases z4 : a1 = 2
      · replace h := rs_it z4 h
        refine rs_tabIn (tgt := 64) C (63) dX4_rule_1 2 z4 (by decide) (by decide) rfl (by decide) ?_
        refine rs_aload_n (i := 0) C dX4_rule_64 rfl rfl rfl ?_
        refine rg_X4_0 C kk_76 wl_X4_10 dX4_rule_65 rfl ?_
        refine rg_X1_3 C kk_0 wl_X4_74 dX4_rule_68 rfl ?_
        exact rs_iret C hr hlk (rs_pr h) dX4_rule_71
      · replace h := rs_if z4 h
        by_cases z5 : a1 = 3
        · replace h := rs_it z5 h
          refine rs_tabIn (tgt := 72) C (71) dX4_rule_1 3 z5 (by decide) (by decide) rfl (by decide) ?_
          refine rs_aload_n (i := 0) C dX4_rule_72 rfl rfl rfl ?_
          refine rg_X4_0 C kk_76 wl_X4_10 dX4_rule_73 rfl ?_
          refine rg_X1_2 C kk_0 wl_X4_77 dX4_rule_76 rfl ?_
          refine rs_iconst (v := 0) C dX4_rule_79 (by decide) rfl ?_
          refine rs_ialdc C (rs_k1b kk_0) (rs_l1b kk_0) 0 (by decide) (by decide) dX4_rule_80 rfl ?_
          exact rs_iret C hr hlk (rs_pr h) dX4_rule_81
        · replace h := rs_if z5 h
          by_cases z6 : a1 = 4
          · replace h := rs_it z6 h
            refine rs_tabIn (tgt := 82) C (81) dX4_rule_1 4 z6 (by decide) (by decide) rfl (by decide) ?_
            refine rs_aload_n (i := 0) C dX4_rule_82 rfl rfl rfl ?_
            refine rg_X4_0 C kk_76 wl_X4_10 dX4_rule_83 rfl ?_
            refine rg_X1_2 C kk_0 wl_X4_77 dX4_rule_86 rfl ?_
            refine rs_iconst (v := 1) C dX4_rule_89 (by decide) rfl ?_
            refine rs_ialdc C (rs_k1b kk_0) (rs_l1b kk_0) 1 (by decide) (by decide) dX4_rule_90 rfl ?_
            exact rs_iret C hr hlk (rs_pr h) dX4_rule_91
          · replace h := rs_if z6 h
            by_cases z7 : a1 = 5
            · replace h := rs_it z7 h
              refine rs_tabIn (tgt := 92) C (91) dX4_rule_1 5 z7 (by decide) (by decide) rfl (by decide) ?_
              refine rs_aload_n (i := 0) C dX4_rule_92 rfl rfl rfl ?_
              refine rg_X4_0 C kk_76 wl_X4_10 dX4_rule_93 rfl ?_
              refine rg_X1_2 C kk_0 wl_X4_77 dX4_rule_96 rfl ?_
              refine rs_iconst (v := 2) C dX4_rule_99 (by decide) rfl ?_
              refine rs_ialdc C (rs_k1b kk_0) (rs_l1b kk_0) 2 (by decide) (by decide) dX4_rule_100 rfl ?_
              exact rs_iret C hr hlk (rs_pr h) dX4_rule_101
            · replace h := rs_if z7 h
              by_cases z8 : a1 = 6
              · replace h := rs_it z8 h
                refine rs_tabIn (tgt := 102) C (101) dX4_rule_1 6 z8 (by decide) (by decide) rfl (by decide) ?_
                refine rs_aload_n (i := 0) C dX4_rule_102 rfl rfl rfl ?_
                refine rg_X4_0 C kk_76 wl_X4_10 dX4_rule_103 rfl ?_
                refine rg_X1_2 C kk_0 wl_X4_77 dX4_rule_106 rfl ?_
                refine rs_iconst (v := 3) C dX4_rule_109 (by decide) rfl ?_
                refine rs_ialdc C (rs_k1b kk_0) (rs_l1b kk_0) 3 (by decide) (by decide) dX4_rule_110 rfl ?_
                exact rs_iret C hr hlk (rs_pr h) dX4_rule_111
              · replace h := rs_if z8 h
                by_cases z9 : a1 = 7
                · replace h := rs_it z9 h
                  refine rs_tabIn (tgt := 112) C (111) dX4_rule_1 7 z9 (by decide) (by decide) rfl (by decide) ?_
                  refine rs_aload_n (i := 0) C dX4_rule_112 rfl rfl rfl ?_
                  refine rg_X4_0 C kk_76 wl_X4_10 dX4_rule_113 rfl ?_
                  obtain ⟨r11, h10, h⟩ := rs_b1e h
                  refine rs_callVi (r0 := r11) (S0 := S) C (rs_kd_lt kk_0 (by decide)) (rs_e1 kk_0) rfl (c_X1_shine l G hG S 0 kk_0 _ h10) ⟨wl_X4_80, wi_yX1_shine, wx_yX1_shine, wn_X1, wc_yX1_shine⟩ wy_yX1_shine (by decide) ⟨rfl, rfl⟩ rfl rfl (Nat.le_of_ble_eq_true rfl) dX4_rule_116 rfl ?_
                  exact rs_iret C hr hlk (rs_pr h) dX4_rule_119
                · replace h := rs_if z9 h
                  refine rs_tabOut (tgt := 120) C dX4_rule_1 (by have e0 := rs_nev z2 (0) (by decide); have e1 := rs_nev z3 (1) (by decide); have e2 := rs_nev z4 (2) (by decide); have e3 := rs_nev z5 (3) (by decide); have e4 := rs_nev z6 (4) (by decide); have e5 := rs_nev z7 (5) (by decide); have e6 := rs_nev z8 (6) (by decide); have e7 := rs_nev z9 (7) (by decide); omega) (by decide) ?_
                  refine rs_iconst (v := (-1)) C dX4_rule_120 (by decide) rfl ?_
                  exact rs_iret C hr hlk (rs_pr h) dX4_rule_121
def xf_X4_lamp (S : rs_St) (a1 : Int32) (a2 : Int32) : Option Int32 := rs_b1 (xf_X1_lampAt S 0 a1) (fun r2 => rs_om r2 (some (-1)) (fun q3 => if rs_kd q3 = 0 then rs_b1 (xf_X4_outside S a2 0 4) (fun r6 => if r6 = 0 then if 4 ≤ a2 then rs_b1 (xf_X0_gives S q3 (rs_gi S 0 3) 1) (fun r10 => some r10) else if a2 < 0 ∨ 4 ≤ a2.toNatClampNeg then none else some (rs_gi S (q3 + 1) a2.toNatClampNeg) else some (-1)) else none))
set_option maxRecDepth 100000 in
theorem c_X4_lamp (l : Launch) (G : rs_G) (hG : rs_ok G) (S : rs_St) (a1 : Int32) (a2 : Int32)  (o : Int32) (h : xf_X4_lamp S a1 a2 = some o) : Met l yX4_lamp (rs_wz yX4_lamp cX4_lamp 4 (some FieldType.int)) (rs_rm 3) (va_Pc [.ref (rs_ad G 76), .int a1, .int a2] (rs_pre G S)) (va_Qi (fun r S2 => (r, S2) = (o, S)) (rs_post G) (rs_A G)) 0 0 (rs_A G) := by
  refine rs_met hG (by decide) (Nat.le_of_ble_eq_true rfl) ?_
  intro p e s m args below meth c C hr hlk
  rw [xf_X4_lamp] at h
  refine rs_aload_n (i := 0) C dX4_lamp_0 rfl rfl rfl ?_
  refine rg_X4_0 C kk_76 wl_X4_10 dX4_lamp_1 rfl ?_
  refine rs_iload_n (i := 1) C dX4_lamp_4 rfl rfl rfl ?_
  obtain ⟨r2, h1, h⟩ := rs_b1e h
  refine rs_callVq (r0 := r2) (mp := rs_ad G) (S0 := S) C (rs_kd_lt kk_0 (by decide)) (rs_e1 kk_0) rfl (c_X1_lampAt l G hG S 0 a1 kk_0 _ h1) ⟨wl_X4_84, wi_yX1_lampAt, wx_yX1_lampAt, wn_X1, wc_yX1_lampAt⟩ wy_yX1_lampAt (by decide) ⟨rfl, rfl⟩ rfl rfl (Nat.le_of_ble_eq_true rfl) dX4_lamp_5 rfl ?_
  cases r2 with
  | none =>
    replace h := rs_omn h
    refine rs_nstore_n (i := 3) C dX4_lamp_8 rfl (by decide) rfl ?_
    refine rs_nload_n (i := 3) C dX4_lamp_9 rfl rfl rfl ?_
    refine rs_ifnull_n (tgt := 22) C dX4_lamp_10 (by decide) ?_
    refine rs_iconst (v := (-1)) C dX4_lamp_22 (by decide) rfl ?_
    exact rs_iret C hr hlk (rs_pr h) dX4_lamp_23
  | some q3 =>
    replace h := rs_oms h
    obtain ⟨z4, h⟩ := rs_ckp h
    refine rs_astore_n (i := 3) C dX4_lamp_8 rfl (by decide) rfl ?_
    refine rs_aload_n (i := 3) C dX4_lamp_9 rfl rfl rfl ?_
    refine rs_ifnull_r C dX4_lamp_10 rfl ?_
    refine rs_iload_n (i := 2) C dX4_lamp_13 rfl rfl rfl ?_
    refine rs_iconst (v := 0) C dX4_lamp_14 (by decide) rfl ?_
    refine rs_iconst (v := 4) C dX4_lamp_15 (by decide) rfl ?_
    obtain ⟨r6, h5, h⟩ := rs_b1e h
    refine rs_callSi (r0 := r6) (S0 := S) C (c_X4_outside l G hG S a2 0 4 _ h5) ⟨wl_X4_45, ws_yX4_outside, wn_X4, wc_yX4_outside⟩ wy_yX4_outside (by decide) ⟨rfl, rfl⟩ rfl rfl (Nat.le_of_ble_eq_true rfl) dX4_lamp_16 rfl ?_
    refine rs_if_eq (tgt := 24) C dX4_lamp_19 (by decide) rfl (fun z7 => ?_) (fun z7 => ?_)
    · replace h := rs_it z7 h
      refine rs_iload_n (i := 2) C dX4_lamp_24 rfl rfl rfl ?_
      refine rs_iconst (v := 4) C dX4_lamp_25 (by decide) rfl ?_
      refine rs_icmp_ge (tgt := 38) C dX4_lamp_26 (by decide) rfl (fun z8 => ?_) (fun z8 => ?_)
      · replace h := rs_it z8 h
        refine rs_aload_n (i := 3) C dX4_lamp_38 rfl rfl rfl ?_
        refine rs_aload_n (i := 0) C dX4_lamp_39 rfl rfl rfl ?_
        refine rg_X4_0 C kk_76 wl_X4_10 dX4_lamp_40 rfl ?_
        refine rg_X1_3 C kk_0 wl_X4_74 dX4_lamp_43 rfl ?_
        refine rs_iconst (v := 1) C dX4_lamp_46 (by decide) rfl ?_
        obtain ⟨r10, h9, h⟩ := rs_b1e h
        refine rs_callVi (r0 := r10) (S0 := S) C (rs_kd_lt z4 (by decide)) (rs_e0 z4) rfl (c_X0_gives l G hG S q3 (rs_gi S 0 3) 1 z4 _ h9) ⟨wl_X4_93, wi_yX0_gives, wx_yX0_gives, wn_X0, wc_yX0_gives⟩ wy_yX0_gives (by decide) ⟨rfl, rfl⟩ rfl rfl (Nat.le_of_ble_eq_true rfl) dX4_lamp_47 rfl ?_
        exact rs_iret C hr hlk (rs_pr h) dX4_lamp_50
      · replace h := rs_if z8 h
        refine rs_aload_n (i := 3) C dX4_lamp_29 rfl rfl rfl ?_
        refine rg_X0_0 C z4 wl_X4_88 dX4_lamp_30 rfl ?_
        refine rs_iload_n (i := 2) C dX4_lamp_33 rfl rfl rfl ?_
        obtain ⟨z11, h⟩ := rs_ck h
        refine rs_ialdn C (rs_k0a z4) (rs_l0a z4) z11 dX4_lamp_34 rfl ?_
        refine rs_goto (tgt := 50) C dX4_lamp_35 (by decide) ?_
        exact rs_iret C hr hlk (rs_pr h) dX4_lamp_50
    · replace h := rs_if z7 h
      refine rs_iconst (v := (-1)) C dX4_lamp_22 (by decide) rfl ?_
      exact rs_iret C hr hlk (rs_pr h) dX4_lamp_23
def xf_X4_row (S : rs_St) (a1 : Int32) : Option Int32 := rs_b1 (xf_X4_outside S a1 0 7) (fun r2 => if r2 = 0 then if (rs_gi S 0 4) = 0 then some (-2) else if (rs_gi S 0 6) ≤ a1 then some (-4) else if a1 < 0 ∨ 8 ≤ a1.toNatClampNeg then none else some (rs_gi S (0 + 3) a1.toNatClampNeg) else some (-1))
set_option maxRecDepth 100000 in
theorem c_X4_row (l : Launch) (G : rs_G) (hG : rs_ok G) (S : rs_St) (a1 : Int32)  (o : Int32) (h : xf_X4_row S a1 = some o) : Met l yX4_row (rs_wz yX4_row cX4_row 2 (some FieldType.int)) (rs_rm 3) (va_Pc [.ref (rs_ad G 76), .int a1] (rs_pre G S)) (va_Qi (fun r S2 => (r, S2) = (o, S)) (rs_post G) (rs_A G)) 0 0 (rs_A G) := by
  refine rs_met hG (by decide) (Nat.le_of_ble_eq_true rfl) ?_
  intro p e s m args below meth c C hr hlk
  rw [xf_X4_row] at h
  refine rs_iload_n (i := 1) C dX4_row_0 rfl rfl rfl ?_
  refine rs_iconst (v := 0) C dX4_row_1 (by decide) rfl ?_
  refine rs_bipush (v := 7) C dX4_row_2 (by decide) rfl ?_
  obtain ⟨r2, h1, h⟩ := rs_b1e h
  refine rs_callSi (r0 := r2) (S0 := S) C (c_X4_outside l G hG S a1 0 7 _ h1) ⟨wl_X4_45, ws_yX4_outside, wn_X4, wc_yX4_outside⟩ wy_yX4_outside (by decide) ⟨rfl, rfl⟩ rfl rfl (Nat.le_of_ble_eq_true rfl) dX4_row_4 rfl ?_
  refine rs_if_eq (tgt := 12) C dX4_row_7 (by decide) rfl (fun z3 => ?_) (fun z3 => ?_)
  · replace h := rs_it z3 h
    refine rs_aload_n (i := 0) C dX4_row_12 rfl rfl rfl ?_
    refine rg_X4_0 C kk_76 wl_X4_10 dX4_row_13 rfl ?_
    refine rg_X1_4 C kk_0 wl_X4_71 dX4_row_16 rfl ?_
    refine rs_if_ne (tgt := 25) C dX4_row_19 (by decide) rfl (fun z4 => ?_) (fun z4 => ?_)
    · replace h := rs_if z4 h
      refine rs_iload_n (i := 1) C dX4_row_25 rfl rfl rfl ?_
      refine rs_aload_n (i := 0) C dX4_row_26 rfl rfl rfl ?_
      refine rg_X4_0 C kk_76 wl_X4_10 dX4_row_27 rfl ?_
      refine rg_X1_6 C kk_0 wl_X4_97 dX4_row_30 rfl ?_
      refine rs_icmp_ge (tgt := 48) C dX4_row_33 (by decide) rfl (fun z5 => ?_) (fun z5 => ?_)
      · replace h := rs_it z5 h
        refine rs_bipush (v := (-4)) C dX4_row_48 (by decide) rfl ?_
        exact rs_iret C hr hlk (rs_pr h) dX4_row_50
      · replace h := rs_if z5 h
        refine rs_aload_n (i := 0) C dX4_row_36 rfl rfl rfl ?_
        refine rg_X4_0 C kk_76 wl_X4_10 dX4_row_37 rfl ?_
        refine rg_X1_5 C kk_0 wl_X4_100 dX4_row_40 rfl ?_
        refine rs_iload_n (i := 1) C dX4_row_43 rfl rfl rfl ?_
        obtain ⟨z6, h⟩ := rs_ck h
        refine rs_ialdn C (rs_k1c kk_0) (rs_l1c kk_0) z6 dX4_row_44 rfl ?_
        refine rs_goto (tgt := 50) C dX4_row_45 (by decide) ?_
        exact rs_iret C hr hlk (rs_pr h) dX4_row_50
    · replace h := rs_it z4 h
      refine rs_bipush (v := (-2)) C dX4_row_22 (by decide) rfl ?_
      exact rs_iret C hr hlk (rs_pr h) dX4_row_24
  · replace h := rs_if z3 h
    refine rs_iconst (v := (-1)) C dX4_row_10 (by decide) rfl ?_
    exact rs_iret C hr hlk (rs_pr h) dX4_row_11
def xf_X4_alter (S : rs_St) (a1 : Int32) (a2 : Int32) (a3 : Int32) : Option (Int32 × rs_St) := rs_b1 (xf_X1_lampAt S 0 a1) (fun r2 => rs_om r2 (some ((-1), S)) (fun q3 => if rs_kd q3 = 0 then rs_b1 (xf_X4_isPart S a2 a3) (fun r6 => if r6 = 0 then some ((-1), S) else if a2 < 0 ∨ 4 ≤ a2.toNatClampNeg then none else rs_lt (rs_gi S (q3 + 1) a2.toNatClampNeg) (fun x9 => rs_b1 (xf_X0_become S q3 a2 a3) (fun S11 => some (x9, S11)))) else none))
set_option maxRecDepth 100000 in
theorem c_X4_alter (l : Launch) (G : rs_G) (hG : rs_ok G) (S : rs_St) (a1 : Int32) (a2 : Int32) (a3 : Int32)  (o : (Int32 × rs_St)) (h : xf_X4_alter S a1 a2 a3 = some o) : Met l yX4_alter (rs_wz yX4_alter cX4_alter 6 (some FieldType.int)) (rs_rm 5) (va_Pc [.ref (rs_ad G 76), .int a1, .int a2, .int a3] (rs_pre G S)) (va_Qi (fun r S2 => (r, S2) = o) (rs_post G) (rs_A G)) 0 0 (rs_A G) := by
  refine rs_met hG (by decide) (Nat.le_of_ble_eq_true rfl) ?_
  intro p e s m args below meth c C hr hlk
  rw [xf_X4_alter] at h
  refine rs_aload_n (i := 0) C dX4_alter_0 rfl rfl rfl ?_
  refine rg_X4_0 C kk_76 wl_X4_10 dX4_alter_1 rfl ?_
  refine rs_iload_n (i := 1) C dX4_alter_4 rfl rfl rfl ?_
  obtain ⟨r2, h1, h⟩ := rs_b1e h
  refine rs_callVq (r0 := r2) (mp := rs_ad G) (S0 := S) C (rs_kd_lt kk_0 (by decide)) (rs_e1 kk_0) rfl (c_X1_lampAt l G hG S 0 a1 kk_0 _ h1) ⟨wl_X4_84, wi_yX1_lampAt, wx_yX1_lampAt, wn_X1, wc_yX1_lampAt⟩ wy_yX1_lampAt (by decide) ⟨rfl, rfl⟩ rfl rfl (Nat.le_of_ble_eq_true rfl) dX4_alter_5 rfl ?_
  cases r2 with
  | none =>
    replace h := rs_omn h
    refine rs_nstore C dX4_alter_8 (by decide) rfl ?_
    refine rs_nload C dX4_alter_10 rfl rfl ?_
    refine rs_ifnull_n (tgt := 23) C dX4_alter_12 (by decide) ?_
    refine rs_iconst (v := (-1)) C dX4_alter_23 (by decide) rfl ?_
    exact rs_iret C hr hlk h dX4_alter_24
  | some q3 =>
    replace h := rs_oms h
    obtain ⟨z4, h⟩ := rs_ckp h
    refine rs_astore C dX4_alter_8 (by decide) rfl ?_
    refine rs_aload C dX4_alter_10 rfl rfl ?_
    refine rs_ifnull_r C dX4_alter_12 rfl ?_
    refine rs_iload_n (i := 2) C dX4_alter_15 rfl rfl rfl ?_
    refine rs_iload_n (i := 3) C dX4_alter_16 rfl rfl rfl ?_
    obtain ⟨r6, h5, h⟩ := rs_b1e h
    refine rs_callSi (r0 := r6) (S0 := S) C (c_X4_isPart l G hG S a2 a3 _ h5) ⟨wl_X4_103, ws_yX4_isPart, wn_X4, wc_yX4_isPart⟩ wy_yX4_isPart (by decide) ⟨rfl, rfl⟩ rfl rfl (Nat.le_of_ble_eq_true rfl) dX4_alter_17 rfl ?_
    refine rs_if_ne (tgt := 25) C dX4_alter_20 (by decide) rfl (fun z7 => ?_) (fun z7 => ?_)
    · replace h := rs_if z7 h
      refine rs_aload C dX4_alter_25 rfl rfl ?_
      refine rg_X0_0 C z4 wl_X4_88 dX4_alter_27 rfl ?_
      refine rs_iload_n (i := 2) C dX4_alter_30 rfl rfl rfl ?_
      obtain ⟨z8, h⟩ := rs_ck h
      refine rs_ialdn C (rs_k0a z4) (rs_l0a z4) z8 dX4_alter_31 rfl ?_
      refine rs_nmi h (fun x9 h => ?_)
      refine rs_istore C dX4_alter_32 (by decide) rfl ?_
      refine rs_aload C dX4_alter_34 rfl rfl ?_
      refine rs_iload_n (i := 2) C dX4_alter_36 rfl rfl rfl ?_
      refine rs_iload_n (i := 3) C dX4_alter_37 rfl rfl rfl ?_
      obtain ⟨S11, h10, h⟩ := rs_b1e h
      refine rs_callVv (S0 := S11) C (rs_kd_lt z4 (by decide)) (rs_e0 z4) rfl (c_X0_become l G hG S q3 a2 a3 z4 _ h10) ⟨wl_X4_107, wi_yX0_become, wx_yX0_become, wn_X0, wc_yX0_become⟩ wy_yX0_become (by decide) ⟨rfl, rfl⟩ rfl rfl (Nat.le_of_ble_eq_true rfl) dX4_alter_38 rfl ?_
      refine rs_iload C dX4_alter_41 rfl rfl ?_
      exact rs_iret C hr hlk h dX4_alter_43
    · replace h := rs_it z7 h
      refine rs_iconst (v := (-1)) C dX4_alter_23 (by decide) rfl ?_
      exact rs_iret C hr hlk h dX4_alter_24
def xf_X4_isRule (S : rs_St) (a1 : Int32) (a2 : Int32) : Option Int32 := if a1 < 0 then some 0 else if 4 ≤ a1 then some 0 else if a1 < 0 ∨ 4 ≤ a1.toNatClampNeg then none else if a2 < (rs_sv 2 a1.toNatClampNeg) then some 0 else if a1 < 0 ∨ 4 ≤ a1.toNatClampNeg then none else if (rs_sv 3 a1.toNatClampNeg) < a2 then some 0 else some 1
set_option maxRecDepth 100000 in
theorem c_X4_isRule (l : Launch) (G : rs_G) (hG : rs_ok G) (S : rs_St) (a1 : Int32) (a2 : Int32)  (o : Int32) (h : xf_X4_isRule S a1 a2 = some o) : Met l yX4_isRule (rs_wz yX4_isRule cX4_isRule 2 (some FieldType.boolean)) (rs_rm 2) (va_Pc [.int a1, .int a2] (rs_pre G S)) (va_Qi (fun r S2 => (r, S2) = (o, S)) (rs_post G) (rs_A G)) 0 0 (rs_A G) := by
  refine rs_met hG (by decide) (Nat.le_of_ble_eq_true rfl) ?_
  intro p e s m args below meth c C hr hlk
  rw [xf_X4_isRule] at h
  refine rs_iload_n (i := 0) C dX4_isRule_0 rfl rfl rfl ?_
  refine rs_if_lt (tgt := 31) C dX4_isRule_1 (by decide) rfl (fun z1 => ?_) (fun z1 => ?_)
  · replace h := rs_it z1 h
    refine rs_iconst (v := 0) C dX4_isRule_31 (by decide) rfl ?_
    exact rs_zret C hr hlk (Or.inl rfl) (rs_pr h) dX4_isRule_32
  · replace h := rs_if z1 h
    refine rs_iload_n (i := 0) C dX4_isRule_4 rfl rfl rfl ?_
    refine rs_iconst (v := 4) C dX4_isRule_5 (by decide) rfl ?_
    refine rs_icmp_ge (tgt := 31) C dX4_isRule_6 (by decide) rfl (fun z2 => ?_) (fun z2 => ?_)
    · replace h := rs_it z2 h
      refine rs_iconst (v := 0) C dX4_isRule_31 (by decide) rfl ?_
      exact rs_zret C hr hlk (Or.inl rfl) (rs_pr h) dX4_isRule_32
    · replace h := rs_if z2 h
      refine rs_iload_n (i := 1) C dX4_isRule_9 rfl rfl rfl ?_
      refine rs_gets C 2 (by decide) wl_X4_148 dX4_isRule_10 rfl ?_
      refine rs_iload_n (i := 0) C dX4_isRule_13 rfl rfl rfl ?_
      obtain ⟨z3, h⟩ := rs_ck h
      refine rs_sald C 2 (by decide) z3 dX4_isRule_14 rfl ?_
      refine rs_icmp_lt (tgt := 31) C dX4_isRule_15 (by decide) rfl (fun z4 => ?_) (fun z4 => ?_)
      · replace h := rs_it z4 h
        refine rs_iconst (v := 0) C dX4_isRule_31 (by decide) rfl ?_
        exact rs_zret C hr hlk (Or.inl rfl) (rs_pr h) dX4_isRule_32
      · replace h := rs_if z4 h
        refine rs_iload_n (i := 1) C dX4_isRule_18 rfl rfl rfl ?_
        refine rs_gets C 3 (by decide) wl_X4_151 dX4_isRule_19 rfl ?_
        refine rs_iload_n (i := 0) C dX4_isRule_22 rfl rfl rfl ?_
        obtain ⟨z5, h⟩ := rs_ck h
        refine rs_sald C 3 (by decide) z5 dX4_isRule_23 rfl ?_
        refine rs_icmp_gt (tgt := 31) C dX4_isRule_24 (by decide) rfl (fun z6 => ?_) (fun z6 => ?_)
        · replace h := rs_it z6 h
          refine rs_iconst (v := 0) C dX4_isRule_31 (by decide) rfl ?_
          exact rs_zret C hr hlk (Or.inl rfl) (rs_pr h) dX4_isRule_32
        · replace h := rs_if z6 h
          refine rs_iconst (v := 1) C dX4_isRule_27 (by decide) rfl ?_
          refine rs_goto (tgt := 32) C dX4_isRule_28 (by decide) ?_
          exact rs_zret C hr hlk (Or.inr rfl) (rs_pr h) dX4_isRule_32
def xf_X4_tell (S : rs_St) (a1 : Int32) (a2 : Int32) : Option (Int32 × rs_St) := rs_b1 (xf_X4_isRule S a1 a2) (fun r2 => if r2 = 0 then some ((-1), S) else if a1 < 0 ∨ 4 ≤ a1.toNatClampNeg then none else rs_lt (rs_gi S (0 + 2) a1.toNatClampNeg) (fun x5 => if a1 < 0 ∨ 4 ≤ a1.toNatClampNeg then none else rs_lt (rs_si S (0 + 2) a1.toNatClampNeg a2) (fun S6 => some (x5, S6))))
set_option maxRecDepth 100000 in
theorem c_X4_tell (l : Launch) (G : rs_G) (hG : rs_ok G) (S : rs_St) (a1 : Int32) (a2 : Int32)  (o : (Int32 × rs_St)) (h : xf_X4_tell S a1 a2 = some o) : Met l yX4_tell (rs_wz yX4_tell cX4_tell 4 (some FieldType.int)) (rs_rm 3) (va_Pc [.ref (rs_ad G 76), .int a1, .int a2] (rs_pre G S)) (va_Qi (fun r S2 => (r, S2) = o) (rs_post G) (rs_A G)) 0 0 (rs_A G) := by
  refine rs_met hG (by decide) (Nat.le_of_ble_eq_true rfl) ?_
  intro p e s m args below meth c C hr hlk
  rw [xf_X4_tell] at h
  refine rs_iload_n (i := 1) C dX4_tell_0 rfl rfl rfl ?_
  refine rs_iload_n (i := 2) C dX4_tell_1 rfl rfl rfl ?_
  obtain ⟨r2, h1, h⟩ := rs_b1e h
  refine rs_callSi (r0 := r2) (S0 := S) C (c_X4_isRule l G hG S a1 a2 _ h1) ⟨wl_X4_111, ws_yX4_isRule, wn_X4, wc_yX4_isRule⟩ wy_yX4_isRule (by decide) ⟨rfl, rfl⟩ rfl rfl (Nat.le_of_ble_eq_true rfl) dX4_tell_2 rfl ?_
  refine rs_if_ne (tgt := 10) C dX4_tell_5 (by decide) rfl (fun z3 => ?_) (fun z3 => ?_)
  · replace h := rs_if z3 h
    refine rs_aload_n (i := 0) C dX4_tell_10 rfl rfl rfl ?_
    refine rg_X4_0 C kk_76 wl_X4_10 dX4_tell_11 rfl ?_
    refine rg_X1_2 C kk_0 wl_X4_77 dX4_tell_14 rfl ?_
    refine rs_iload_n (i := 1) C dX4_tell_17 rfl rfl rfl ?_
    obtain ⟨z4, h⟩ := rs_ck h
    refine rs_ialdn C (rs_k1b kk_0) (rs_l1b kk_0) z4 dX4_tell_18 rfl ?_
    refine rs_nmi h (fun x5 h => ?_)
    refine rs_istore_n (i := 3) C dX4_tell_19 rfl (by decide) rfl ?_
    refine rs_aload_n (i := 0) C dX4_tell_20 rfl rfl rfl ?_
    refine rg_X4_0 C kk_76 wl_X4_10 dX4_tell_21 rfl ?_
    refine rg_X1_2 C kk_0 wl_X4_77 dX4_tell_24 rfl ?_
    refine rs_iload_n (i := 1) C dX4_tell_27 rfl rfl rfl ?_
    refine rs_iload_n (i := 2) C dX4_tell_28 rfl rfl rfl ?_
    obtain ⟨z7, h⟩ := rs_ck h
    refine rs_iastn C (rs_k1b kk_0) (rs_l1b kk_0) z7 dX4_tell_29 rfl h (fun S6 h => ?_)
    refine rs_iload_n (i := 3) C dX4_tell_30 rfl rfl rfl ?_
    exact rs_iret C hr hlk h dX4_tell_31
  · replace h := rs_it z3 h
    refine rs_iconst (v := (-1)) C dX4_tell_8 (by decide) rfl ?_
    exact rs_iret C hr hlk h dX4_tell_9
def xf_X4_put (S : rs_St) (a1 : Int32) (a2 : Int32) (a3 : Int32) : Option (Int32 × rs_St) := rs_b1 (xf_X4_isPart S 0 a1) (fun r2 => if r2 = 0 then some ((-1), S) else rs_b1 (xf_X4_isPart S 1 a2) (fun r5 => if r5 = 0 then some ((-1), S) else rs_b1 (xf_X4_isPart S 2 a3) (fun r8 => if r8 = 0 then some ((-1), S) else rs_b2 (xf_X1_addLamp S 0 a1 a2 a3 0) (fun r12 S11 => if r12 = 0 then some ((-3), S11) else some ((rs_gi S11 0 1), S11)))))
set_option maxRecDepth 100000 in
theorem c_X4_put (l : Launch) (G : rs_G) (hG : rs_ok G) (S : rs_St) (a1 : Int32) (a2 : Int32) (a3 : Int32)  (o : (Int32 × rs_St)) (h : xf_X4_put S a1 a2 a3 = some o) : Met l yX4_put (rs_wz yX4_put cX4_put 4 (some FieldType.int)) (rs_rm 6) (va_Pc [.ref (rs_ad G 76), .int a1, .int a2, .int a3] (rs_pre G S)) (va_Qi (fun r S2 => (r, S2) = o) (rs_post G) (rs_A G)) 0 0 (rs_A G) := by
  refine rs_met hG (by decide) (Nat.le_of_ble_eq_true rfl) ?_
  intro p e s m args below meth c C hr hlk
  rw [xf_X4_put] at h
  refine rs_iconst (v := 0) C dX4_put_0 (by decide) rfl ?_
  refine rs_iload_n (i := 1) C dX4_put_1 rfl rfl rfl ?_
  obtain ⟨r2, h1, h⟩ := rs_b1e h
  refine rs_callSi (r0 := r2) (S0 := S) C (c_X4_isPart l G hG S 0 a1 _ h1) ⟨wl_X4_103, ws_yX4_isPart, wn_X4, wc_yX4_isPart⟩ wy_yX4_isPart (by decide) ⟨rfl, rfl⟩ rfl rfl (Nat.le_of_ble_eq_true rfl) dX4_put_2 rfl ?_
  refine rs_if_eq (tgt := 24) C dX4_put_5 (by decide) rfl (fun z3 => ?_) (fun z3 => ?_)
  · replace h := rs_it z3 h
    refine rs_iconst (v := (-1)) C dX4_put_24 (by decide) rfl ?_
    exact rs_iret C hr hlk h dX4_put_25
  · replace h := rs_if z3 h
    refine rs_iconst (v := 1) C dX4_put_8 (by decide) rfl ?_
    refine rs_iload_n (i := 2) C dX4_put_9 rfl rfl rfl ?_
    obtain ⟨r5, h4, h⟩ := rs_b1e h
    refine rs_callSi (r0 := r5) (S0 := S) C (c_X4_isPart l G hG S 1 a2 _ h4) ⟨wl_X4_103, ws_yX4_isPart, wn_X4, wc_yX4_isPart⟩ wy_yX4_isPart (by decide) ⟨rfl, rfl⟩ rfl rfl (Nat.le_of_ble_eq_true rfl) dX4_put_10 rfl ?_
    refine rs_if_eq (tgt := 24) C dX4_put_13 (by decide) rfl (fun z6 => ?_) (fun z6 => ?_)
    · replace h := rs_it z6 h
      refine rs_iconst (v := (-1)) C dX4_put_24 (by decide) rfl ?_
      exact rs_iret C hr hlk h dX4_put_25
    · replace h := rs_if z6 h
      refine rs_iconst (v := 2) C dX4_put_16 (by decide) rfl ?_
      refine rs_iload_n (i := 3) C dX4_put_17 rfl rfl rfl ?_
      obtain ⟨r8, h7, h⟩ := rs_b1e h
      refine rs_callSi (r0 := r8) (S0 := S) C (c_X4_isPart l G hG S 2 a3 _ h7) ⟨wl_X4_103, ws_yX4_isPart, wn_X4, wc_yX4_isPart⟩ wy_yX4_isPart (by decide) ⟨rfl, rfl⟩ rfl rfl (Nat.le_of_ble_eq_true rfl) dX4_put_18 rfl ?_
      refine rs_if_ne (tgt := 26) C dX4_put_21 (by decide) rfl (fun z9 => ?_) (fun z9 => ?_)
      · replace h := rs_if z9 h
        refine rs_aload_n (i := 0) C dX4_put_26 rfl rfl rfl ?_
        refine rg_X4_0 C kk_76 wl_X4_10 dX4_put_27 rfl ?_
        refine rs_iload_n (i := 1) C dX4_put_30 rfl rfl rfl ?_
        refine rs_iload_n (i := 2) C dX4_put_31 rfl rfl rfl ?_
        refine rs_iload_n (i := 3) C dX4_put_32 rfl rfl rfl ?_
        refine rs_iconst (v := 0) C dX4_put_33 (by decide) rfl ?_
        obtain ⟨r12, S11, h10, h⟩ := rs_b2e h
        refine rs_callVi (r0 := r12) (S0 := S11) C (rs_kd_lt kk_0 (by decide)) (rs_e1 kk_0) rfl (c_X1_addLamp l G hG S 0 a1 a2 a3 0 kk_0 _ h10) ⟨wl_X4_114, wi_yX1_addLamp, wx_yX1_addLamp, wn_X1, wc_yX1_addLamp⟩ wy_yX1_addLamp (by decide) ⟨rfl, rfl⟩ rfl rfl (Nat.le_of_ble_eq_true rfl) dX4_put_34 rfl ?_
        refine rs_if_eq (tgt := 50) C dX4_put_37 (by decide) rfl (fun z13 => ?_) (fun z13 => ?_)
        · replace h := rs_it z13 h
          refine rs_bipush (v := (-3)) C dX4_put_50 (by decide) rfl ?_
          exact rs_iret C hr hlk h dX4_put_52
        · replace h := rs_if z13 h
          refine rs_aload_n (i := 0) C dX4_put_40 rfl rfl rfl ?_
          refine rg_X4_0 C kk_76 wl_X4_10 dX4_put_41 rfl ?_
          refine rg_X1_1 C kk_0 wl_X4_68 dX4_put_44 rfl ?_
          refine rs_goto (tgt := 52) C dX4_put_47 (by decide) ?_
          exact rs_iret C hr hlk h dX4_put_52
      · replace h := rs_it z9 h
        refine rs_iconst (v := (-1)) C dX4_put_24 (by decide) rfl ?_
        exact rs_iret C hr hlk h dX4_put_25
def xf_X4_cut (S : rs_St) (a1 : Int32) : Option (Int32 × rs_St) := rs_b1 (xf_X4_outside S a1 0 (rs_gi S 0 1)) (fun r2 => if r2 = 0 then rs_lt (rs_gi S 0 1) (fun x4 => rs_lt (rs_si S 0 1 a1) (fun S5 => some (x4, S5))) else some ((-1), S))
set_option maxRecDepth 100000 in
theorem c_X4_cut (l : Launch) (G : rs_G) (hG : rs_ok G) (S : rs_St) (a1 : Int32)  (o : (Int32 × rs_St)) (h : xf_X4_cut S a1 = some o) : Met l yX4_cut (rs_wz yX4_cut cX4_cut 3 (some FieldType.int)) (rs_rm 3) (va_Pc [.ref (rs_ad G 76), .int a1] (rs_pre G S)) (va_Qi (fun r S2 => (r, S2) = o) (rs_post G) (rs_A G)) 0 0 (rs_A G) := by
  refine rs_met hG (by decide) (Nat.le_of_ble_eq_true rfl) ?_
  intro p e s m args below meth c C hr hlk
  rw [xf_X4_cut] at h
  refine rs_iload_n (i := 1) C dX4_cut_0 rfl rfl rfl ?_
  refine rs_iconst (v := 0) C dX4_cut_1 (by decide) rfl ?_
  refine rs_aload_n (i := 0) C dX4_cut_2 rfl rfl rfl ?_
  refine rg_X4_0 C kk_76 wl_X4_10 dX4_cut_3 rfl ?_
  refine rg_X1_1 C kk_0 wl_X4_68 dX4_cut_6 rfl ?_
  obtain ⟨r2, h1, h⟩ := rs_b1e h
  refine rs_callSi (r0 := r2) (S0 := S) C (c_X4_outside l G hG S a1 0 (rs_gi S 0 1) _ h1) ⟨wl_X4_45, ws_yX4_outside, wn_X4, wc_yX4_outside⟩ wy_yX4_outside (by decide) ⟨rfl, rfl⟩ rfl rfl (Nat.le_of_ble_eq_true rfl) dX4_cut_9 rfl ?_
  refine rs_if_eq (tgt := 17) C dX4_cut_12 (by decide) rfl (fun z3 => ?_) (fun z3 => ?_)
  · replace h := rs_it z3 h
    refine rs_aload_n (i := 0) C dX4_cut_17 rfl rfl rfl ?_
    refine rg_X4_0 C kk_76 wl_X4_10 dX4_cut_18 rfl ?_
    refine rg_X1_1 C kk_0 wl_X4_68 dX4_cut_21 rfl ?_
    refine rs_nmi h (fun x4 h => ?_)
    refine rs_istore_n (i := 2) C dX4_cut_24 rfl (by decide) rfl ?_
    refine rs_aload_n (i := 0) C dX4_cut_25 rfl rfl rfl ?_
    refine rg_X4_0 C kk_76 wl_X4_10 dX4_cut_26 rfl ?_
    refine rs_iload_n (i := 1) C dX4_cut_29 rfl rfl rfl ?_
    refine rp_X1_1 C kk_0 wl_X4_68 dX4_cut_30 rfl h (fun S5 h => ?_)
    refine rs_iload_n (i := 2) C dX4_cut_33 rfl rfl rfl ?_
    exact rs_iret C hr hlk h dX4_cut_34
  · replace h := rs_if z3 h
    refine rs_iconst (v := (-1)) C dX4_cut_15 (by decide) rfl ?_
    exact rs_iret C hr hlk h dX4_cut_16
def xf_X4_rest (S : rs_St) (a1 : Int32) : Option (Int32 × rs_St) := rs_b1 (xf_X4_outside S a1 0 60) (fun r2 => if r2 = 0 then if ((rs_gi S 0 3) + a1) < 100000 then rs_lt (rs_si S 0 3 ((rs_gi S 0 3) + a1)) (fun S5 => some ((rs_gi S5 0 3), S5)) else some ((-3), S) else some ((-1), S))
set_option maxRecDepth 100000 in
theorem c_X4_rest (l : Launch) (G : rs_G) (hG : rs_ok G) (S : rs_St) (a1 : Int32)  (o : (Int32 × rs_St)) (h : xf_X4_rest S a1 = some o) : Met l yX4_rest (rs_wz yX4_rest cX4_rest 2 (some FieldType.int)) (rs_rm 3) (va_Pc [.ref (rs_ad G 76), .int a1] (rs_pre G S)) (va_Qi (fun r S2 => (r, S2) = o) (rs_post G) (rs_A G)) 0 0 (rs_A G) := by
  refine rs_met hG (by decide) (Nat.le_of_ble_eq_true rfl) ?_
  intro p e s m args below meth c C hr hlk
  rw [xf_X4_rest] at h
  refine rs_iload_n (i := 1) C dX4_rest_0 rfl rfl rfl ?_
  refine rs_iconst (v := 0) C dX4_rest_1 (by decide) rfl ?_
  refine rs_bipush (v := 60) C dX4_rest_2 (by decide) rfl ?_
  obtain ⟨r2, h1, h⟩ := rs_b1e h
  refine rs_callSi (r0 := r2) (S0 := S) C (c_X4_outside l G hG S a1 0 60 _ h1) ⟨wl_X4_45, ws_yX4_outside, wn_X4, wc_yX4_outside⟩ wy_yX4_outside (by decide) ⟨rfl, rfl⟩ rfl rfl (Nat.le_of_ble_eq_true rfl) dX4_rest_4 rfl ?_
  refine rs_if_eq (tgt := 12) C dX4_rest_7 (by decide) rfl (fun z3 => ?_) (fun z3 => ?_)
  · replace h := rs_it z3 h
    refine rs_aload_n (i := 0) C dX4_rest_12 rfl rfl rfl ?_
    refine rg_X4_0 C kk_76 wl_X4_10 dX4_rest_13 rfl ?_
    refine rg_X1_3 C kk_0 wl_X4_74 dX4_rest_16 rfl ?_
    refine rs_iload_n (i := 1) C dX4_rest_19 rfl rfl rfl ?_
    refine rs_iadd C dX4_rest_20 rfl ?_
    refine rs_ldc C dX4_rest_21 wk_X4_118 rfl ?_
    refine rs_icmp_lt (tgt := 29) C dX4_rest_23 (by decide) rfl (fun z4 => ?_) (fun z4 => ?_)
    · replace h := rs_it z4 h
      refine rs_aload_n (i := 0) C dX4_rest_29 rfl rfl rfl ?_
      refine rg_X4_0 C kk_76 wl_X4_10 dX4_rest_30 rfl ?_
      refine rs_dup C dX4_rest_33 rfl rfl ?_
      refine rg_X1_3 C kk_0 wl_X4_74 dX4_rest_34 rfl ?_
      refine rs_iload_n (i := 1) C dX4_rest_37 rfl rfl rfl ?_
      refine rs_iadd C dX4_rest_38 rfl ?_
      refine rp_X1_3 C kk_0 wl_X4_74 dX4_rest_39 rfl h (fun S5 h => ?_)
      refine rs_aload_n (i := 0) C dX4_rest_42 rfl rfl rfl ?_
      refine rg_X4_0 C kk_76 wl_X4_10 dX4_rest_43 rfl ?_
      refine rg_X1_3 C kk_0 wl_X4_74 dX4_rest_46 rfl ?_
      exact rs_iret C hr hlk h dX4_rest_49
    · replace h := rs_if z4 h
      refine rs_bipush (v := (-3)) C dX4_rest_26 (by decide) rfl ?_
      exact rs_iret C hr hlk h dX4_rest_28
  · replace h := rs_if z3 h
    refine rs_iconst (v := (-1)) C dX4_rest_10 (by decide) rfl ?_
    exact rs_iret C hr hlk h dX4_rest_11
def xf_X4_shoot (S : rs_St) (a1 : Int32) : Option (Int32 × rs_St) := rs_b1 (xf_X4_outside S a1 0 40) (fun r2 => if r2 = 0 then rs_b1 (xf_X1_startOf S 0 a1) (fun r5 => if r5 < 100000 then rs_b1 (xf_X1_greatestBands S 0 a1) (fun r8 => rs_b1 (xf_X1_take S 0 a1) (fun S10 => some (r8, S10))) else some ((-3), S)) else some ((-1), S))
set_option maxRecDepth 100000 in
theorem c_X4_shoot (l : Launch) (G : rs_G) (hG : rs_ok G) (S : rs_St) (a1 : Int32)  (o : (Int32 × rs_St)) (h : xf_X4_shoot S a1 = some o) : Met l yX4_shoot (rs_wz yX4_shoot cX4_shoot 3 (some FieldType.int)) (rs_rm 7) (va_Pc [.ref (rs_ad G 76), .int a1] (rs_pre G S)) (va_Qi (fun r S2 => (r, S2) = o) (rs_post G) (rs_A G)) 0 0 (rs_A G) := by
  refine rs_met hG (by decide) (Nat.le_of_ble_eq_true rfl) ?_
  intro p e s m args below meth c C hr hlk
  rw [xf_X4_shoot] at h
  refine rs_iload_n (i := 1) C dX4_shoot_0 rfl rfl rfl ?_
  refine rs_iconst (v := 0) C dX4_shoot_1 (by decide) rfl ?_
  refine rs_bipush (v := 40) C dX4_shoot_2 (by decide) rfl ?_
  obtain ⟨r2, h1, h⟩ := rs_b1e h
  refine rs_callSi (r0 := r2) (S0 := S) C (c_X4_outside l G hG S a1 0 40 _ h1) ⟨wl_X4_45, ws_yX4_outside, wn_X4, wc_yX4_outside⟩ wy_yX4_outside (by decide) ⟨rfl, rfl⟩ rfl rfl (Nat.le_of_ble_eq_true rfl) dX4_shoot_4 rfl ?_
  refine rs_if_eq (tgt := 12) C dX4_shoot_7 (by decide) rfl (fun z3 => ?_) (fun z3 => ?_)
  · replace h := rs_it z3 h
    refine rs_aload_n (i := 0) C dX4_shoot_12 rfl rfl rfl ?_
    refine rg_X4_0 C kk_76 wl_X4_10 dX4_shoot_13 rfl ?_
    refine rs_iload_n (i := 1) C dX4_shoot_16 rfl rfl rfl ?_
    obtain ⟨r5, h4, h⟩ := rs_b1e h
    refine rs_callVi (r0 := r5) (S0 := S) C (rs_kd_lt kk_0 (by decide)) (rs_e1 kk_0) rfl (c_X1_startOf l G hG S 0 a1 kk_0 _ h4) ⟨wl_X4_119, wi_yX1_startOf, wx_yX1_startOf, wn_X1, wc_yX1_startOf⟩ wy_yX1_startOf (by decide) ⟨rfl, rfl⟩ rfl rfl (Nat.le_of_ble_eq_true rfl) dX4_shoot_17 rfl ?_
    refine rs_ldc C dX4_shoot_20 wk_X4_118 rfl ?_
    refine rs_icmp_lt (tgt := 28) C dX4_shoot_22 (by decide) rfl (fun z6 => ?_) (fun z6 => ?_)
    · replace h := rs_it z6 h
      refine rs_aload_n (i := 0) C dX4_shoot_28 rfl rfl rfl ?_
      refine rg_X4_0 C kk_76 wl_X4_10 dX4_shoot_29 rfl ?_
      refine rs_iload_n (i := 1) C dX4_shoot_32 rfl rfl rfl ?_
      obtain ⟨r8, h7, h⟩ := rs_b1e h
      refine rs_callVi (r0 := r8) (S0 := S) C (rs_kd_lt kk_0 (by decide)) (rs_e1 kk_0) rfl (c_X1_greatestBands l G hG S 0 a1 kk_0 _ h7) ⟨wl_X4_123, wi_yX1_greatestBands, wx_yX1_greatestBands, wn_X1, wc_yX1_greatestBands⟩ wy_yX1_greatestBands (by decide) ⟨rfl, rfl⟩ rfl rfl (Nat.le_of_ble_eq_true rfl) dX4_shoot_33 rfl ?_
      refine rs_istore_n (i := 2) C dX4_shoot_36 rfl (by decide) rfl ?_
      refine rs_aload_n (i := 0) C dX4_shoot_37 rfl rfl rfl ?_
      refine rg_X4_0 C kk_76 wl_X4_10 dX4_shoot_38 rfl ?_
      refine rs_iload_n (i := 1) C dX4_shoot_41 rfl rfl rfl ?_
      obtain ⟨S10, h9, h⟩ := rs_b1e h
      refine rs_callVv (S0 := S10) C (rs_kd_lt kk_0 (by decide)) (rs_e1 kk_0) rfl (c_X1_take l G hG S 0 a1 kk_0 _ h9) ⟨wl_X4_126, wi_yX1_take, wx_yX1_take, wn_X1, wc_yX1_take⟩ wy_yX1_take (by decide) ⟨rfl, rfl⟩ rfl rfl (Nat.le_of_ble_eq_true rfl) dX4_shoot_42 rfl ?_
      refine rs_iload_n (i := 2) C dX4_shoot_45 rfl rfl rfl ?_
      exact rs_iret C hr hlk h dX4_shoot_46
    · replace h := rs_if z6 h
      refine rs_bipush (v := (-3)) C dX4_shoot_25 (by decide) rfl ?_
      exact rs_iret C hr hlk h dX4_shoot_27
  · replace h := rs_if z3 h
    refine rs_iconst (v := (-1)) C dX4_shoot_10 (by decide) rfl ?_
    exact rs_iret C hr hlk h dX4_shoot_11
def xf_X4_runs (S : rs_St) (a1 : Int32) (a2 : Int32) : Option Int32 := rs_b1 (xf_X4_outside S a1 0 40) (fun r2 => if r2 = 0 then if a2 = 0 then rs_b1 (xf_X1_greatestBands S 0 a1) (fun r7 => some r7) else if a2 = 1 then rs_b1 (xf_X1_leastBands S 0 a1) (fun r10 => some r10) else if a2 = 2 then rs_b1 (xf_X1_lightOfShots S 0 a1) (fun r13 => some r13) else if a2 = 3 then rs_b1 (xf_X1_fullRows S 0 a1) (fun r16 => some r16) else some (-1) else some (-1))
set_option maxRecDepth 100000 in
theorem c_X4_runs (l : Launch) (G : rs_G) (hG : rs_ok G) (S : rs_St) (a1 : Int32) (a2 : Int32)  (o : Int32) (h : xf_X4_runs S a1 a2 = some o) : Met l yX4_runs (rs_wz yX4_runs cX4_runs 3 (some FieldType.int)) (rs_rm 7) (va_Pc [.ref (rs_ad G 76), .int a1, .int a2] (rs_pre G S)) (va_Qi (fun r S2 => (r, S2) = (o, S)) (rs_post G) (rs_A G)) 0 0 (rs_A G) := by
  refine rs_met hG (by decide) (Nat.le_of_ble_eq_true rfl) ?_
  intro p e s m args below meth c C hr hlk
  rw [xf_X4_runs] at h
  refine rs_iload_n (i := 1) C dX4_runs_0 rfl rfl rfl ?_
  refine rs_iconst (v := 0) C dX4_runs_1 (by decide) rfl ?_
  refine rs_bipush (v := 40) C dX4_runs_2 (by decide) rfl ?_
  obtain ⟨r2, h1, h⟩ := rs_b1e h
  refine rs_callSi (r0 := r2) (S0 := S) C (c_X4_outside l G hG S a1 0 40 _ h1) ⟨wl_X4_45, ws_yX4_outside, wn_X4, wc_yX4_outside⟩ wy_yX4_outside (by decide) ⟨rfl, rfl⟩ rfl rfl (Nat.le_of_ble_eq_true rfl) dX4_runs_4 rfl ?_
  refine rs_if_eq (tgt := 12) C dX4_runs_7 (by decide) rfl (fun z3 => ?_) (fun z3 => ?_)
  · replace h := rs_it z3 h
    refine rs_iload_n (i := 2) C dX4_runs_12 rfl rfl rfl ?_
    by_cases z5 : a2 = 0
    · replace h := rs_it z5 h
      refine rs_tabIn (tgt := 44) C (31) dX4_runs_13 0 z5 (by decide) (by decide) rfl (by decide) ?_
      refine rs_aload_n (i := 0) C dX4_runs_44 rfl rfl rfl ?_
      refine rg_X4_0 C kk_76 wl_X4_10 dX4_runs_45 rfl ?_
      refine rs_iload_n (i := 1) C dX4_runs_48 rfl rfl rfl ?_
      obtain ⟨r7, h6, h⟩ := rs_b1e h
      refine rs_callVi (r0 := r7) (S0 := S) C (rs_kd_lt kk_0 (by decide)) (rs_e1 kk_0) rfl (c_X1_greatestBands l G hG S 0 a1 kk_0 _ h6) ⟨wl_X4_123, wi_yX1_greatestBands, wx_yX1_greatestBands, wn_X1, wc_yX1_greatestBands⟩ wy_yX1_greatestBands (by decide) ⟨rfl, rfl⟩ rfl rfl (Nat.le_of_ble_eq_true rfl) dX4_runs_49 rfl ?_
      exact rs_iret C hr hlk (rs_pr h) dX4_runs_52
    · replace h := rs_if z5 h
      by_cases z8 : a2 = 1
      · replace h := rs_it z8 h
        refine rs_tabIn (tgt := 53) C (40) dX4_runs_13 1 z8 (by decide) (by decide) rfl (by decide) ?_
        refine rs_aload_n (i := 0) C dX4_runs_53 rfl rfl rfl ?_
        refine rg_X4_0 C kk_76 wl_X4_10 dX4_runs_54 rfl ?_
        refine rs_iload_n (i := 1) C dX4_runs_57 rfl rfl rfl ?_
        obtain ⟨r10, h9, h⟩ := rs_b1e h
        refine rs_callVi (r0 := r10) (S0 := S) C (rs_kd_lt kk_0 (by decide)) (rs_e1 kk_0) rfl (c_X1_leastBands l G hG S 0 a1 kk_0 _ h9) ⟨wl_X4_130, wi_yX1_leastBands, wx_yX1_leastBands, wn_X1, wc_yX1_leastBands⟩ wy_yX1_leastBands (by decide) ⟨rfl, rfl⟩ rfl rfl (Nat.le_of_ble_eq_true rfl) dX4_runs_58 rfl ?_
        exact rs_iret C hr hlk (rs_pr h) dX4_runs_61
      · replace h := rs_if z8 h
        by_cases z11 : a2 = 2
        · replace h := rs_it z11 h
          refine rs_tabIn (tgt := 62) C (49) dX4_runs_13 2 z11 (by decide) (by decide) rfl (by decide) ?_
          refine rs_aload_n (i := 0) C dX4_runs_62 rfl rfl rfl ?_
          refine rg_X4_0 C kk_76 wl_X4_10 dX4_runs_63 rfl ?_
          refine rs_iload_n (i := 1) C dX4_runs_66 rfl rfl rfl ?_
          obtain ⟨r13, h12, h⟩ := rs_b1e h
          refine rs_callVi (r0 := r13) (S0 := S) C (rs_kd_lt kk_0 (by decide)) (rs_e1 kk_0) rfl (c_X1_lightOfShots l G hG S 0 a1 kk_0 _ h12) ⟨wl_X4_133, wi_yX1_lightOfShots, wx_yX1_lightOfShots, wn_X1, wc_yX1_lightOfShots⟩ wy_yX1_lightOfShots (by decide) ⟨rfl, rfl⟩ rfl rfl (Nat.le_of_ble_eq_true rfl) dX4_runs_67 rfl ?_
          exact rs_iret C hr hlk (rs_pr h) dX4_runs_70
        · replace h := rs_if z11 h
          by_cases z14 : a2 = 3
          · replace h := rs_it z14 h
            refine rs_tabIn (tgt := 71) C (58) dX4_runs_13 3 z14 (by decide) (by decide) rfl (by decide) ?_
            refine rs_aload_n (i := 0) C dX4_runs_71 rfl rfl rfl ?_
            refine rg_X4_0 C kk_76 wl_X4_10 dX4_runs_72 rfl ?_
            refine rs_iload_n (i := 1) C dX4_runs_75 rfl rfl rfl ?_
            obtain ⟨r16, h15, h⟩ := rs_b1e h
            refine rs_callVi (r0 := r16) (S0 := S) C (rs_kd_lt kk_0 (by decide)) (rs_e1 kk_0) rfl (c_X1_fullRows l G hG S 0 a1 kk_0 _ h15) ⟨wl_X4_136, wi_yX1_fullRows, wx_yX1_fullRows, wn_X1, wc_yX1_fullRows⟩ wy_yX1_fullRows (by decide) ⟨rfl, rfl⟩ rfl rfl (Nat.le_of_ble_eq_true rfl) dX4_runs_76 rfl ?_
            exact rs_iret C hr hlk (rs_pr h) dX4_runs_79
          · replace h := rs_if z14 h
            refine rs_tabOut (tgt := 80) C dX4_runs_13 (by have e0 := rs_nev z5 (0) (by decide); have e1 := rs_nev z8 (1) (by decide); have e2 := rs_nev z11 (2) (by decide); have e3 := rs_nev z14 (3) (by decide); omega) (by decide) ?_
            refine rs_iconst (v := (-1)) C dX4_runs_80 (by decide) rfl ?_
            exact rs_iret C hr hlk (rs_pr h) dX4_runs_81
  · replace h := rs_if z3 h
    refine rs_iconst (v := (-1)) C dX4_runs_10 (by decide) rfl ?_
    exact rs_iret C hr hlk (rs_pr h) dX4_runs_11
def xf_X4_ahead (S : rs_St) (a1 : Int32) (a2 : Int32) : Option Int32 := rs_b1 (xf_X4_outside S a1 0 40) (fun r2 => if r2 = 0 then rs_b1 (xf_X4_outside S a2 0 ((rs_gi S (0 + 2) 0) - 1)) (fun r5 => if r5 = 0 then rs_b1 (xf_X1_bright S 0 a1 a2) (fun r8 => some r8) else some (-1)) else some (-1))
set_option maxRecDepth 100000 in
theorem c_X4_ahead (l : Launch) (G : rs_G) (hG : rs_ok G) (S : rs_St) (a1 : Int32) (a2 : Int32)  (o : Int32) (h : xf_X4_ahead S a1 a2 = some o) : Met l yX4_ahead (rs_wz yX4_ahead cX4_ahead 3 (some FieldType.int)) (rs_rm 5) (va_Pc [.ref (rs_ad G 76), .int a1, .int a2] (rs_pre G S)) (va_Qi (fun r S2 => (r, S2) = (o, S)) (rs_post G) (rs_A G)) 0 0 (rs_A G) := by
  refine rs_met hG (by decide) (Nat.le_of_ble_eq_true rfl) ?_
  intro p e s m args below meth c C hr hlk
  rw [xf_X4_ahead] at h
  refine rs_iload_n (i := 1) C dX4_ahead_0 rfl rfl rfl ?_
  refine rs_iconst (v := 0) C dX4_ahead_1 (by decide) rfl ?_
  refine rs_bipush (v := 40) C dX4_ahead_2 (by decide) rfl ?_
  obtain ⟨r2, h1, h⟩ := rs_b1e h
  refine rs_callSi (r0 := r2) (S0 := S) C (c_X4_outside l G hG S a1 0 40 _ h1) ⟨wl_X4_45, ws_yX4_outside, wn_X4, wc_yX4_outside⟩ wy_yX4_outside (by decide) ⟨rfl, rfl⟩ rfl rfl (Nat.le_of_ble_eq_true rfl) dX4_ahead_4 rfl ?_
  refine rs_if_ne (tgt := 29) C dX4_ahead_7 (by decide) rfl (fun z3 => ?_) (fun z3 => ?_)
  · replace h := rs_if z3 h
    refine rs_iconst (v := (-1)) C dX4_ahead_29 (by decide) rfl ?_
    exact rs_iret C hr hlk (rs_pr h) dX4_ahead_30
  · replace h := rs_it z3 h
    refine rs_iload_n (i := 2) C dX4_ahead_10 rfl rfl rfl ?_
    refine rs_iconst (v := 0) C dX4_ahead_11 (by decide) rfl ?_
    refine rs_aload_n (i := 0) C dX4_ahead_12 rfl rfl rfl ?_
    refine rg_X4_0 C kk_76 wl_X4_10 dX4_ahead_13 rfl ?_
    refine rg_X1_2 C kk_0 wl_X4_77 dX4_ahead_16 rfl ?_
    refine rs_iconst (v := 0) C dX4_ahead_19 (by decide) rfl ?_
    refine rs_ialdc C (rs_k1b kk_0) (rs_l1b kk_0) 0 (by decide) (by decide) dX4_ahead_20 rfl ?_
    refine rs_iconst (v := 1) C dX4_ahead_21 (by decide) rfl ?_
    refine rs_isub C dX4_ahead_22 rfl ?_
    obtain ⟨r5, h4, h⟩ := rs_b1e h
    refine rs_callSi (r0 := r5) (S0 := S) C (c_X4_outside l G hG S a2 0 ((rs_gi S (0 + 2) 0) - 1) _ h4) ⟨wl_X4_45, ws_yX4_outside, wn_X4, wc_yX4_outside⟩ wy_yX4_outside (by decide) ⟨rfl, rfl⟩ rfl rfl (Nat.le_of_ble_eq_true rfl) dX4_ahead_23 rfl ?_
    refine rs_if_eq (tgt := 31) C dX4_ahead_26 (by decide) rfl (fun z6 => ?_) (fun z6 => ?_)
    · replace h := rs_it z6 h
      refine rs_aload_n (i := 0) C dX4_ahead_31 rfl rfl rfl ?_
      refine rg_X4_0 C kk_76 wl_X4_10 dX4_ahead_32 rfl ?_
      refine rs_iload_n (i := 1) C dX4_ahead_35 rfl rfl rfl ?_
      refine rs_iload_n (i := 2) C dX4_ahead_36 rfl rfl rfl ?_
      obtain ⟨r8, h7, h⟩ := rs_b1e h
      refine rs_callVi (r0 := r8) (S0 := S) C (rs_kd_lt kk_0 (by decide)) (rs_e1 kk_0) rfl (c_X1_bright l G hG S 0 a1 a2 kk_0 _ h7) ⟨wl_X4_139, wi_yX1_bright, wx_yX1_bright, wn_X1, wc_yX1_bright⟩ wy_yX1_bright (by decide) ⟨rfl, rfl⟩ rfl rfl (Nat.le_of_ble_eq_true rfl) dX4_ahead_37 rfl ?_
      exact rs_iret C hr hlk (rs_pr h) dX4_ahead_40
    · replace h := rs_if z6 h
      refine rs_iconst (v := (-1)) C dX4_ahead_29 (by decide) rfl ?_
      exact rs_iret C hr hlk (rs_pr h) dX4_ahead_30
def xf_X4_when_l15 (S : rs_St) (a1 : Int32) (K15 : Int32 → Option Int32) : Nat → Int32 → Option Int32
  | 0, _ => none
  | n15 + 1, x4 => if 40 < x4 then K15 x4 else rs_b1 (xf_X1_bands S 0 x4) (fun r7 => if r7 < a1 then rs_lt (x4 + 1) (fun x9 => xf_X4_when_l15 S a1 K15 n15 x9) else some x4)
def xf_X4_when (S : rs_St) (a1 : Int32) : Option Int32 := rs_b1 (xf_X4_outside S a1 0 255) (fun r2 => if r2 = 0 then xf_X4_when_l15 S a1 (fun (x10 : Int32) => some (-4)) rs_fu 0 else some (-1))
set_option maxRecDepth 100000 in
theorem c_X4_when (l : Launch) (G : rs_G) (hG : rs_ok G) (S : rs_St) (a1 : Int32)  (o : Int32) (h : xf_X4_when S a1 = some o) : Met l yX4_when (rs_wz yX4_when cX4_when 3 (some FieldType.int)) (rs_rm 6) (va_Pc [.ref (rs_ad G 76), .int a1] (rs_pre G S)) (va_Qi (fun r S2 => (r, S2) = (o, S)) (rs_post G) (rs_A G)) 0 0 (rs_A G) := by
  refine rs_met hG (by decide) (Nat.le_of_ble_eq_true rfl) ?_
  intro p e s m args below meth c C hr hlk
  rw [xf_X4_when] at h
  refine rs_iload_n (i := 1) C dX4_when_0 rfl rfl rfl ?_
  refine rs_iconst (v := 0) C dX4_when_1 (by decide) rfl ?_
  refine rs_sipush (v := 255) C dX4_when_2 (by decide) rfl ?_
  obtain ⟨r2, h1, h⟩ := rs_b1e h
  refine rs_callSi (r0 := r2) (S0 := S) C (c_X4_outside l G hG S a1 0 255 _ h1) ⟨wl_X4_45, ws_yX4_outside, wn_X4, wc_yX4_outside⟩ wy_yX4_outside (by decide) ⟨rfl, rfl⟩ rfl rfl (Nat.le_of_ble_eq_true rfl) dX4_when_5 rfl ?_
  refine rs_if_eq (tgt := 13) C dX4_when_8 (by decide) rfl (fun z3 => ?_) (fun z3 => ?_)
  · replace h := rs_it z3 h
    refine rs_iconst (v := 0) C dX4_when_13 (by decide) rfl ?_
    refine rs_istore_n (i := 2) C dX4_when_14 rfl (by decide) rfl ?_
    refine rs_kw (F := fun K => xf_X4_when_l15 S a1 K rs_fu 0) (P := fun K => ∀ (x10 : Int32), K x10 = some o → rs_Xi G 3 p l e (rs_rm 6) s m args below meth c (o, S) S 41 [(0, .ref (rs_ad G 76)), (1, .int a1), (2, .int x10)] []) h (fun x10 h => ?_) (fun K15 hK15 h => ?_)
    · refine rs_bipush (v := (-4)) C dX4_when_41 (by decide) rfl ?_
      exact rs_iret C hr hlk (rs_pr h) dX4_when_43
    · have L15 : ∀ (n15 : Nat) (x4 : Int32), xf_X4_when_l15 S a1 K15 n15 x4 = some o → rs_Xi G 3 p l e (rs_rm 6) s m args below meth c (o, S) S 15 [(0, .ref (rs_ad G 76)), (1, .int a1), (2, .int x4)] [] := by
        intro n15
        induction n15 with
        | zero => intro x4 h; exact (rs_no h).elim
        | succ n15 ih15 =>
          intro x4 h
          rw [xf_X4_when_l15] at h
          refine rs_iload_n (i := 2) C dX4_when_15 rfl rfl rfl ?_
          refine rs_bipush (v := 40) C dX4_when_16 (by decide) rfl ?_
          refine rs_icmp_gt (tgt := 41) C dX4_when_18 (by decide) rfl (fun z5 => ?_) (fun z5 => ?_)
          · replace h := rs_it z5 h
            exact rs_subk (hK15 _ h) (rs_ac rfl (rs_ac rfl (rs_ac rfl rs_a0)))
          · replace h := rs_if z5 h
            refine rs_aload_n (i := 0) C dX4_when_21 rfl rfl rfl ?_
            refine rg_X4_0 C kk_76 wl_X4_10 dX4_when_22 rfl ?_
            refine rs_iload_n (i := 2) C dX4_when_25 rfl rfl rfl ?_
            obtain ⟨r7, h6, h⟩ := rs_b1e h
            refine rs_callVi (r0 := r7) (S0 := S) C (rs_kd_lt kk_0 (by decide)) (rs_e1 kk_0) rfl (c_X1_bands l G hG S 0 x4 kk_0 _ h6) ⟨wl_X4_142, wi_yX1_bands, wx_yX1_bands, wn_X1, wc_yX1_bands⟩ wy_yX1_bands (by decide) ⟨rfl, rfl⟩ rfl rfl (Nat.le_of_ble_eq_true rfl) dX4_when_26 rfl ?_
            refine rs_iload_n (i := 1) C dX4_when_29 rfl rfl rfl ?_
            refine rs_icmp_lt (tgt := 35) C dX4_when_30 (by decide) rfl (fun z8 => ?_) (fun z8 => ?_)
            · replace h := rs_it z8 h
              refine rs_iincn (v := 1) C dX4_when_35 rfl (by decide) (by decide) rfl h (fun x9 h => ?_)
              refine rs_goto (tgt := 15) C dX4_when_38 (by decide) ?_
              exact rs_subk (ih15 _ h) (rs_ac rfl (rs_ac rfl (rs_ac rfl rs_a0)))
            · replace h := rs_if z8 h
              refine rs_iload_n (i := 2) C dX4_when_33 rfl rfl rfl ?_
              exact rs_iret C hr hlk (rs_pr h) dX4_when_34
      exact rs_subk (L15 rs_fu _ h) (rs_ac rfl (rs_ac rfl (rs_ac rfl rs_a0)))
  · replace h := rs_if z3 h
    refine rs_iconst (v := (-1)) C dX4_when_11 (by decide) rfl ?_
    exact rs_iret C hr hlk (rs_pr h) dX4_when_12
def xf_X4_again_l2 (S : rs_St) (K2 : Int32 → Option Int32) : Nat → Int32 → Option Int32
  | 0, _ => none
  | n2 + 1, x1 => if 40 < x1 then K2 x1 else rs_b1 (xf_X1_isLikeFirst S 0 x1) (fun r4 => if r4 = 0 then rs_lt (x1 + 1) (fun x6 => xf_X4_again_l2 S K2 n2 x6) else some x1)
def xf_X4_again (S : rs_St) : Option Int32 := xf_X4_again_l2 S (fun (x7 : Int32) => some (-4)) rs_fu 1
set_option maxRecDepth 100000 in
theorem c_X4_again (l : Launch) (G : rs_G) (hG : rs_ok G) (S : rs_St)  (o : Int32) (h : xf_X4_again S = some o) : Met l yX4_again (rs_wz yX4_again cX4_again 2 (some FieldType.int)) (rs_rm 6) (va_Pc [.ref (rs_ad G 76)] (rs_pre G S)) (va_Qi (fun r S2 => (r, S2) = (o, S)) (rs_post G) (rs_A G)) 0 0 (rs_A G) := by
  refine rs_met hG (by decide) (Nat.le_of_ble_eq_true rfl) ?_
  intro p e s m args below meth c C hr hlk
  rw [xf_X4_again] at h
  refine rs_iconst (v := 1) C dX4_again_0 (by decide) rfl ?_
  refine rs_istore_n (i := 1) C dX4_again_1 rfl (by decide) rfl ?_
  refine rs_kw (F := fun K => xf_X4_again_l2 S K rs_fu 1) (P := fun K => ∀ (x7 : Int32), K x7 = some o → rs_Xi G 2 p l e (rs_rm 6) s m args below meth c (o, S) S 27 [(0, .ref (rs_ad G 76)), (1, .int x7)] []) h (fun x7 h => ?_) (fun K2 hK2 h => ?_)
  · refine rs_bipush (v := (-4)) C dX4_again_27 (by decide) rfl ?_
    exact rs_iret C hr hlk (rs_pr h) dX4_again_29
  · have L2 : ∀ (n2 : Nat) (x1 : Int32), xf_X4_again_l2 S K2 n2 x1 = some o → rs_Xi G 2 p l e (rs_rm 6) s m args below meth c (o, S) S 2 [(0, .ref (rs_ad G 76)), (1, .int x1)] [] := by
      intro n2
      induction n2 with
      | zero => intro x1 h; exact (rs_no h).elim
      | succ n2 ih2 =>
        intro x1 h
        rw [xf_X4_again_l2] at h
        refine rs_iload_n (i := 1) C dX4_again_2 rfl rfl rfl ?_
        refine rs_bipush (v := 40) C dX4_again_3 (by decide) rfl ?_
        refine rs_icmp_gt (tgt := 27) C dX4_again_5 (by decide) rfl (fun z2 => ?_) (fun z2 => ?_)
        · replace h := rs_it z2 h
          exact rs_subk (hK2 _ h) (rs_ac rfl (rs_ac rfl rs_a0))
        · replace h := rs_if z2 h
          refine rs_aload_n (i := 0) C dX4_again_8 rfl rfl rfl ?_
          refine rg_X4_0 C kk_76 wl_X4_10 dX4_again_9 rfl ?_
          refine rs_iload_n (i := 1) C dX4_again_12 rfl rfl rfl ?_
          obtain ⟨r4, h3, h⟩ := rs_b1e h
          refine rs_callVi (r0 := r4) (S0 := S) C (rs_kd_lt kk_0 (by decide)) (rs_e1 kk_0) rfl (c_X1_isLikeFirst l G hG S 0 x1 kk_0 _ h3) ⟨wl_X4_145, wi_yX1_isLikeFirst, wx_yX1_isLikeFirst, wn_X1, wc_yX1_isLikeFirst⟩ wy_yX1_isLikeFirst (by decide) ⟨rfl, rfl⟩ rfl rfl (Nat.le_of_ble_eq_true rfl) dX4_again_13 rfl ?_
          refine rs_if_eq (tgt := 21) C dX4_again_16 (by decide) rfl (fun z5 => ?_) (fun z5 => ?_)
          · replace h := rs_it z5 h
            refine rs_iincn (v := 1) C dX4_again_21 rfl (by decide) (by decide) rfl h (fun x6 h => ?_)
            refine rs_goto (tgt := 2) C dX4_again_24 (by decide) ?_
            exact rs_subk (ih2 _ h) (rs_ac rfl (rs_ac rfl rs_a0))
          · replace h := rs_if z5 h
            refine rs_iload_n (i := 1) C dX4_again_19 rfl rfl rfl ?_
            exact rs_iret C hr hlk (rs_pr h) dX4_again_20
    exact rs_subk (L2 rs_fu _ h) (rs_ac rfl (rs_ac rfl rs_a0))
def xf_X4_best_l57 (a1 : Int32) (a2 : Int32) (K57 : rs_St → Int32 → Int32 → Int32 → Option (Int32 × rs_St)) : Nat → rs_St → Int32 → Int32 → Int32 → Option (Int32 × rs_St)
  | 0, _, _, _, _ => none
  | n57 + 1, S14, x15, x16, x17 => if a1 < 0 ∨ 4 ≤ a1.toNatClampNeg then none else if (rs_sv 3 a1.toNatClampNeg) < x17 then K57 S14 x15 x16 x17 else if a1 < 0 ∨ 4 ≤ a1.toNatClampNeg then none else rs_lt (rs_si S14 (19 + 2) a1.toNatClampNeg x17) (fun S20 => rs_b1 (xf_X1_greatestBands S20 19 a2) (fun r23 => rs_jn (fun (x24 : Int32) (x25 : Int32) => rs_lt (x17 + 1) (fun x27 => xf_X4_best_l57 a1 a2 K57 n57 S20 x24 x25 x27)) (fun J26 => if x16 ≤ r23 then J26 x15 x16 else J26 x17 r23)))
def xf_X4_best (S : rs_St) (a1 : Int32) (a2 : Int32) (a3 : Int32) : Option (Int32 × rs_St) := rs_b1 (xf_X4_outside S a1 1 3) (fun r2 => if r2 = 0 then rs_b1 (xf_X4_outside S a2 0 40) (fun r5 => if r5 = 0 then rs_b1 (xf_X4_outside S a3 0 1) (fun r8 => if r8 = 0 then rs_b1 (xf_X1_copyFrom S 19 0) (fun S11 => if a1 < 0 ∨ 4 ≤ a1.toNatClampNeg then none else rs_lt (rs_sv 2 a1.toNatClampNeg) (fun x13 => xf_X4_best_l57 a1 a2 (fun (S29 : rs_St) (x30 : Int32) (x31 : Int32) (x32 : Int32) => if a3 = 0 then some (x30, S29) else some (x31, S29)) rs_fu S11 (-4) 256 x13)) else some ((-1), S)) else some ((-1), S)) else some ((-1), S))
set_option maxRecDepth 100000 in
theorem c_X4_best (l : Launch) (G : rs_G) (hG : rs_ok G) (S : rs_St) (a1 : Int32) (a2 : Int32) (a3 : Int32)  (o : (Int32 × rs_St)) (h : xf_X4_best S a1 a2 a3 = some o) : Met l yX4_best (rs_wz yX4_best cX4_best 8 (some FieldType.int)) (rs_rm 7) (va_Pc [.ref (rs_ad G 76), .int a1, .int a2, .int a3] (rs_pre G S)) (va_Qi (fun r S2 => (r, S2) = o) (rs_post G) (rs_A G)) 0 0 (rs_A G) := by
  refine rs_met hG (by decide) (Nat.le_of_ble_eq_true rfl) ?_
  intro p e s m args below meth c C hr hlk
  rw [xf_X4_best] at h
  refine rs_iload_n (i := 1) C dX4_best_0 rfl rfl rfl ?_
  refine rs_iconst (v := 1) C dX4_best_1 (by decide) rfl ?_
  refine rs_iconst (v := 3) C dX4_best_2 (by decide) rfl ?_
  obtain ⟨r2, h1, h⟩ := rs_b1e h
  refine rs_callSi (r0 := r2) (S0 := S) C (c_X4_outside l G hG S a1 1 3 _ h1) ⟨wl_X4_45, ws_yX4_outside, wn_X4, wc_yX4_outside⟩ wy_yX4_outside (by decide) ⟨rfl, rfl⟩ rfl rfl (Nat.le_of_ble_eq_true rfl) dX4_best_3 rfl ?_
  refine rs_if_ne (tgt := 28) C dX4_best_6 (by decide) rfl (fun z3 => ?_) (fun z3 => ?_)
  · replace h := rs_if z3 h
    refine rs_iconst (v := (-1)) C dX4_best_28 (by decide) rfl ?_
    exact rs_iret C hr hlk h dX4_best_29
  · replace h := rs_it z3 h
    refine rs_iload_n (i := 2) C dX4_best_9 rfl rfl rfl ?_
    refine rs_iconst (v := 0) C dX4_best_10 (by decide) rfl ?_
    refine rs_bipush (v := 40) C dX4_best_11 (by decide) rfl ?_
    obtain ⟨r5, h4, h⟩ := rs_b1e h
    refine rs_callSi (r0 := r5) (S0 := S) C (c_X4_outside l G hG S a2 0 40 _ h4) ⟨wl_X4_45, ws_yX4_outside, wn_X4, wc_yX4_outside⟩ wy_yX4_outside (by decide) ⟨rfl, rfl⟩ rfl rfl (Nat.le_of_ble_eq_true rfl) dX4_best_13 rfl ?_
    refine rs_if_ne (tgt := 28) C dX4_best_16 (by decide) rfl (fun z6 => ?_) (fun z6 => ?_)
    · replace h := rs_if z6 h
      refine rs_iconst (v := (-1)) C dX4_best_28 (by decide) rfl ?_
      exact rs_iret C hr hlk h dX4_best_29
    · replace h := rs_it z6 h
      refine rs_iload_n (i := 3) C dX4_best_19 rfl rfl rfl ?_
      refine rs_iconst (v := 0) C dX4_best_20 (by decide) rfl ?_
      refine rs_iconst (v := 1) C dX4_best_21 (by decide) rfl ?_
      obtain ⟨r8, h7, h⟩ := rs_b1e h
      refine rs_callSi (r0 := r8) (S0 := S) C (c_X4_outside l G hG S a3 0 1 _ h7) ⟨wl_X4_45, ws_yX4_outside, wn_X4, wc_yX4_outside⟩ wy_yX4_outside (by decide) ⟨rfl, rfl⟩ rfl rfl (Nat.le_of_ble_eq_true rfl) dX4_best_22 rfl ?_
      refine rs_if_eq (tgt := 30) C dX4_best_25 (by decide) rfl (fun z9 => ?_) (fun z9 => ?_)
      · replace h := rs_it z9 h
        refine rs_aload_n (i := 0) C dX4_best_30 rfl rfl rfl ?_
        refine rg_X4_1 C kk_76 wl_X4_16 dX4_best_31 rfl ?_
        refine rs_aload_n (i := 0) C dX4_best_34 rfl rfl rfl ?_
        refine rg_X4_0 C kk_76 wl_X4_10 dX4_best_35 rfl ?_
        obtain ⟨S11, h10, h⟩ := rs_b1e h
        refine rs_callVv (S0 := S11) C (rs_kd_lt kk_19 (by decide)) (rs_e1 kk_19) rfl (c_X1_copyFrom l G hG S 19 0 kk_19 kk_0 _ h10) ⟨wl_X4_64, wi_yX1_copyFrom, wx_yX1_copyFrom, wn_X1, wc_yX1_copyFrom⟩ wy_yX1_copyFrom (by decide) ⟨rfl, rfl⟩ rfl rfl (Nat.le_of_ble_eq_true rfl) dX4_best_38 rfl ?_
        refine rs_bipush (v := (-4)) C dX4_best_41 (by decide) rfl ?_
        refine rs_istore C dX4_best_43 (by decide) rfl ?_
        refine rs_sipush (v := 256) C dX4_best_45 (by decide) rfl ?_
        refine rs_istore C dX4_best_48 (by decide) rfl ?_
        refine rs_gets C 2 (by decide) wl_X4_148 dX4_best_50 rfl ?_
        refine rs_iload_n (i := 1) C dX4_best_53 rfl rfl rfl ?_
        obtain ⟨z12, h⟩ := rs_ck h
        refine rs_sald C 2 (by decide) z12 dX4_best_54 rfl ?_
        refine rs_nmi h (fun x13 h => ?_)
        refine rs_istore C dX4_best_55 (by decide) rfl ?_
        refine rs_kw (F := fun K => xf_X4_best_l57 a1 a2 K rs_fu S11 (-4) 256 x13) (P := fun K => ∀ (S29 : rs_St) (x30 : Int32) (x31 : Int32) (x32 : Int32), K S29 x30 x31 x32 = some o → rs_Xi G 8 p l e (rs_rm 7) s m args below meth c o S29 109 [(0, .ref (rs_ad G 76)), (1, .int a1), (2, .int a2), (3, .int a3), (4, .int x30), (5, .int x31), (6, .int x32)] []) h (fun S29 x30 x31 x32 h => ?_) (fun K57 hK57 h => ?_)
        · refine rs_iload_n (i := 3) C dX4_best_109 rfl rfl rfl ?_
          refine rs_if_ne (tgt := 118) C dX4_best_110 (by decide) rfl (fun z33 => ?_) (fun z33 => ?_)
          · replace h := rs_if z33 h
            refine rs_iload C dX4_best_118 rfl rfl ?_
            exact rs_iret C hr hlk h dX4_best_120
          · replace h := rs_it z33 h
            refine rs_iload C dX4_best_113 rfl rfl ?_
            refine rs_goto (tgt := 120) C dX4_best_115 (by decide) ?_
            exact rs_iret C hr hlk h dX4_best_120
        · have L57 : ∀ (n57 : Nat) (S14 : rs_St) (x15 : Int32) (x16 : Int32) (x17 : Int32), xf_X4_best_l57 a1 a2 K57 n57 S14 x15 x16 x17 = some o → rs_Xi G 8 p l e (rs_rm 7) s m args below meth c o S14 57 [(0, .ref (rs_ad G 76)), (1, .int a1), (2, .int a2), (3, .int a3), (4, .int x15), (5, .int x16), (6, .int x17)] [] := by
            intro n57
            induction n57 with
            | zero => intro S14 x15 x16 x17 h; exact (rs_no h).elim
            | succ n57 ih57 =>
              intro S14 x15 x16 x17 h
              rw [xf_X4_best_l57] at h
              refine rs_iload C dX4_best_57 rfl rfl ?_
              refine rs_gets C 3 (by decide) wl_X4_151 dX4_best_59 rfl ?_
              refine rs_iload_n (i := 1) C dX4_best_62 rfl rfl rfl ?_
              obtain ⟨z18, h⟩ := rs_ck h
              refine rs_sald C 3 (by decide) z18 dX4_best_63 rfl ?_
              refine rs_icmp_gt (tgt := 109) C dX4_best_64 (by decide) rfl (fun z19 => ?_) (fun z19 => ?_)
              · replace h := rs_it z19 h
                exact rs_subk (hK57 _ _ _ _ h) (rs_ac rfl (rs_ac rfl (rs_ac rfl (rs_ac rfl (rs_ac rfl (rs_ac rfl (rs_ac rfl rs_a0)))))))
              · replace h := rs_if z19 h
                refine rs_aload_n (i := 0) C dX4_best_67 rfl rfl rfl ?_
                refine rg_X4_1 C kk_76 wl_X4_16 dX4_best_68 rfl ?_
                refine rg_X1_2 C kk_19 wl_X4_77 dX4_best_71 rfl ?_
                refine rs_iload_n (i := 1) C dX4_best_74 rfl rfl rfl ?_
                refine rs_iload C dX4_best_75 rfl rfl ?_
                obtain ⟨z21, h⟩ := rs_ck h
                refine rs_iastn C (rs_k1b kk_19) (rs_l1b kk_19) z21 dX4_best_77 rfl h (fun S20 h => ?_)
                refine rs_aload_n (i := 0) C dX4_best_78 rfl rfl rfl ?_
                refine rg_X4_1 C kk_76 wl_X4_16 dX4_best_79 rfl ?_
                refine rs_iload_n (i := 2) C dX4_best_82 rfl rfl rfl ?_
                obtain ⟨r23, h22, h⟩ := rs_b1e h
                refine rs_callVi (r0 := r23) (S0 := S20) C (rs_kd_lt kk_19 (by decide)) (rs_e1 kk_19) rfl (c_X1_greatestBands l G hG S20 19 a2 kk_19 _ h22) ⟨wl_X4_123, wi_yX1_greatestBands, wx_yX1_greatestBands, wn_X1, wc_yX1_greatestBands⟩ wy_yX1_greatestBands (by decide) ⟨rfl, rfl⟩ rfl rfl (Nat.le_of_ble_eq_true rfl) dX4_best_83 rfl ?_
                refine rs_istore C dX4_best_86 (by decide) rfl ?_
                refine rs_iload C dX4_best_88 rfl rfl ?_
                refine rs_iload C dX4_best_90 rfl rfl ?_
                refine rs_jw (P := fun J => ∀ (x24 : Int32) (x25 : Int32), J x24 x25 = some o → rs_Xi G 8 p l e (rs_rm 7) s m args below meth c o S20 103 [(0, .ref (rs_ad G 76)), (1, .int a1), (2, .int a2), (3, .int a3), (4, .int x24), (5, .int x25), (6, .int x17), (7, .int r23)] []) h (fun x24 x25 h => ?_) (fun J26 KJ26 h => ?_)
                · refine rs_iincn (v := 1) C dX4_best_103 rfl (by decide) (by decide) rfl h (fun x27 h => ?_)
                  refine rs_goto (tgt := 57) C dX4_best_106 (by decide) ?_
                  exact rs_subk (ih57 _ _ _ _ h) (rs_ac rfl (rs_ac rfl (rs_ac rfl (rs_ac rfl (rs_ac rfl (rs_ac rfl (rs_ac rfl rs_a0)))))))
                · refine rs_icmp_ge (tgt := 103) C dX4_best_92 (by decide) rfl (fun z28 => ?_) (fun z28 => ?_)
                  · replace h := rs_it z28 h
                    exact rs_subk (KJ26 _ _ h) (rs_ac rfl (rs_ac rfl (rs_ac rfl (rs_ac rfl (rs_ac rfl (rs_ac rfl (rs_ac rfl (rs_ac rfl rs_a0))))))))
                  · replace h := rs_if z28 h
                    refine rs_iload C dX4_best_95 rfl rfl ?_
                    refine rs_istore C dX4_best_97 (by decide) rfl ?_
                    refine rs_iload C dX4_best_99 rfl rfl ?_
                    refine rs_istore C dX4_best_101 (by decide) rfl ?_
                    exact rs_subk (KJ26 _ _ h) (rs_ac rfl (rs_ac rfl (rs_ac rfl (rs_ac rfl (rs_ac rfl (rs_ac rfl (rs_ac rfl (rs_ac rfl rs_a0))))))))
          exact rs_subk (L57 rs_fu _ _ _ _ h) (rs_ac rfl (rs_ac rfl (rs_ac rfl (rs_ac rfl (rs_ac rfl (rs_ac rfl (rs_ac rfl rs_a0)))))))
      · replace h := rs_if z9 h
        refine rs_iconst (v := (-1)) C dX4_best_28 (by decide) rfl ?_
        exact rs_iret C hr hlk h dX4_best_29
def xf_X4_bestPart_l60 (a1 : Int32) (a2 : Int32) (a3 : Int32) (K60 : rs_St → Int32 → Int32 → Int32 → Option (Int32 × rs_St)) : Nat → rs_St → Int32 → Int32 → Int32 → Option (Int32 × rs_St)
  | 0, _, _, _, _ => none
  | n60 + 1, S15, x16, x17, x18 => if a2 < 0 ∨ 4 ≤ a2.toNatClampNeg then none else if (rs_sv 1 a2.toNatClampNeg) < x18 then K60 S15 x16 x17 x18 else if a1 < 0 ∨ 4 ≤ a1.toNatClampNeg then none else rs_b1 (xf_X0_become S15 ((19 + 1) + 6 + 3 * a1.toNatClampNeg) a2 x18) (fun S23 => rs_b1 (xf_X1_greatestBands S23 19 a3) (fun r25 => rs_jn (fun (x26 : Int32) (x27 : Int32) => rs_lt (x18 + 1) (fun x29 => xf_X4_bestPart_l60 a1 a2 a3 K60 n60 S23 x26 x27 x29)) (fun J28 => if x17 ≤ r25 then J28 x16 x17 else J28 x18 r25)))
def xf_X4_bestPart (S : rs_St) (a1 : Int32) (a2 : Int32) (a3 : Int32) (a4 : Int32) : Option (Int32 × rs_St) := rs_b1 (xf_X1_lampAt S 0 a1) (fun r2 => rs_om r2 (some ((-1), S)) (fun q3 => if rs_kd q3 = 0 then rs_b1 (xf_X4_outside S a3 0 40) (fun r6 => if r6 = 0 then rs_b1 (xf_X4_outside S a4 0 1) (fun r9 => if r9 = 0 then rs_b1 (xf_X1_copyFrom S 19 0) (fun S12 => if a2 < 0 ∨ 4 ≤ a2.toNatClampNeg then none else rs_lt (rs_sv 0 a2.toNatClampNeg) (fun x14 => xf_X4_bestPart_l60 a1 a2 a3 (fun (S31 : rs_St) (x32 : Int32) (x33 : Int32) (x34 : Int32) => if a4 = 0 then some (x32, S31) else some (x33, S31)) rs_fu S12 (-4) 256 x14)) else some ((-1), S)) else some ((-1), S)) else none))
set_option maxRecDepth 100000 in
theorem c_X4_bestPart (l : Launch) (G : rs_G) (hG : rs_ok G) (S : rs_St) (a1 : Int32) (a2 : Int32) (a3 : Int32) (a4 : Int32)  (o : (Int32 × rs_St)) (h : xf_X4_bestPart S a1 a2 a3 a4 = some o) : Met l yX4_bestPart (rs_wz yX4_bestPart cX4_bestPart 9 (some FieldType.int)) (rs_rm 7) (va_Pc [.ref (rs_ad G 76), .int a1, .int a2, .int a3, .int a4] (rs_pre G S)) (va_Qi (fun r S2 => (r, S2) = o) (rs_post G) (rs_A G)) 0 0 (rs_A G) := by
  refine rs_met hG (by decide) (Nat.le_of_ble_eq_true rfl) ?_
  intro p e s m args below meth c C hr hlk
  rw [xf_X4_bestPart] at h
  refine rs_aload_n (i := 0) C dX4_bestPart_0 rfl rfl rfl ?_
  refine rg_X4_0 C kk_76 wl_X4_10 dX4_bestPart_1 rfl ?_
  refine rs_iload_n (i := 1) C dX4_bestPart_4 rfl rfl rfl ?_
  obtain ⟨r2, h1, h⟩ := rs_b1e h
  refine rs_callVq (r0 := r2) (mp := rs_ad G) (S0 := S) C (rs_kd_lt kk_0 (by decide)) (rs_e1 kk_0) rfl (c_X1_lampAt l G hG S 0 a1 kk_0 _ h1) ⟨wl_X4_84, wi_yX1_lampAt, wx_yX1_lampAt, wn_X1, wc_yX1_lampAt⟩ wy_yX1_lampAt (by decide) ⟨rfl, rfl⟩ rfl rfl (Nat.le_of_ble_eq_true rfl) dX4_bestPart_5 rfl ?_
  cases r2 with
  | none =>
    replace h := rs_omn h
    refine rs_ifnull_n (tgt := 31) C dX4_bestPart_8 (by decide) ?_
    refine rs_iconst (v := (-1)) C dX4_bestPart_31 (by decide) rfl ?_
    exact rs_iret C hr hlk h dX4_bestPart_32
  | some q3 =>
    replace h := rs_oms h
    obtain ⟨z4, h⟩ := rs_ckp h
    refine rs_ifnull_r C dX4_bestPart_8 rfl ?_
    refine rs_iload_n (i := 3) C dX4_bestPart_11 rfl rfl rfl ?_
    refine rs_iconst (v := 0) C dX4_bestPart_12 (by decide) rfl ?_
    refine rs_bipush (v := 40) C dX4_bestPart_13 (by decide) rfl ?_
    obtain ⟨r6, h5, h⟩ := rs_b1e h
    refine rs_callSi (r0 := r6) (S0 := S) C (c_X4_outside l G hG S a3 0 40 _ h5) ⟨wl_X4_45, ws_yX4_outside, wn_X4, wc_yX4_outside⟩ wy_yX4_outside (by decide) ⟨rfl, rfl⟩ rfl rfl (Nat.le_of_ble_eq_true rfl) dX4_bestPart_15 rfl ?_
    refine rs_if_ne (tgt := 31) C dX4_bestPart_18 (by decide) rfl (fun z7 => ?_) (fun z7 => ?_)
    · replace h := rs_if z7 h
      refine rs_iconst (v := (-1)) C dX4_bestPart_31 (by decide) rfl ?_
      exact rs_iret C hr hlk h dX4_bestPart_32
    · replace h := rs_it z7 h
      refine rs_iload C dX4_bestPart_21 rfl rfl ?_
      refine rs_iconst (v := 0) C dX4_bestPart_23 (by decide) rfl ?_
      refine rs_iconst (v := 1) C dX4_bestPart_24 (by decide) rfl ?_
      obtain ⟨r9, h8, h⟩ := rs_b1e h
      refine rs_callSi (r0 := r9) (S0 := S) C (c_X4_outside l G hG S a4 0 1 _ h8) ⟨wl_X4_45, ws_yX4_outside, wn_X4, wc_yX4_outside⟩ wy_yX4_outside (by decide) ⟨rfl, rfl⟩ rfl rfl (Nat.le_of_ble_eq_true rfl) dX4_bestPart_25 rfl ?_
      refine rs_if_eq (tgt := 33) C dX4_bestPart_28 (by decide) rfl (fun z10 => ?_) (fun z10 => ?_)
      · replace h := rs_it z10 h
        refine rs_aload_n (i := 0) C dX4_bestPart_33 rfl rfl rfl ?_
        refine rg_X4_1 C kk_76 wl_X4_16 dX4_bestPart_34 rfl ?_
        refine rs_aload_n (i := 0) C dX4_bestPart_37 rfl rfl rfl ?_
        refine rg_X4_0 C kk_76 wl_X4_10 dX4_bestPart_38 rfl ?_
        obtain ⟨S12, h11, h⟩ := rs_b1e h
        refine rs_callVv (S0 := S12) C (rs_kd_lt kk_19 (by decide)) (rs_e1 kk_19) rfl (c_X1_copyFrom l G hG S 19 0 kk_19 kk_0 _ h11) ⟨wl_X4_64, wi_yX1_copyFrom, wx_yX1_copyFrom, wn_X1, wc_yX1_copyFrom⟩ wy_yX1_copyFrom (by decide) ⟨rfl, rfl⟩ rfl rfl (Nat.le_of_ble_eq_true rfl) dX4_bestPart_41 rfl ?_
        refine rs_bipush (v := (-4)) C dX4_bestPart_44 (by decide) rfl ?_
        refine rs_istore C dX4_bestPart_46 (by decide) rfl ?_
        refine rs_sipush (v := 256) C dX4_bestPart_48 (by decide) rfl ?_
        refine rs_istore C dX4_bestPart_51 (by decide) rfl ?_
        refine rs_gets C 0 (by decide) wl_X4_237 dX4_bestPart_53 rfl ?_
        refine rs_iload_n (i := 2) C dX4_bestPart_56 rfl rfl rfl ?_
        obtain ⟨z13, h⟩ := rs_ck h
        refine rs_sald C 0 (by decide) z13 dX4_bestPart_57 rfl ?_
        refine rs_nmi h (fun x14 h => ?_)
        refine rs_istore C dX4_bestPart_58 (by decide) rfl ?_
        refine rs_kw (F := fun K => xf_X4_bestPart_l60 a1 a2 a3 K rs_fu S12 (-4) 256 x14) (P := fun K => ∀ (S31 : rs_St) (x32 : Int32) (x33 : Int32) (x34 : Int32), K S31 x32 x33 x34 = some o → rs_Xi G 9 p l e (rs_rm 7) s m args below meth c o S31 116 [(0, .ref (rs_ad G 76)), (1, .int a1), (2, .int a2), (3, .int a3), (4, .int a4), (5, .int x32), (6, .int x33), (7, .int x34)] []) h (fun S31 x32 x33 x34 h => ?_) (fun K60 hK60 h => ?_)
        · refine rs_iload C dX4_bestPart_116 rfl rfl ?_
          refine rs_if_ne (tgt := 126) C dX4_bestPart_118 (by decide) rfl (fun z35 => ?_) (fun z35 => ?_)
          · replace h := rs_if z35 h
            refine rs_iload C dX4_bestPart_126 rfl rfl ?_
            exact rs_iret C hr hlk h dX4_bestPart_128
          · replace h := rs_it z35 h
            refine rs_iload C dX4_bestPart_121 rfl rfl ?_
            refine rs_goto (tgt := 128) C dX4_bestPart_123 (by decide) ?_
            exact rs_iret C hr hlk h dX4_bestPart_128
        · have L60 : ∀ (n60 : Nat) (S15 : rs_St) (x16 : Int32) (x17 : Int32) (x18 : Int32), xf_X4_bestPart_l60 a1 a2 a3 K60 n60 S15 x16 x17 x18 = some o → rs_Xi G 9 p l e (rs_rm 7) s m args below meth c o S15 60 [(0, .ref (rs_ad G 76)), (1, .int a1), (2, .int a2), (3, .int a3), (4, .int a4), (5, .int x16), (6, .int x17), (7, .int x18)] [] := by
            intro n60
            induction n60 with
            | zero => intro S15 x16 x17 x18 h; exact (rs_no h).elim
            | succ n60 ih60 =>
              intro S15 x16 x17 x18 h
              rw [xf_X4_bestPart_l60] at h
              refine rs_iload C dX4_bestPart_60 rfl rfl ?_
              refine rs_gets C 1 (by decide) wl_X4_240 dX4_bestPart_62 rfl ?_
              refine rs_iload_n (i := 2) C dX4_bestPart_65 rfl rfl rfl ?_
              obtain ⟨z19, h⟩ := rs_ck h
              refine rs_sald C 1 (by decide) z19 dX4_bestPart_66 rfl ?_
              refine rs_icmp_gt (tgt := 116) C dX4_bestPart_67 (by decide) rfl (fun z20 => ?_) (fun z20 => ?_)
              · replace h := rs_it z20 h
                exact rs_subk (hK60 _ _ _ _ h) (rs_ac rfl (rs_ac rfl (rs_ac rfl (rs_ac rfl (rs_ac rfl (rs_ac rfl (rs_ac rfl (rs_ac rfl rs_a0))))))))
              · replace h := rs_if z20 h
                refine rs_aload_n (i := 0) C dX4_bestPart_70 rfl rfl rfl ?_
                refine rg_X4_1 C kk_76 wl_X4_16 dX4_bestPart_71 rfl ?_
                refine rg_X1_0 C kk_19 wl_X4_158 dX4_bestPart_74 rfl ?_
                refine rs_iload_n (i := 1) C dX4_bestPart_77 rfl rfl rfl ?_
                obtain ⟨z21, h⟩ := rs_ck h
                refine rs_aald9 C (rs_k1a kk_19) z21 dX4_bestPart_78 rfl ?_
                refine rs_iload_n (i := 2) C dX4_bestPart_79 rfl rfl rfl ?_
                refine rs_iload C dX4_bestPart_80 rfl rfl ?_
                obtain ⟨S23, h22, h⟩ := rs_b1e h
                refine rs_callVv (S0 := S23) C (rs_kd_lt (rs_k9i (rs_k1a kk_19) z21) (by decide)) (rs_e0 (rs_k9i (rs_k1a kk_19) z21)) rfl (c_X0_become l G hG S15 ((19 + 1) + 6 + 3 * a1.toNatClampNeg) a2 x18 (rs_k9i (rs_k1a kk_19) z21) _ h22) ⟨wl_X4_107, wi_yX0_become, wx_yX0_become, wn_X0, wc_yX0_become⟩ wy_yX0_become (by decide) ⟨rfl, rfl⟩ rfl rfl (Nat.le_of_ble_eq_true rfl) dX4_bestPart_82 rfl ?_
                refine rs_aload_n (i := 0) C dX4_bestPart_85 rfl rfl rfl ?_
                refine rg_X4_1 C kk_76 wl_X4_16 dX4_bestPart_86 rfl ?_
                refine rs_iload_n (i := 3) C dX4_bestPart_89 rfl rfl rfl ?_
                obtain ⟨r25, h24, h⟩ := rs_b1e h
                refine rs_callVi (r0 := r25) (S0 := S23) C (rs_kd_lt kk_19 (by decide)) (rs_e1 kk_19) rfl (c_X1_greatestBands l G hG S23 19 a3 kk_19 _ h24) ⟨wl_X4_123, wi_yX1_greatestBands, wx_yX1_greatestBands, wn_X1, wc_yX1_greatestBands⟩ wy_yX1_greatestBands (by decide) ⟨rfl, rfl⟩ rfl rfl (Nat.le_of_ble_eq_true rfl) dX4_bestPart_90 rfl ?_
                refine rs_istore C dX4_bestPart_93 (by decide) rfl ?_
                refine rs_iload C dX4_bestPart_95 rfl rfl ?_
                refine rs_iload C dX4_bestPart_97 rfl rfl ?_
                refine rs_jw (P := fun J => ∀ (x26 : Int32) (x27 : Int32), J x26 x27 = some o → rs_Xi G 9 p l e (rs_rm 7) s m args below meth c o S23 110 [(0, .ref (rs_ad G 76)), (1, .int a1), (2, .int a2), (3, .int a3), (4, .int a4), (5, .int x26), (6, .int x27), (7, .int x18), (8, .int r25)] []) h (fun x26 x27 h => ?_) (fun J28 KJ28 h => ?_)
                · refine rs_iincn (v := 1) C dX4_bestPart_110 rfl (by decide) (by decide) rfl h (fun x29 h => ?_)
                  refine rs_goto (tgt := 60) C dX4_bestPart_113 (by decide) ?_
                  exact rs_subk (ih60 _ _ _ _ h) (rs_ac rfl (rs_ac rfl (rs_ac rfl (rs_ac rfl (rs_ac rfl (rs_ac rfl (rs_ac rfl (rs_ac rfl rs_a0))))))))
                · refine rs_icmp_ge (tgt := 110) C dX4_bestPart_99 (by decide) rfl (fun z30 => ?_) (fun z30 => ?_)
                  · replace h := rs_it z30 h
                    exact rs_subk (KJ28 _ _ h) (rs_ac rfl (rs_ac rfl (rs_ac rfl (rs_ac rfl (rs_ac rfl (rs_ac rfl (rs_ac rfl (rs_ac rfl (rs_ac rfl rs_a0)))))))))
                  · replace h := rs_if z30 h
                    refine rs_iload C dX4_bestPart_102 rfl rfl ?_
                    refine rs_istore C dX4_bestPart_104 (by decide) rfl ?_
                    refine rs_iload C dX4_bestPart_106 rfl rfl ?_
                    refine rs_istore C dX4_bestPart_108 (by decide) rfl ?_
                    exact rs_subk (KJ28 _ _ h) (rs_ac rfl (rs_ac rfl (rs_ac rfl (rs_ac rfl (rs_ac rfl (rs_ac rfl (rs_ac rfl (rs_ac rfl (rs_ac rfl rs_a0)))))))))
          exact rs_subk (L60 rs_fu _ _ _ _ h) (rs_ac rfl (rs_ac rfl (rs_ac rfl (rs_ac rfl (rs_ac rfl (rs_ac rfl (rs_ac rfl (rs_ac rfl rs_a0))))))))
      · replace h := rs_if z10 h
        refine rs_iconst (v := (-1)) C dX4_bestPart_31 (by decide) rfl ?_
        exact rs_iret C hr hlk h dX4_bestPart_32
def xf_X4_kind (S : rs_St) (a1 : Int32) (a2 : Int32) (a3 : Int32) : Option (Int32 × rs_St) := rs_b2 (xf_X4_bestPart S a1 0 a2 a3) (fun r3 S2 => some (r3, S2))
set_option maxRecDepth 100000 in
theorem c_X4_kind (l : Launch) (G : rs_G) (hG : rs_ok G) (S : rs_St) (a1 : Int32) (a2 : Int32) (a3 : Int32)  (o : (Int32 × rs_St)) (h : xf_X4_kind S a1 a2 a3 = some o) : Met l yX4_kind (rs_wz yX4_kind cX4_kind 4 (some FieldType.int)) (rs_rm 8) (va_Pc [.ref (rs_ad G 76), .int a1, .int a2, .int a3] (rs_pre G S)) (va_Qi (fun r S2 => (r, S2) = o) (rs_post G) (rs_A G)) 0 0 (rs_A G) := by
  refine rs_met hG (by decide) (Nat.le_of_ble_eq_true rfl) ?_
  intro p e s m args below meth c C hr hlk
  rw [xf_X4_kind] at h
  refine rs_aload_n (i := 0) C dX4_kind_0 rfl rfl rfl ?_
  refine rs_iload_n (i := 1) C dX4_kind_1 rfl rfl rfl ?_
  refine rs_iconst (v := 0) C dX4_kind_2 (by decide) rfl ?_
  refine rs_iload_n (i := 2) C dX4_kind_3 rfl rfl rfl ?_
  refine rs_iload_n (i := 3) C dX4_kind_4 rfl rfl rfl ?_
  obtain ⟨r3, S2, h1, h⟩ := rs_b2e h
  refine rs_callVi (r0 := r3) (S0 := S2) C (rs_kd_lt kk_76 (by decide)) (rs_e4 kk_76) rfl (c_X4_bestPart l G hG S a1 0 a2 a3 _ h1) ⟨wl_X4_154, wi_yX4_bestPart, wx_yX4_bestPart, wn_X4, wc_yX4_bestPart⟩ wy_yX4_bestPart (by decide) ⟨rfl, rfl⟩ rfl rfl (Nat.le_of_ble_eq_true rfl) dX4_kind_5 rfl ?_
  exact rs_iret C hr hlk h dX4_kind_8
def xf_X4_phase (S : rs_St) (a1 : Int32) (a2 : Int32) (a3 : Int32) : Option (Int32 × rs_St) := rs_b2 (xf_X4_bestPart S a1 3 a2 a3) (fun r3 S2 => some (r3, S2))
set_option maxRecDepth 100000 in
theorem c_X4_phase (l : Launch) (G : rs_G) (hG : rs_ok G) (S : rs_St) (a1 : Int32) (a2 : Int32) (a3 : Int32)  (o : (Int32 × rs_St)) (h : xf_X4_phase S a1 a2 a3 = some o) : Met l yX4_phase (rs_wz yX4_phase cX4_phase 4 (some FieldType.int)) (rs_rm 8) (va_Pc [.ref (rs_ad G 76), .int a1, .int a2, .int a3] (rs_pre G S)) (va_Qi (fun r S2 => (r, S2) = o) (rs_post G) (rs_A G)) 0 0 (rs_A G) := by
  refine rs_met hG (by decide) (Nat.le_of_ble_eq_true rfl) ?_
  intro p e s m args below meth c C hr hlk
  rw [xf_X4_phase] at h
  refine rs_aload_n (i := 0) C dX4_phase_0 rfl rfl rfl ?_
  refine rs_iload_n (i := 1) C dX4_phase_1 rfl rfl rfl ?_
  refine rs_iconst (v := 3) C dX4_phase_2 (by decide) rfl ?_
  refine rs_iload_n (i := 2) C dX4_phase_3 rfl rfl rfl ?_
  refine rs_iload_n (i := 3) C dX4_phase_4 rfl rfl rfl ?_
  obtain ⟨r3, S2, h1, h⟩ := rs_b2e h
  refine rs_callVi (r0 := r3) (S0 := S2) C (rs_kd_lt kk_76 (by decide)) (rs_e4 kk_76) rfl (c_X4_bestPart l G hG S a1 3 a2 a3 _ h1) ⟨wl_X4_154, wi_yX4_bestPart, wx_yX4_bestPart, wn_X4, wc_yX4_bestPart⟩ wy_yX4_bestPart (by decide) ⟨rfl, rfl⟩ rfl rfl (Nat.le_of_ble_eq_true rfl) dX4_phase_5 rfl ?_
  exact rs_iret C hr hlk h dX4_phase_8
def xf_X4_out_l48 (a1 : Int32) (K48 : rs_St → Int32 → Int32 → Int32 → Option (Int32 × rs_St)) : Nat → rs_St → Int32 → Int32 → Int32 → Option (Int32 × rs_St)
  | 0, _, _, _, _ => none
  | n48 + 1, S11, x12, x13, x14 => if (rs_gi S11 0 1) ≤ x14 then K48 S11 x12 x13 x14 else if x14 < 0 ∨ 4 ≤ x14.toNatClampNeg then none else rs_b1 (xf_X0_putOut S11 ((19 + 1) + 6 + 3 * x14.toNatClampNeg)) (fun S18 => rs_b1 (xf_X1_greatestBands S18 19 a1) (fun r20 => if x14 < 0 ∨ 4 ≤ x14.toNatClampNeg then none else if x14 < 0 ∨ 4 ≤ x14.toNatClampNeg then none else rs_b1 (xf_X0_copyFrom S18 ((19 + 1) + 6 + 3 * x14.toNatClampNeg) ((0 + 1) + 6 + 3 * x14.toNatClampNeg)) (fun S24 => rs_jn (fun (x25 : Int32) (x26 : Int32) => rs_lt (x14 + 1) (fun x28 => xf_X4_out_l48 a1 K48 n48 S24 x25 x26 x28)) (fun J27 => if x13 ≤ r20 then J27 x12 x13 else J27 x14 r20))))
def xf_X4_out (S : rs_St) (a1 : Int32) (a2 : Int32) : Option (Int32 × rs_St) := rs_b1 (xf_X4_outside S a1 0 40) (fun r2 => if r2 = 0 then rs_b1 (xf_X4_outside S a2 0 1) (fun r5 => if r5 = 0 then rs_b1 (xf_X1_copyFrom S 19 0) (fun S8 => rs_b1 (xf_X1_greatestBands S8 0 a1) (fun r10 => xf_X4_out_l48 a1 (fun (S30 : rs_St) (x31 : Int32) (x32 : Int32) (x33 : Int32) => if a2 = 0 then some (x31, S30) else if x31 = (-4) then some (x31, S30) else some (x32, S30)) rs_fu S8 (-4) r10 0)) else some ((-1), S)) else some ((-1), S))
set_option maxRecDepth 100000 in
theorem c_X4_out (l : Launch) (G : rs_G) (hG : rs_ok G) (S : rs_St) (a1 : Int32) (a2 : Int32)  (o : (Int32 × rs_St)) (h : xf_X4_out S a1 a2 = some o) : Met l yX4_out (rs_wz yX4_out cX4_out 7 (some FieldType.int)) (rs_rm 7) (va_Pc [.ref (rs_ad G 76), .int a1, .int a2] (rs_pre G S)) (va_Qi (fun r S2 => (r, S2) = o) (rs_post G) (rs_A G)) 0 0 (rs_A G) := by
  refine rs_met hG (by decide) (Nat.le_of_ble_eq_true rfl) ?_
  intro p e s m args below meth c C hr hlk
  rw [xf_X4_out] at h
  refine rs_iload_n (i := 1) C dX4_out_0 rfl rfl rfl ?_
  refine rs_iconst (v := 0) C dX4_out_1 (by decide) rfl ?_
  refine rs_bipush (v := 40) C dX4_out_2 (by decide) rfl ?_
  obtain ⟨r2, h1, h⟩ := rs_b1e h
  refine rs_callSi (r0 := r2) (S0 := S) C (c_X4_outside l G hG S a1 0 40 _ h1) ⟨wl_X4_45, ws_yX4_outside, wn_X4, wc_yX4_outside⟩ wy_yX4_outside (by decide) ⟨rfl, rfl⟩ rfl rfl (Nat.le_of_ble_eq_true rfl) dX4_out_4 rfl ?_
  refine rs_if_ne (tgt := 19) C dX4_out_7 (by decide) rfl (fun z3 => ?_) (fun z3 => ?_)
  · replace h := rs_if z3 h
    refine rs_iconst (v := (-1)) C dX4_out_19 (by decide) rfl ?_
    exact rs_iret C hr hlk h dX4_out_20
  · replace h := rs_it z3 h
    refine rs_iload_n (i := 2) C dX4_out_10 rfl rfl rfl ?_
    refine rs_iconst (v := 0) C dX4_out_11 (by decide) rfl ?_
    refine rs_iconst (v := 1) C dX4_out_12 (by decide) rfl ?_
    obtain ⟨r5, h4, h⟩ := rs_b1e h
    refine rs_callSi (r0 := r5) (S0 := S) C (c_X4_outside l G hG S a2 0 1 _ h4) ⟨wl_X4_45, ws_yX4_outside, wn_X4, wc_yX4_outside⟩ wy_yX4_outside (by decide) ⟨rfl, rfl⟩ rfl rfl (Nat.le_of_ble_eq_true rfl) dX4_out_13 rfl ?_
    refine rs_if_eq (tgt := 21) C dX4_out_16 (by decide) rfl (fun z6 => ?_) (fun z6 => ?_)
    · replace h := rs_it z6 h
      refine rs_aload_n (i := 0) C dX4_out_21 rfl rfl rfl ?_
      refine rg_X4_1 C kk_76 wl_X4_16 dX4_out_22 rfl ?_
      refine rs_aload_n (i := 0) C dX4_out_25 rfl rfl rfl ?_
      refine rg_X4_0 C kk_76 wl_X4_10 dX4_out_26 rfl ?_
      obtain ⟨S8, h7, h⟩ := rs_b1e h
      refine rs_callVv (S0 := S8) C (rs_kd_lt kk_19 (by decide)) (rs_e1 kk_19) rfl (c_X1_copyFrom l G hG S 19 0 kk_19 kk_0 _ h7) ⟨wl_X4_64, wi_yX1_copyFrom, wx_yX1_copyFrom, wn_X1, wc_yX1_copyFrom⟩ wy_yX1_copyFrom (by decide) ⟨rfl, rfl⟩ rfl rfl (Nat.le_of_ble_eq_true rfl) dX4_out_29 rfl ?_
      refine rs_bipush (v := (-4)) C dX4_out_32 (by decide) rfl ?_
      refine rs_istore_n (i := 3) C dX4_out_34 rfl (by decide) rfl ?_
      refine rs_aload_n (i := 0) C dX4_out_35 rfl rfl rfl ?_
      refine rg_X4_0 C kk_76 wl_X4_10 dX4_out_36 rfl ?_
      refine rs_iload_n (i := 1) C dX4_out_39 rfl rfl rfl ?_
      obtain ⟨r10, h9, h⟩ := rs_b1e h
      refine rs_callVi (r0 := r10) (S0 := S8) C (rs_kd_lt kk_0 (by decide)) (rs_e1 kk_0) rfl (c_X1_greatestBands l G hG S8 0 a1 kk_0 _ h9) ⟨wl_X4_123, wi_yX1_greatestBands, wx_yX1_greatestBands, wn_X1, wc_yX1_greatestBands⟩ wy_yX1_greatestBands (by decide) ⟨rfl, rfl⟩ rfl rfl (Nat.le_of_ble_eq_true rfl) dX4_out_40 rfl ?_
      refine rs_istore C dX4_out_43 (by decide) rfl ?_
      refine rs_iconst (v := 0) C dX4_out_45 (by decide) rfl ?_
      refine rs_istore C dX4_out_46 (by decide) rfl ?_
      refine rs_kw (F := fun K => xf_X4_out_l48 a1 K rs_fu S8 (-4) r10 0) (P := fun K => ∀ (S30 : rs_St) (x31 : Int32) (x32 : Int32) (x33 : Int32), K S30 x31 x32 x33 = some o → rs_Xi G 7 p l e (rs_rm 7) s m args below meth c o S30 126 [(0, .ref (rs_ad G 76)), (1, .int a1), (2, .int a2), (3, .int x31), (4, .int x32), (5, .int x33)] []) h (fun S30 x31 x32 x33 h => ?_) (fun K48 hK48 h => ?_)
      · refine rs_iload_n (i := 2) C dX4_out_126 rfl rfl rfl ?_
        refine rs_if_eq (tgt := 136) C dX4_out_127 (by decide) rfl (fun z34 => ?_) (fun z34 => ?_)
        · replace h := rs_it z34 h
          refine rs_iload_n (i := 3) C dX4_out_136 rfl rfl rfl ?_
          refine rs_goto (tgt := 142) C dX4_out_137 (by decide) ?_
          exact rs_iret C hr hlk h dX4_out_142
        · replace h := rs_if z34 h
          refine rs_iload_n (i := 3) C dX4_out_130 rfl rfl rfl ?_
          refine rs_bipush (v := (-4)) C dX4_out_131 (by decide) rfl ?_
          refine rs_icmp_ne (tgt := 140) C dX4_out_133 (by decide) rfl (fun z35 => ?_) (fun z35 => ?_)
          · replace h := rs_if z35 h
            refine rs_iload C dX4_out_140 rfl rfl ?_
            exact rs_iret C hr hlk h dX4_out_142
          · replace h := rs_it z35 h
            refine rs_iload_n (i := 3) C dX4_out_136 rfl rfl rfl ?_
            refine rs_goto (tgt := 142) C dX4_out_137 (by decide) ?_
            exact rs_iret C hr hlk h dX4_out_142
      · have L48 : ∀ (n48 : Nat) (S11 : rs_St) (x12 : Int32) (x13 : Int32) (x14 : Int32), xf_X4_out_l48 a1 K48 n48 S11 x12 x13 x14 = some o → rs_Xi G 7 p l e (rs_rm 7) s m args below meth c o S11 48 [(0, .ref (rs_ad G 76)), (1, .int a1), (2, .int a2), (3, .int x12), (4, .int x13), (5, .int x14)] [] := by
          intro n48
          induction n48 with
          | zero => intro S11 x12 x13 x14 h; exact (rs_no h).elim
          | succ n48 ih48 =>
            intro S11 x12 x13 x14 h
            rw [xf_X4_out_l48] at h
            refine rs_iload C dX4_out_48 rfl rfl ?_
            refine rs_aload_n (i := 0) C dX4_out_50 rfl rfl rfl ?_
            refine rg_X4_0 C kk_76 wl_X4_10 dX4_out_51 rfl ?_
            refine rg_X1_1 C kk_0 wl_X4_68 dX4_out_54 rfl ?_
            refine rs_icmp_ge (tgt := 126) C dX4_out_57 (by decide) rfl (fun z15 => ?_) (fun z15 => ?_)
            · replace h := rs_it z15 h
              exact rs_subk (hK48 _ _ _ _ h) (rs_ac rfl (rs_ac rfl (rs_ac rfl (rs_ac rfl (rs_ac rfl (rs_ac rfl rs_a0))))))
            · replace h := rs_if z15 h
              refine rs_aload_n (i := 0) C dX4_out_60 rfl rfl rfl ?_
              refine rg_X4_1 C kk_76 wl_X4_16 dX4_out_61 rfl ?_
              refine rg_X1_0 C kk_19 wl_X4_158 dX4_out_64 rfl ?_
              refine rs_iload C dX4_out_67 rfl rfl ?_
              obtain ⟨z16, h⟩ := rs_ck h
              refine rs_aald9 C (rs_k1a kk_19) z16 dX4_out_69 rfl ?_
              obtain ⟨S18, h17, h⟩ := rs_b1e h
              refine rs_callVv (S0 := S18) C (rs_kd_lt (rs_k9i (rs_k1a kk_19) z16) (by decide)) (rs_e0 (rs_k9i (rs_k1a kk_19) z16)) rfl (c_X0_putOut l G hG S11 ((19 + 1) + 6 + 3 * x14.toNatClampNeg) (rs_k9i (rs_k1a kk_19) z16) _ h17) ⟨wl_X4_162, wi_yX0_putOut, wx_yX0_putOut, wn_X0, wc_yX0_putOut⟩ wy_yX0_putOut (by decide) ⟨rfl, rfl⟩ rfl rfl (Nat.le_of_ble_eq_true rfl) dX4_out_70 rfl ?_
              refine rs_aload_n (i := 0) C dX4_out_73 rfl rfl rfl ?_
              refine rg_X4_1 C kk_76 wl_X4_16 dX4_out_74 rfl ?_
              refine rs_iload_n (i := 1) C dX4_out_77 rfl rfl rfl ?_
              obtain ⟨r20, h19, h⟩ := rs_b1e h
              refine rs_callVi (r0 := r20) (S0 := S18) C (rs_kd_lt kk_19 (by decide)) (rs_e1 kk_19) rfl (c_X1_greatestBands l G hG S18 19 a1 kk_19 _ h19) ⟨wl_X4_123, wi_yX1_greatestBands, wx_yX1_greatestBands, wn_X1, wc_yX1_greatestBands⟩ wy_yX1_greatestBands (by decide) ⟨rfl, rfl⟩ rfl rfl (Nat.le_of_ble_eq_true rfl) dX4_out_78 rfl ?_
              refine rs_istore C dX4_out_81 (by decide) rfl ?_
              refine rs_aload_n (i := 0) C dX4_out_83 rfl rfl rfl ?_
              refine rg_X4_1 C kk_76 wl_X4_16 dX4_out_84 rfl ?_
              refine rg_X1_0 C kk_19 wl_X4_158 dX4_out_87 rfl ?_
              refine rs_iload C dX4_out_90 rfl rfl ?_
              obtain ⟨z21, h⟩ := rs_ck h
              refine rs_aald9 C (rs_k1a kk_19) z21 dX4_out_92 rfl ?_
              refine rs_aload_n (i := 0) C dX4_out_93 rfl rfl rfl ?_
              refine rg_X4_0 C kk_76 wl_X4_10 dX4_out_94 rfl ?_
              refine rg_X1_0 C kk_0 wl_X4_158 dX4_out_97 rfl ?_
              refine rs_iload C dX4_out_100 rfl rfl ?_
              obtain ⟨z22, h⟩ := rs_ck h
              refine rs_aald9 C (rs_k1a kk_0) z22 dX4_out_102 rfl ?_
              obtain ⟨S24, h23, h⟩ := rs_b1e h
              refine rs_callVv (S0 := S24) C (rs_kd_lt (rs_k9i (rs_k1a kk_19) z21) (by decide)) (rs_e0 (rs_k9i (rs_k1a kk_19) z21)) rfl (c_X0_copyFrom l G hG S18 ((19 + 1) + 6 + 3 * x14.toNatClampNeg) ((0 + 1) + 6 + 3 * x14.toNatClampNeg) (rs_k9i (rs_k1a kk_19) z21) (rs_k9i (rs_k1a kk_0) z22) _ h23) ⟨wl_X4_165, wi_yX0_copyFrom, wx_yX0_copyFrom, wn_X0, wc_yX0_copyFrom⟩ wy_yX0_copyFrom (by decide) ⟨rfl, rfl⟩ rfl rfl (Nat.le_of_ble_eq_true rfl) dX4_out_103 rfl ?_
              refine rs_iload C dX4_out_106 rfl rfl ?_
              refine rs_iload C dX4_out_108 rfl rfl ?_
              refine rs_jw (P := fun J => ∀ (x25 : Int32) (x26 : Int32), J x25 x26 = some o → rs_Xi G 7 p l e (rs_rm 7) s m args below meth c o S24 120 [(0, .ref (rs_ad G 76)), (1, .int a1), (2, .int a2), (3, .int x25), (4, .int x26), (5, .int x14), (6, .int r20)] []) h (fun x25 x26 h => ?_) (fun J27 KJ27 h => ?_)
              · refine rs_iincn (v := 1) C dX4_out_120 rfl (by decide) (by decide) rfl h (fun x28 h => ?_)
                refine rs_goto (tgt := 48) C dX4_out_123 (by decide) ?_
                exact rs_subk (ih48 _ _ _ _ h) (rs_ac rfl (rs_ac rfl (rs_ac rfl (rs_ac rfl (rs_ac rfl (rs_ac rfl rs_a0))))))
              · refine rs_icmp_ge (tgt := 120) C dX4_out_110 (by decide) rfl (fun z29 => ?_) (fun z29 => ?_)
                · replace h := rs_it z29 h
                  exact rs_subk (KJ27 _ _ h) (rs_ac rfl (rs_ac rfl (rs_ac rfl (rs_ac rfl (rs_ac rfl (rs_ac rfl (rs_ac rfl rs_a0)))))))
                · replace h := rs_if z29 h
                  refine rs_iload C dX4_out_113 rfl rfl ?_
                  refine rs_istore C dX4_out_115 (by decide) rfl ?_
                  refine rs_iload C dX4_out_117 rfl rfl ?_
                  refine rs_istore_n (i := 3) C dX4_out_119 rfl (by decide) rfl ?_
                  exact rs_subk (KJ27 _ _ h) (rs_ac rfl (rs_ac rfl (rs_ac rfl (rs_ac rfl (rs_ac rfl (rs_ac rfl (rs_ac rfl rs_a0)))))))
        exact rs_subk (L48 rs_fu _ _ _ _ h) (rs_ac rfl (rs_ac rfl (rs_ac rfl (rs_ac rfl (rs_ac rfl (rs_ac rfl rs_a0))))))
    · replace h := rs_if z6 h
      refine rs_iconst (v := (-1)) C dX4_out_19 (by decide) rfl ?_
      exact rs_iret C hr hlk h dX4_out_20
def xf_X4_draftSteadyLamps_l13 (K13 : rs_St → Int32 → Option rs_St) : Nat → rs_St → Int32 → Option rs_St
  | 0, _, _ => none
  | n13 + 1, S3, x4 => if (rs_gi S3 19 1) ≤ x4 then K13 S3 x4 else if x4 < 0 ∨ 4 ≤ x4.toNatClampNeg then none else rs_jn (fun (S7 : rs_St) => rs_lt (x4 + 1) (fun x9 => xf_X4_draftSteadyLamps_l13 K13 n13 S7 x9)) (fun J8 => if (rs_gi S3 (((19 + 1) + 6 + 3 * x4.toNatClampNeg) + 1) 0) = 0 then J8 S3 else if x4 < 0 ∨ 4 ≤ x4.toNatClampNeg then none else rs_b1 (xf_X0_putOut S3 ((19 + 1) + 6 + 3 * x4.toNatClampNeg)) (fun S13 => J8 S13))
def xf_X4_draftSteadyLamps (S : rs_St) : Option rs_St := rs_b1 (xf_X1_copyFrom S 19 0) (fun S2 => xf_X4_draftSteadyLamps_l13 (fun (S14 : rs_St) (x15 : Int32) => some S14) rs_fu S2 0)
set_option maxRecDepth 100000 in
theorem c_X4_draftSteadyLamps (l : Launch) (G : rs_G) (hG : rs_ok G) (S : rs_St)  (o : rs_St) (h : xf_X4_draftSteadyLamps S = some o) : Met l yX4_draftSteadyLamps (rs_wz yX4_draftSteadyLamps cX4_draftSteadyLamps 2 none) (rs_rm 4) (va_Pc [.ref (rs_ad G 76)] (rs_pre G S)) (va_Qv (fun S2 => S2 = o) (rs_post G) (rs_A G)) 0 0 (rs_A G) := by
  refine rs_met hG (by decide) (Nat.le_of_ble_eq_true rfl) ?_
  intro p e s m args below meth c C hr hlk
  rw [xf_X4_draftSteadyLamps] at h
  refine rs_aload_n (i := 0) C dX4_draftSteadyLamps_0 rfl rfl rfl ?_
  refine rg_X4_1 C kk_76 wl_X4_16 dX4_draftSteadyLamps_1 rfl ?_
  refine rs_aload_n (i := 0) C dX4_draftSteadyLamps_4 rfl rfl rfl ?_
  refine rg_X4_0 C kk_76 wl_X4_10 dX4_draftSteadyLamps_5 rfl ?_
  obtain ⟨S2, h1, h⟩ := rs_b1e h
  refine rs_callVv (S0 := S2) C (rs_kd_lt kk_19 (by decide)) (rs_e1 kk_19) rfl (c_X1_copyFrom l G hG S 19 0 kk_19 kk_0 _ h1) ⟨wl_X4_64, wi_yX1_copyFrom, wx_yX1_copyFrom, wn_X1, wc_yX1_copyFrom⟩ wy_yX1_copyFrom (by decide) ⟨rfl, rfl⟩ rfl rfl (Nat.le_of_ble_eq_true rfl) dX4_draftSteadyLamps_8 rfl ?_
  refine rs_iconst (v := 0) C dX4_draftSteadyLamps_11 (by decide) rfl ?_
  refine rs_istore_n (i := 1) C dX4_draftSteadyLamps_12 rfl (by decide) rfl ?_
  refine rs_kw (F := fun K => xf_X4_draftSteadyLamps_l13 K rs_fu S2 0) (P := fun K => ∀ (S14 : rs_St) (x15 : Int32), K S14 x15 = some o → rs_Xv G 2 p l e (rs_rm 4) s m args below meth c o S14 59 [(0, .ref (rs_ad G 76)), (1, .int x15)] []) h (fun S14 x15 h => ?_) (fun K13 hK13 h => ?_)
  · exact rs_vret C hr hlk h dX4_draftSteadyLamps_59
  · have L13 : ∀ (n13 : Nat) (S3 : rs_St) (x4 : Int32), xf_X4_draftSteadyLamps_l13 K13 n13 S3 x4 = some o → rs_Xv G 2 p l e (rs_rm 4) s m args below meth c o S3 13 [(0, .ref (rs_ad G 76)), (1, .int x4)] [] := by
      intro n13
      induction n13 with
      | zero => intro S3 x4 h; exact (rs_no h).elim
      | succ n13 ih13 =>
        intro S3 x4 h
        rw [xf_X4_draftSteadyLamps_l13] at h
        refine rs_iload_n (i := 1) C dX4_draftSteadyLamps_13 rfl rfl rfl ?_
        refine rs_aload_n (i := 0) C dX4_draftSteadyLamps_14 rfl rfl rfl ?_
        refine rg_X4_1 C kk_76 wl_X4_16 dX4_draftSteadyLamps_15 rfl ?_
        refine rg_X1_1 C kk_19 wl_X4_68 dX4_draftSteadyLamps_18 rfl ?_
        refine rs_icmp_ge (tgt := 59) C dX4_draftSteadyLamps_21 (by decide) rfl (fun z5 => ?_) (fun z5 => ?_)
        · replace h := rs_it z5 h
          exact rs_subk (hK13 _ _ h) (rs_ac rfl (rs_ac rfl rs_a0))
        · replace h := rs_if z5 h
          refine rs_aload_n (i := 0) C dX4_draftSteadyLamps_24 rfl rfl rfl ?_
          refine rg_X4_1 C kk_76 wl_X4_16 dX4_draftSteadyLamps_25 rfl ?_
          refine rg_X1_0 C kk_19 wl_X4_158 dX4_draftSteadyLamps_28 rfl ?_
          refine rs_iload_n (i := 1) C dX4_draftSteadyLamps_31 rfl rfl rfl ?_
          obtain ⟨z6, h⟩ := rs_ck h
          refine rs_aald9 C (rs_k1a kk_19) z6 dX4_draftSteadyLamps_32 rfl ?_
          refine rg_X0_0 C (rs_k9i (rs_k1a kk_19) z6) wl_X4_88 dX4_draftSteadyLamps_33 rfl ?_
          refine rs_iconst (v := 0) C dX4_draftSteadyLamps_36 (by decide) rfl ?_
          refine rs_ialdc C (rs_k0a (rs_k9i (rs_k1a kk_19) z6)) (rs_l0a (rs_k9i (rs_k1a kk_19) z6)) 0 (by decide) (by decide) dX4_draftSteadyLamps_37 rfl ?_
          refine rs_jw (P := fun J => ∀ (S7 : rs_St), J S7 = some o → rs_Xv G 2 p l e (rs_rm 4) s m args below meth c o S7 53 [(0, .ref (rs_ad G 76)), (1, .int x4)] []) h (fun S7 h => ?_) (fun J8 KJ8 h => ?_)
          · refine rs_iincn (v := 1) C dX4_draftSteadyLamps_53 rfl (by decide) (by decide) rfl h (fun x9 h => ?_)
            refine rs_goto (tgt := 13) C dX4_draftSteadyLamps_56 (by decide) ?_
            exact rs_subk (ih13 _ _ h) (rs_ac rfl (rs_ac rfl rs_a0))
          · refine rs_if_eq (tgt := 53) C dX4_draftSteadyLamps_38 (by decide) rfl (fun z10 => ?_) (fun z10 => ?_)
            · replace h := rs_it z10 h
              exact rs_subk (KJ8 _ h) (rs_ac rfl (rs_ac rfl rs_a0))
            · replace h := rs_if z10 h
              refine rs_aload_n (i := 0) C dX4_draftSteadyLamps_41 rfl rfl rfl ?_
              refine rg_X4_1 C kk_76 wl_X4_16 dX4_draftSteadyLamps_42 rfl ?_
              refine rg_X1_0 C kk_19 wl_X4_158 dX4_draftSteadyLamps_45 rfl ?_
              refine rs_iload_n (i := 1) C dX4_draftSteadyLamps_48 rfl rfl rfl ?_
              obtain ⟨z11, h⟩ := rs_ck h
              refine rs_aald9 C (rs_k1a kk_19) z11 dX4_draftSteadyLamps_49 rfl ?_
              obtain ⟨S13, h12, h⟩ := rs_b1e h
              refine rs_callVv (S0 := S13) C (rs_kd_lt (rs_k9i (rs_k1a kk_19) z11) (by decide)) (rs_e0 (rs_k9i (rs_k1a kk_19) z11)) rfl (c_X0_putOut l G hG S3 ((19 + 1) + 6 + 3 * x4.toNatClampNeg) (rs_k9i (rs_k1a kk_19) z11) _ h12) ⟨wl_X4_162, wi_yX0_putOut, wx_yX0_putOut, wn_X0, wc_yX0_putOut⟩ wy_yX0_putOut (by decide) ⟨rfl, rfl⟩ rfl rfl (Nat.le_of_ble_eq_true rfl) dX4_draftSteadyLamps_50 rfl ?_
              exact rs_subk (KJ8 _ h) (rs_ac rfl (rs_ac rfl rs_a0))
    exact rs_subk (L13 rs_fu _ _ h) (rs_ac rfl (rs_ac rfl rs_a0))
def xf_X4_inLowestTerms_l9 (K9 : Int64 → Int64 → Int32 → Option Int64) : Nat → Int64 → Int64 → Int32 → Option Int64
  | 0, _, _, _ => none
  | n9 + 1, x1, x2, x3 => if 100 ≤ x3 then K9 x1 x2 x3 else if (lg_cmp x2 0) = 0 then K9 x1 x2 x3 else if x2 = 0 then none else rs_lt (x1 - x1 / x2 * x2) (fun x7 => rs_lt (x3 + 1) (fun x8 => xf_X4_inLowestTerms_l9 K9 n9 x2 x7 x8))
def xf_X4_inLowestTerms (S : rs_St) (a1 : Int64) (a2 : Int64) (a3 : Int32) : Option Int64 := xf_X4_inLowestTerms_l9 (fun (x9 : Int64) (x10 : Int64) (x11 : Int32) => if 0 ≤ (lg_cmp x9 1) then if a3 = 0 then if x9 = 0 then none else some (a1 / x9) else if x9 = 0 then none else some (a2 / x9) else if a3 = 0 then some a1 else some a2) rs_fu a1 a2 0
set_option maxRecDepth 100000 in
theorem c_X4_inLowestTerms (l : Launch) (G : rs_G) (hG : rs_ok G) (S : rs_St) (a1 : Int64) (a2 : Int64) (a3 : Int32)  (o : Int64) (h : xf_X4_inLowestTerms S a1 a2 a3 = some o) : Met l yX4_inLowestTerms (rs_wz yX4_inLowestTerms cX4_inLowestTerms 12 (some FieldType.long)) (rs_rm 2) (va_Pc [.long a1, .long a2, .int a3] (rs_pre G S)) (va_Ql (fun r S2 => (r, S2) = (o, S)) (rs_post G) (rs_A G)) 0 0 (rs_A G) := by
  refine rs_met hG (by decide) (Nat.le_of_ble_eq_true rfl) ?_
  intro p e s m args below meth c C hr hlk
  rw [xf_X4_inLowestTerms] at h
  refine rs_lload_n (i := 0) C dX4_inLowestTerms_0 rfl rfl rfl ?_
  refine rs_lstore C dX4_inLowestTerms_1 (by decide) rfl ?_
  refine rs_lload_n (i := 2) C dX4_inLowestTerms_3 rfl rfl rfl ?_
  refine rs_lstore C dX4_inLowestTerms_4 (by decide) rfl ?_
  refine rs_iconst (v := 0) C dX4_inLowestTerms_6 (by decide) rfl ?_
  refine rs_istore C dX4_inLowestTerms_7 (by decide) rfl ?_
  refine rs_kw (F := fun K => xf_X4_inLowestTerms_l9 K rs_fu a1 a2 0) (P := fun K => ∀ (x9 : Int64) (x10 : Int64) (x11 : Int32), K x9 x10 x11 = some o → rs_Xl G 12 p l e (rs_rm 2) s m args below meth c (o, S) S 44 [(0, .long a1), (2, .long a2), (4, .int a3), (5, .long x9), (7, .long x10), (9, .int x11)] []) h (fun x9 x10 x11 h => ?_) (fun K9 hK9 h => ?_)
  · refine rs_lload C dX4_inLowestTerms_44 rfl rfl ?_
    refine rs_lconst (v := 1) C dX4_inLowestTerms_46 (by decide) rfl ?_
    refine rs_lcmp C dX4_inLowestTerms_47 rfl ?_
    refine rs_if_ge (tgt := 62) C dX4_inLowestTerms_48 (by decide) rfl (fun z12 => ?_) (fun z12 => ?_)
    · replace h := rs_it z12 h
      refine rs_iload C dX4_inLowestTerms_62 rfl rfl ?_
      refine rs_if_ne (tgt := 74) C dX4_inLowestTerms_64 (by decide) rfl (fun z13 => ?_) (fun z13 => ?_)
      · replace h := rs_if z13 h
        refine rs_lload_n (i := 2) C dX4_inLowestTerms_74 rfl rfl rfl ?_
        refine rs_lload C dX4_inLowestTerms_75 rfl rfl ?_
        obtain ⟨z14, h⟩ := rs_ck h
        refine rs_ldiv C dX4_inLowestTerms_77 z14 rfl ?_
        exact rs_lret C hr hlk (rs_pr h) dX4_inLowestTerms_78
      · replace h := rs_it z13 h
        refine rs_lload_n (i := 0) C dX4_inLowestTerms_67 rfl rfl rfl ?_
        refine rs_lload C dX4_inLowestTerms_68 rfl rfl ?_
        obtain ⟨z15, h⟩ := rs_ck h
        refine rs_ldiv C dX4_inLowestTerms_70 z15 rfl ?_
        refine rs_goto (tgt := 78) C dX4_inLowestTerms_71 (by decide) ?_
        exact rs_lret C hr hlk (rs_pr h) dX4_inLowestTerms_78
    · replace h := rs_if z12 h
      refine rs_iload C dX4_inLowestTerms_51 rfl rfl ?_
      refine rs_if_ne (tgt := 60) C dX4_inLowestTerms_53 (by decide) rfl (fun z16 => ?_) (fun z16 => ?_)
      · replace h := rs_if z16 h
        refine rs_lload_n (i := 2) C dX4_inLowestTerms_60 rfl rfl rfl ?_
        exact rs_lret C hr hlk (rs_pr h) dX4_inLowestTerms_61
      · replace h := rs_it z16 h
        refine rs_lload_n (i := 0) C dX4_inLowestTerms_56 rfl rfl rfl ?_
        refine rs_goto (tgt := 61) C dX4_inLowestTerms_57 (by decide) ?_
        exact rs_lret C hr hlk (rs_pr h) dX4_inLowestTerms_61
  · have L9 : ∀ (n9 : Nat) (x1 : Int64) (x2 : Int64) (x3 : Int32), xf_X4_inLowestTerms_l9 K9 n9 x1 x2 x3 = some o → rs_Xl G 12 p l e (rs_rm 2) s m args below meth c (o, S) S 9 [(0, .long a1), (2, .long a2), (4, .int a3), (5, .long x1), (7, .long x2), (9, .int x3)] [] := by
      intro n9
      induction n9 with
      | zero => intro x1 x2 x3 h; exact (rs_no h).elim
      | succ n9 ih9 =>
        intro x1 x2 x3 h
        rw [xf_X4_inLowestTerms_l9] at h
        refine rs_iload C dX4_inLowestTerms_9 rfl rfl ?_
        refine rs_bipush (v := 100) C dX4_inLowestTerms_11 (by decide) rfl ?_
        refine rs_icmp_ge (tgt := 44) C dX4_inLowestTerms_13 (by decide) rfl (fun z4 => ?_) (fun z4 => ?_)
        · replace h := rs_it z4 h
          exact rs_subk (hK9 _ _ _ h) (rs_ac rfl (rs_ac rfl (rs_ac rfl (rs_ac rfl (rs_ac rfl (rs_ac rfl rs_a0))))))
        · replace h := rs_if z4 h
          refine rs_lload C dX4_inLowestTerms_16 rfl rfl ?_
          refine rs_lconst (v := 0) C dX4_inLowestTerms_18 (by decide) rfl ?_
          refine rs_lcmp C dX4_inLowestTerms_19 rfl ?_
          refine rs_if_eq (tgt := 44) C dX4_inLowestTerms_20 (by decide) rfl (fun z5 => ?_) (fun z5 => ?_)
          · replace h := rs_it z5 h
            exact rs_subk (hK9 _ _ _ h) (rs_ac rfl (rs_ac rfl (rs_ac rfl (rs_ac rfl (rs_ac rfl (rs_ac rfl rs_a0))))))
          · replace h := rs_if z5 h
            refine rs_lload C dX4_inLowestTerms_23 rfl rfl ?_
            refine rs_lload C dX4_inLowestTerms_25 rfl rfl ?_
            obtain ⟨z6, h⟩ := rs_ck h
            refine rs_lrem C dX4_inLowestTerms_27 z6 rfl ?_
            refine rs_nml h (fun x7 h => ?_)
            refine rs_lstore C dX4_inLowestTerms_28 (by decide) rfl ?_
            refine rs_lload C dX4_inLowestTerms_30 rfl rfl ?_
            refine rs_lstore C dX4_inLowestTerms_32 (by decide) rfl ?_
            refine rs_lload C dX4_inLowestTerms_34 rfl rfl ?_
            refine rs_lstore C dX4_inLowestTerms_36 (by decide) rfl ?_
            refine rs_iincn (v := 1) C dX4_inLowestTerms_38 rfl (by decide) (by decide) rfl h (fun x8 h => ?_)
            refine rs_goto (tgt := 9) C dX4_inLowestTerms_41 (by decide) ?_
            exact rs_subk (ih9 _ _ _ h) (rs_ac rfl (rs_ac rfl (rs_ac rfl (rs_ac rfl (rs_ac rfl (rs_ac rfl rs_a0))))))
    exact rs_subk (L9 rs_fu _ _ _ h) (rs_ac rfl (rs_ac rfl (rs_ac rfl (rs_ac rfl (rs_ac rfl (rs_ac rfl rs_a0))))))
def xf_X4_luck_l58 (a1 : Int32) (a2 : Int32) (a3 : Int32) (S14 : rs_St) (K58 : Int64 → Int64 → Int32 → Option (Int64 × rs_St)) : Nat → Int64 → Int64 → Int32 → Option (Int64 × rs_St)
  | 0, _, _, _ => none
  | n58 + 1, x15, x16, x17 => if a2 ≤ x17 then K58 x15 x16 x17 else rs_b1 (xf_X1_bands S14 0 x17) (fun r20 => rs_jn (fun (x21 : Int32) => rs_b1 (xf_X1_bands S14 19 x17) (fun r24 => rs_jn (fun (x25 : Int32) => rs_lt (x15 * (x21 + x25).toInt64) (fun x27 => rs_lt (x16 * 10) (fun x28 => rs_lt (x17 + 1) (fun x29 => xf_X4_luck_l58 a1 a2 a3 S14 K58 n58 x27 x28 x29)))) (fun J26 => if a3 < r24 then J26 0 else J26 a1))) (fun J22 => if a3 < r20 then J22 0 else J22 (10 - a1)))
def xf_X4_luck (S : rs_St) (a1 : Int32) (a2 : Int32) (a3 : Int32) (a4 : Int32) : Option (Int64 × rs_St) := rs_b1 (xf_X4_outside S a1 0 10) (fun r2 => if r2 = 0 then rs_b1 (xf_X4_outside S a2 0 8) (fun r5 => if r5 = 0 then rs_b1 (xf_X4_outside S a3 0 255) (fun r8 => if r8 = 0 then rs_b1 (xf_X4_outside S a4 0 1) (fun r11 => if r11 = 0 then rs_b1 (xf_X4_draftSteadyLamps S) (fun S14 => xf_X4_luck_l58 a1 a2 a3 S14 (fun (x32 : Int64) (x33 : Int64) (x34 : Int32) => rs_b1 (xf_X4_inLowestTerms S14 x32 x33 a4) (fun r36 => some (r36, S14))) rs_fu 1 1 0) else some ((-1), S)) else some ((-1), S)) else some ((-1), S)) else some ((-1), S))
set_option maxRecDepth 100000 in
theorem c_X4_luck (l : Launch) (G : rs_G) (hG : rs_ok G) (S : rs_St) (a1 : Int32) (a2 : Int32) (a3 : Int32) (a4 : Int32)  (o : (Int64 × rs_St)) (h : xf_X4_luck S a1 a2 a3 a4 = some o) : Met l yX4_luck (rs_wz yX4_luck cX4_luck 12 (some FieldType.long)) (rs_rm 6) (va_Pc [.ref (rs_ad G 76), .int a1, .int a2, .int a3, .int a4] (rs_pre G S)) (va_Ql (fun r S2 => (r, S2) = o) (rs_post G) (rs_A G)) 0 0 (rs_A G) := by
  refine rs_met hG (by decide) (Nat.le_of_ble_eq_true rfl) ?_
  intro p e s m args below meth c C hr hlk
  rw [xf_X4_luck] at h
  refine rs_iload_n (i := 1) C dX4_luck_0 rfl rfl rfl ?_
  refine rs_iconst (v := 0) C dX4_luck_1 (by decide) rfl ?_
  refine rs_bipush (v := 10) C dX4_luck_2 (by decide) rfl ?_
  obtain ⟨r2, h1, h⟩ := rs_b1e h
  refine rs_callSi (r0 := r2) (S0 := S) C (c_X4_outside l G hG S a1 0 10 _ h1) ⟨wl_X4_45, ws_yX4_outside, wn_X4, wc_yX4_outside⟩ wy_yX4_outside (by decide) ⟨rfl, rfl⟩ rfl rfl (Nat.le_of_ble_eq_true rfl) dX4_luck_4 rfl ?_
  refine rs_if_ne (tgt := 41) C dX4_luck_7 (by decide) rfl (fun z3 => ?_) (fun z3 => ?_)
  · replace h := rs_if z3 h
    refine rs_ldc2 C dX4_luck_41 wk_X4_168 rfl ?_
    exact rs_lret C hr hlk h dX4_luck_44
  · replace h := rs_it z3 h
    refine rs_iload_n (i := 2) C dX4_luck_10 rfl rfl rfl ?_
    refine rs_iconst (v := 0) C dX4_luck_11 (by decide) rfl ?_
    refine rs_bipush (v := 8) C dX4_luck_12 (by decide) rfl ?_
    obtain ⟨r5, h4, h⟩ := rs_b1e h
    refine rs_callSi (r0 := r5) (S0 := S) C (c_X4_outside l G hG S a2 0 8 _ h4) ⟨wl_X4_45, ws_yX4_outside, wn_X4, wc_yX4_outside⟩ wy_yX4_outside (by decide) ⟨rfl, rfl⟩ rfl rfl (Nat.le_of_ble_eq_true rfl) dX4_luck_14 rfl ?_
    refine rs_if_ne (tgt := 41) C dX4_luck_17 (by decide) rfl (fun z6 => ?_) (fun z6 => ?_)
    · replace h := rs_if z6 h
      refine rs_ldc2 C dX4_luck_41 wk_X4_168 rfl ?_
      exact rs_lret C hr hlk h dX4_luck_44
    · replace h := rs_it z6 h
      refine rs_iload_n (i := 3) C dX4_luck_20 rfl rfl rfl ?_
      refine rs_iconst (v := 0) C dX4_luck_21 (by decide) rfl ?_
      refine rs_sipush (v := 255) C dX4_luck_22 (by decide) rfl ?_
      obtain ⟨r8, h7, h⟩ := rs_b1e h
      refine rs_callSi (r0 := r8) (S0 := S) C (c_X4_outside l G hG S a3 0 255 _ h7) ⟨wl_X4_45, ws_yX4_outside, wn_X4, wc_yX4_outside⟩ wy_yX4_outside (by decide) ⟨rfl, rfl⟩ rfl rfl (Nat.le_of_ble_eq_true rfl) dX4_luck_25 rfl ?_
      refine rs_if_ne (tgt := 41) C dX4_luck_28 (by decide) rfl (fun z9 => ?_) (fun z9 => ?_)
      · replace h := rs_if z9 h
        refine rs_ldc2 C dX4_luck_41 wk_X4_168 rfl ?_
        exact rs_lret C hr hlk h dX4_luck_44
      · replace h := rs_it z9 h
        refine rs_iload C dX4_luck_31 rfl rfl ?_
        refine rs_iconst (v := 0) C dX4_luck_33 (by decide) rfl ?_
        refine rs_iconst (v := 1) C dX4_luck_34 (by decide) rfl ?_
        obtain ⟨r11, h10, h⟩ := rs_b1e h
        refine rs_callSi (r0 := r11) (S0 := S) C (c_X4_outside l G hG S a4 0 1 _ h10) ⟨wl_X4_45, ws_yX4_outside, wn_X4, wc_yX4_outside⟩ wy_yX4_outside (by decide) ⟨rfl, rfl⟩ rfl rfl (Nat.le_of_ble_eq_true rfl) dX4_luck_35 rfl ?_
        refine rs_if_eq (tgt := 45) C dX4_luck_38 (by decide) rfl (fun z12 => ?_) (fun z12 => ?_)
        · replace h := rs_it z12 h
          refine rs_aload_n (i := 0) C dX4_luck_45 rfl rfl rfl ?_
          obtain ⟨S14, h13, h⟩ := rs_b1e h
          refine rs_callVv (S0 := S14) C (rs_kd_lt kk_76 (by decide)) (rs_e4 kk_76) rfl (c_X4_draftSteadyLamps l G hG S _ h13) ⟨wl_X4_170, wi_yX4_draftSteadyLamps, wx_yX4_draftSteadyLamps, wn_X4, wc_yX4_draftSteadyLamps⟩ wy_yX4_draftSteadyLamps (by decide) ⟨rfl, rfl⟩ rfl rfl (Nat.le_of_ble_eq_true rfl) dX4_luck_46 rfl ?_
          refine rs_lconst (v := 1) C dX4_luck_49 (by decide) rfl ?_
          refine rs_lstore C dX4_luck_50 (by decide) rfl ?_
          refine rs_lconst (v := 1) C dX4_luck_52 (by decide) rfl ?_
          refine rs_lstore C dX4_luck_53 (by decide) rfl ?_
          refine rs_iconst (v := 0) C dX4_luck_55 (by decide) rfl ?_
          refine rs_istore C dX4_luck_56 (by decide) rfl ?_
          refine rs_kw (F := fun K => xf_X4_luck_l58 a1 a2 a3 S14 K rs_fu 1 1 0) (P := fun K => ∀ (x32 : Int64) (x33 : Int64) (x34 : Int32), K x32 x33 x34 = some o → rs_Xl G 12 p l e (rs_rm 6) s m args below meth c o S14 132 [(0, .ref (rs_ad G 76)), (1, .int a1), (2, .int a2), (3, .int a3), (4, .int a4), (5, .long x32), (7, .long x33), (9, .int x34)] []) h (fun x32 x33 x34 h => ?_) (fun K58 hK58 h => ?_)
          · refine rs_lload C dX4_luck_132 rfl rfl ?_
            refine rs_lload C dX4_luck_134 rfl rfl ?_
            refine rs_iload C dX4_luck_136 rfl rfl ?_
            obtain ⟨r36, h35, h⟩ := rs_b1e h
            refine rs_callSl (r0 := r36) (S0 := S14) C (c_X4_inLowestTerms l G hG S14 x32 x33 a4 _ h35) ⟨wl_X4_175, ws_yX4_inLowestTerms, wn_X4, wc_yX4_inLowestTerms⟩ wy_yX4_inLowestTerms (by decide) ⟨rfl, rfl⟩ rfl rfl (Nat.le_of_ble_eq_true rfl) dX4_luck_138 rfl ?_
            exact rs_lret C hr hlk h dX4_luck_141
          · have L58 : ∀ (n58 : Nat) (x15 : Int64) (x16 : Int64) (x17 : Int32), xf_X4_luck_l58 a1 a2 a3 S14 K58 n58 x15 x16 x17 = some o → rs_Xl G 12 p l e (rs_rm 6) s m args below meth c o S14 58 [(0, .ref (rs_ad G 76)), (1, .int a1), (2, .int a2), (3, .int a3), (4, .int a4), (5, .long x15), (7, .long x16), (9, .int x17)] [] := by
              intro n58
              induction n58 with
              | zero => intro x15 x16 x17 h; exact (rs_no h).elim
              | succ n58 ih58 =>
                intro x15 x16 x17 h
                rw [xf_X4_luck_l58] at h
                refine rs_iload C dX4_luck_58 rfl rfl ?_
                refine rs_iload_n (i := 2) C dX4_luck_60 rfl rfl rfl ?_
                refine rs_icmp_ge (tgt := 132) C dX4_luck_61 (by decide) rfl (fun z18 => ?_) (fun z18 => ?_)
                · replace h := rs_it z18 h
                  exact rs_subk (hK58 _ _ _ h) (rs_ac rfl (rs_ac rfl (rs_ac rfl (rs_ac rfl (rs_ac rfl (rs_ac rfl (rs_ac rfl (rs_ac rfl rs_a0))))))))
                · replace h := rs_if z18 h
                  refine rs_aload_n (i := 0) C dX4_luck_64 rfl rfl rfl ?_
                  refine rg_X4_0 C kk_76 wl_X4_10 dX4_luck_65 rfl ?_
                  refine rs_iload C dX4_luck_68 rfl rfl ?_
                  obtain ⟨r20, h19, h⟩ := rs_b1e h
                  refine rs_callVi (r0 := r20) (S0 := S14) C (rs_kd_lt kk_0 (by decide)) (rs_e1 kk_0) rfl (c_X1_bands l G hG S14 0 x17 kk_0 _ h19) ⟨wl_X4_142, wi_yX1_bands, wx_yX1_bands, wn_X1, wc_yX1_bands⟩ wy_yX1_bands (by decide) ⟨rfl, rfl⟩ rfl rfl (Nat.le_of_ble_eq_true rfl) dX4_luck_70 rfl ?_
                  refine rs_iload_n (i := 3) C dX4_luck_73 rfl rfl rfl ?_
                  refine rs_jw (P := fun J => ∀ (x21 : Int32), J x21 = some o → rs_Xl G 12 p l e (rs_rm 6) s m args below meth c o S14 85 [(0, .ref (rs_ad G 76)), (1, .int a1), (2, .int a2), (3, .int a3), (4, .int a4), (5, .long x15), (7, .long x16), (9, .int x17)] [.int x21]) h (fun x21 h => ?_) (fun J22 KJ22 h => ?_)
                  · refine rs_istore C dX4_luck_85 (by decide) rfl ?_
                    refine rs_aload_n (i := 0) C dX4_luck_87 rfl rfl rfl ?_
                    refine rg_X4_1 C kk_76 wl_X4_16 dX4_luck_88 rfl ?_
                    refine rs_iload C dX4_luck_91 rfl rfl ?_
                    obtain ⟨r24, h23, h⟩ := rs_b1e h
                    refine rs_callVi (r0 := r24) (S0 := S14) C (rs_kd_lt kk_19 (by decide)) (rs_e1 kk_19) rfl (c_X1_bands l G hG S14 19 x17 kk_19 _ h23) ⟨wl_X4_142, wi_yX1_bands, wx_yX1_bands, wn_X1, wc_yX1_bands⟩ wy_yX1_bands (by decide) ⟨rfl, rfl⟩ rfl rfl (Nat.le_of_ble_eq_true rfl) dX4_luck_93 rfl ?_
                    refine rs_iload_n (i := 3) C dX4_luck_96 rfl rfl rfl ?_
                    refine rs_jw (P := fun J => ∀ (x25 : Int32), J x25 = some o → rs_Xl G 12 p l e (rs_rm 6) s m args below meth c o S14 105 [(0, .ref (rs_ad G 76)), (1, .int a1), (2, .int a2), (3, .int a3), (4, .int a4), (5, .long x15), (7, .long x16), (9, .int x17), (10, .int x21)] [.int x25]) h (fun x25 h => ?_) (fun J26 KJ26 h => ?_)
                    · refine rs_istore C dX4_luck_105 (by decide) rfl ?_
                      refine rs_lload C dX4_luck_107 rfl rfl ?_
                      refine rs_iload C dX4_luck_109 rfl rfl ?_
                      refine rs_iload C dX4_luck_111 rfl rfl ?_
                      refine rs_iadd C dX4_luck_113 rfl ?_
                      refine rs_i2l C dX4_luck_114 rfl ?_
                      refine rs_lmul C dX4_luck_115 rfl ?_
                      refine rs_nml h (fun x27 h => ?_)
                      refine rs_lstore C dX4_luck_116 (by decide) rfl ?_
                      refine rs_lload C dX4_luck_118 rfl rfl ?_
                      refine rs_ldc2 C dX4_luck_120 wk_X4_173 rfl ?_
                      refine rs_lmul C dX4_luck_123 rfl ?_
                      refine rs_nml h (fun x28 h => ?_)
                      refine rs_lstore C dX4_luck_124 (by decide) rfl ?_
                      refine rs_iincn (v := 1) C dX4_luck_126 rfl (by decide) (by decide) rfl h (fun x29 h => ?_)
                      refine rs_goto (tgt := 58) C dX4_luck_129 (by decide) ?_
                      exact rs_subk (ih58 _ _ _ h) (rs_ac rfl (rs_ac rfl (rs_ac rfl (rs_ac rfl (rs_ac rfl (rs_ac rfl (rs_ac rfl (rs_ac rfl rs_a0))))))))
                    · refine rs_icmp_gt (tgt := 104) C dX4_luck_97 (by decide) rfl (fun z30 => ?_) (fun z30 => ?_)
                      · replace h := rs_it z30 h
                        refine rs_iconst (v := 0) C dX4_luck_104 (by decide) rfl ?_
                        exact rs_subk (KJ26 _ h) (rs_ac rfl (rs_ac rfl (rs_ac rfl (rs_ac rfl (rs_ac rfl (rs_ac rfl (rs_ac rfl (rs_ac rfl (rs_ac rfl rs_a0)))))))))
                      · replace h := rs_if z30 h
                        refine rs_iload_n (i := 1) C dX4_luck_100 rfl rfl rfl ?_
                        refine rs_goto (tgt := 105) C dX4_luck_101 (by decide) ?_
                        exact rs_subk (KJ26 _ h) (rs_ac rfl (rs_ac rfl (rs_ac rfl (rs_ac rfl (rs_ac rfl (rs_ac rfl (rs_ac rfl (rs_ac rfl (rs_ac rfl rs_a0)))))))))
                  · refine rs_icmp_gt (tgt := 84) C dX4_luck_74 (by decide) rfl (fun z31 => ?_) (fun z31 => ?_)
                    · replace h := rs_it z31 h
                      refine rs_iconst (v := 0) C dX4_luck_84 (by decide) rfl ?_
                      exact rs_subk (KJ22 _ h) (rs_ac rfl (rs_ac rfl (rs_ac rfl (rs_ac rfl (rs_ac rfl (rs_ac rfl (rs_ac rfl (rs_ac rfl rs_a0))))))))
                    · replace h := rs_if z31 h
                      refine rs_bipush (v := 10) C dX4_luck_77 (by decide) rfl ?_
                      refine rs_iload_n (i := 1) C dX4_luck_79 rfl rfl rfl ?_
                      refine rs_isub C dX4_luck_80 rfl ?_
                      refine rs_goto (tgt := 85) C dX4_luck_81 (by decide) ?_
                      exact rs_subk (KJ22 _ h) (rs_ac rfl (rs_ac rfl (rs_ac rfl (rs_ac rfl (rs_ac rfl (rs_ac rfl (rs_ac rfl (rs_ac rfl rs_a0))))))))
            exact rs_subk (L58 rs_fu _ _ _ h) (rs_ac rfl (rs_ac rfl (rs_ac rfl (rs_ac rfl (rs_ac rfl (rs_ac rfl (rs_ac rfl (rs_ac rfl rs_a0))))))))
        · replace h := rs_if z12 h
          refine rs_ldc2 C dX4_luck_41 wk_X4_168 rfl ?_
          exact rs_lret C hr hlk h dX4_luck_44
def xf_X4_mean (S : rs_St) (a1 : Int32) (a2 : Int32) (a3 : Int32) : Option (Int64 × rs_St) := rs_b1 (xf_X4_outside S a1 0 10) (fun r2 => if r2 = 0 then rs_b1 (xf_X4_outside S a2 0 8) (fun r5 => if r5 = 0 then rs_b1 (xf_X4_outside S a3 0 1) (fun r8 => if r8 = 0 then rs_b1 (xf_X4_draftSteadyLamps S) (fun S11 => rs_b1 (xf_X1_lightOfShots S11 0 a2) (fun r13 => rs_lt (r13.toInt64) (fun x14 => rs_b1 (xf_X1_lightOfShots S11 19 a2) (fun r16 => rs_lt (r16.toInt64) (fun x17 => rs_b1 (xf_X4_inLowestTerms S11 ((x14 * (10 - a1).toInt64) + (x17 * a1.toInt64)) 10 a3) (fun r19 => some (r19, S11))))))) else some ((-1), S)) else some ((-1), S)) else some ((-1), S))
set_option maxRecDepth 100000 in
theorem c_X4_mean (l : Launch) (G : rs_G) (hG : rs_ok G) (S : rs_St) (a1 : Int32) (a2 : Int32) (a3 : Int32)  (o : (Int64 × rs_St)) (h : xf_X4_mean S a1 a2 a3 = some o) : Met l yX4_mean (rs_wz yX4_mean cX4_mean 8 (some FieldType.long)) (rs_rm 7) (va_Pc [.ref (rs_ad G 76), .int a1, .int a2, .int a3] (rs_pre G S)) (va_Ql (fun r S2 => (r, S2) = o) (rs_post G) (rs_A G)) 0 0 (rs_A G) := by
  refine rs_met hG (by decide) (Nat.le_of_ble_eq_true rfl) ?_
  intro p e s m args below meth c C hr hlk
  rw [xf_X4_mean] at h
  refine rs_iload_n (i := 1) C dX4_mean_0 rfl rfl rfl ?_
  refine rs_iconst (v := 0) C dX4_mean_1 (by decide) rfl ?_
  refine rs_bipush (v := 10) C dX4_mean_2 (by decide) rfl ?_
  obtain ⟨r2, h1, h⟩ := rs_b1e h
  refine rs_callSi (r0 := r2) (S0 := S) C (c_X4_outside l G hG S a1 0 10 _ h1) ⟨wl_X4_45, ws_yX4_outside, wn_X4, wc_yX4_outside⟩ wy_yX4_outside (by decide) ⟨rfl, rfl⟩ rfl rfl (Nat.le_of_ble_eq_true rfl) dX4_mean_4 rfl ?_
  refine rs_if_ne (tgt := 29) C dX4_mean_7 (by decide) rfl (fun z3 => ?_) (fun z3 => ?_)
  · replace h := rs_if z3 h
    refine rs_ldc2 C dX4_mean_29 wk_X4_168 rfl ?_
    exact rs_lret C hr hlk h dX4_mean_32
  · replace h := rs_it z3 h
    refine rs_iload_n (i := 2) C dX4_mean_10 rfl rfl rfl ?_
    refine rs_iconst (v := 0) C dX4_mean_11 (by decide) rfl ?_
    refine rs_bipush (v := 8) C dX4_mean_12 (by decide) rfl ?_
    obtain ⟨r5, h4, h⟩ := rs_b1e h
    refine rs_callSi (r0 := r5) (S0 := S) C (c_X4_outside l G hG S a2 0 8 _ h4) ⟨wl_X4_45, ws_yX4_outside, wn_X4, wc_yX4_outside⟩ wy_yX4_outside (by decide) ⟨rfl, rfl⟩ rfl rfl (Nat.le_of_ble_eq_true rfl) dX4_mean_14 rfl ?_
    refine rs_if_ne (tgt := 29) C dX4_mean_17 (by decide) rfl (fun z6 => ?_) (fun z6 => ?_)
    · replace h := rs_if z6 h
      refine rs_ldc2 C dX4_mean_29 wk_X4_168 rfl ?_
      exact rs_lret C hr hlk h dX4_mean_32
    · replace h := rs_it z6 h
      refine rs_iload_n (i := 3) C dX4_mean_20 rfl rfl rfl ?_
      refine rs_iconst (v := 0) C dX4_mean_21 (by decide) rfl ?_
      refine rs_iconst (v := 1) C dX4_mean_22 (by decide) rfl ?_
      obtain ⟨r8, h7, h⟩ := rs_b1e h
      refine rs_callSi (r0 := r8) (S0 := S) C (c_X4_outside l G hG S a3 0 1 _ h7) ⟨wl_X4_45, ws_yX4_outside, wn_X4, wc_yX4_outside⟩ wy_yX4_outside (by decide) ⟨rfl, rfl⟩ rfl rfl (Nat.le_of_ble_eq_true rfl) dX4_mean_23 rfl ?_
      refine rs_if_eq (tgt := 33) C dX4_mean_26 (by decide) rfl (fun z9 => ?_) (fun z9 => ?_)
      · replace h := rs_it z9 h
        refine rs_aload_n (i := 0) C dX4_mean_33 rfl rfl rfl ?_
        obtain ⟨S11, h10, h⟩ := rs_b1e h
        refine rs_callVv (S0 := S11) C (rs_kd_lt kk_76 (by decide)) (rs_e4 kk_76) rfl (c_X4_draftSteadyLamps l G hG S _ h10) ⟨wl_X4_170, wi_yX4_draftSteadyLamps, wx_yX4_draftSteadyLamps, wn_X4, wc_yX4_draftSteadyLamps⟩ wy_yX4_draftSteadyLamps (by decide) ⟨rfl, rfl⟩ rfl rfl (Nat.le_of_ble_eq_true rfl) dX4_mean_34 rfl ?_
        refine rs_aload_n (i := 0) C dX4_mean_37 rfl rfl rfl ?_
        refine rg_X4_0 C kk_76 wl_X4_10 dX4_mean_38 rfl ?_
        refine rs_iload_n (i := 2) C dX4_mean_41 rfl rfl rfl ?_
        obtain ⟨r13, h12, h⟩ := rs_b1e h
        refine rs_callVi (r0 := r13) (S0 := S11) C (rs_kd_lt kk_0 (by decide)) (rs_e1 kk_0) rfl (c_X1_lightOfShots l G hG S11 0 a2 kk_0 _ h12) ⟨wl_X4_133, wi_yX1_lightOfShots, wx_yX1_lightOfShots, wn_X1, wc_yX1_lightOfShots⟩ wy_yX1_lightOfShots (by decide) ⟨rfl, rfl⟩ rfl rfl (Nat.le_of_ble_eq_true rfl) dX4_mean_42 rfl ?_
        refine rs_i2l C dX4_mean_45 rfl ?_
        refine rs_nml h (fun x14 h => ?_)
        refine rs_lstore C dX4_mean_46 (by decide) rfl ?_
        refine rs_aload_n (i := 0) C dX4_mean_48 rfl rfl rfl ?_
        refine rg_X4_1 C kk_76 wl_X4_16 dX4_mean_49 rfl ?_
        refine rs_iload_n (i := 2) C dX4_mean_52 rfl rfl rfl ?_
        obtain ⟨r16, h15, h⟩ := rs_b1e h
        refine rs_callVi (r0 := r16) (S0 := S11) C (rs_kd_lt kk_19 (by decide)) (rs_e1 kk_19) rfl (c_X1_lightOfShots l G hG S11 19 a2 kk_19 _ h15) ⟨wl_X4_133, wi_yX1_lightOfShots, wx_yX1_lightOfShots, wn_X1, wc_yX1_lightOfShots⟩ wy_yX1_lightOfShots (by decide) ⟨rfl, rfl⟩ rfl rfl (Nat.le_of_ble_eq_true rfl) dX4_mean_53 rfl ?_
        refine rs_i2l C dX4_mean_56 rfl ?_
        refine rs_nml h (fun x17 h => ?_)
        refine rs_lstore C dX4_mean_57 (by decide) rfl ?_
        refine rs_lload C dX4_mean_59 rfl rfl ?_
        refine rs_bipush (v := 10) C dX4_mean_61 (by decide) rfl ?_
        refine rs_iload_n (i := 1) C dX4_mean_63 rfl rfl rfl ?_
        refine rs_isub C dX4_mean_64 rfl ?_
        refine rs_i2l C dX4_mean_65 rfl ?_
        refine rs_lmul C dX4_mean_66 rfl ?_
        refine rs_lload C dX4_mean_67 rfl rfl ?_
        refine rs_iload_n (i := 1) C dX4_mean_69 rfl rfl rfl ?_
        refine rs_i2l C dX4_mean_70 rfl ?_
        refine rs_lmul C dX4_mean_71 rfl ?_
        refine rs_ladd C dX4_mean_72 rfl ?_
        refine rs_ldc2 C dX4_mean_73 wk_X4_173 rfl ?_
        refine rs_iload_n (i := 3) C dX4_mean_76 rfl rfl rfl ?_
        obtain ⟨r19, h18, h⟩ := rs_b1e h
        refine rs_callSl (r0 := r19) (S0 := S11) C (c_X4_inLowestTerms l G hG S11 ((x14 * (10 - a1).toInt64) + (x17 * a1.toInt64)) 10 a3 _ h18) ⟨wl_X4_175, ws_yX4_inLowestTerms, wn_X4, wc_yX4_inLowestTerms⟩ wy_yX4_inLowestTerms (by decide) ⟨rfl, rfl⟩ rfl rfl (Nat.le_of_ble_eq_true rfl) dX4_mean_77 rfl ?_
        exact rs_lret C hr hlk h dX4_mean_80
      · replace h := rs_if z9 h
        refine rs_ldc2 C dX4_mean_29 wk_X4_168 rfl ?_
        exact rs_lret C hr hlk h dX4_mean_32
def xf_X4_see (S : rs_St) (a1 : Int32) (a2 : Int32) (a3 : Int32) : Option (Int32 × rs_St) := rs_b1 (xf_X4_outside S a1 0 20) (fun r2 => if r2 = 0 then rs_b1 (xf_X4_outside S a2 0 7) (fun r5 => if r5 = 0 then rs_b1 (xf_X4_outside S a3 0 255) (fun r8 => if r8 = 0 then rs_b2 (xf_X1_addSeen S 0 a1 a2 a3) (fun r12 S11 => if r12 = 0 then some ((-3), S11) else some ((rs_gi S11 0 10), S11)) else some ((-1), S)) else some ((-1), S)) else some ((-1), S))
set_option maxRecDepth 100000 in
theorem c_X4_see (l : Launch) (G : rs_G) (hG : rs_ok G) (S : rs_St) (a1 : Int32) (a2 : Int32) (a3 : Int32)  (o : (Int32 × rs_St)) (h : xf_X4_see S a1 a2 a3 = some o) : Met l yX4_see (rs_wz yX4_see cX4_see 4 (some FieldType.int)) (rs_rm 3) (va_Pc [.ref (rs_ad G 76), .int a1, .int a2, .int a3] (rs_pre G S)) (va_Qi (fun r S2 => (r, S2) = o) (rs_post G) (rs_A G)) 0 0 (rs_A G) := by
  refine rs_met hG (by decide) (Nat.le_of_ble_eq_true rfl) ?_
  intro p e s m args below meth c C hr hlk
  rw [xf_X4_see] at h
  refine rs_iload_n (i := 1) C dX4_see_0 rfl rfl rfl ?_
  refine rs_iconst (v := 0) C dX4_see_1 (by decide) rfl ?_
  refine rs_bipush (v := 20) C dX4_see_2 (by decide) rfl ?_
  obtain ⟨r2, h1, h⟩ := rs_b1e h
  refine rs_callSi (r0 := r2) (S0 := S) C (c_X4_outside l G hG S a1 0 20 _ h1) ⟨wl_X4_45, ws_yX4_outside, wn_X4, wc_yX4_outside⟩ wy_yX4_outside (by decide) ⟨rfl, rfl⟩ rfl rfl (Nat.le_of_ble_eq_true rfl) dX4_see_4 rfl ?_
  refine rs_if_ne (tgt := 31) C dX4_see_7 (by decide) rfl (fun z3 => ?_) (fun z3 => ?_)
  · replace h := rs_if z3 h
    refine rs_iconst (v := (-1)) C dX4_see_31 (by decide) rfl ?_
    exact rs_iret C hr hlk h dX4_see_32
  · replace h := rs_it z3 h
    refine rs_iload_n (i := 2) C dX4_see_10 rfl rfl rfl ?_
    refine rs_iconst (v := 0) C dX4_see_11 (by decide) rfl ?_
    refine rs_bipush (v := 7) C dX4_see_12 (by decide) rfl ?_
    obtain ⟨r5, h4, h⟩ := rs_b1e h
    refine rs_callSi (r0 := r5) (S0 := S) C (c_X4_outside l G hG S a2 0 7 _ h4) ⟨wl_X4_45, ws_yX4_outside, wn_X4, wc_yX4_outside⟩ wy_yX4_outside (by decide) ⟨rfl, rfl⟩ rfl rfl (Nat.le_of_ble_eq_true rfl) dX4_see_14 rfl ?_
    refine rs_if_ne (tgt := 31) C dX4_see_17 (by decide) rfl (fun z6 => ?_) (fun z6 => ?_)
    · replace h := rs_if z6 h
      refine rs_iconst (v := (-1)) C dX4_see_31 (by decide) rfl ?_
      exact rs_iret C hr hlk h dX4_see_32
    · replace h := rs_it z6 h
      refine rs_iload_n (i := 3) C dX4_see_20 rfl rfl rfl ?_
      refine rs_iconst (v := 0) C dX4_see_21 (by decide) rfl ?_
      refine rs_sipush (v := 255) C dX4_see_22 (by decide) rfl ?_
      obtain ⟨r8, h7, h⟩ := rs_b1e h
      refine rs_callSi (r0 := r8) (S0 := S) C (c_X4_outside l G hG S a3 0 255 _ h7) ⟨wl_X4_45, ws_yX4_outside, wn_X4, wc_yX4_outside⟩ wy_yX4_outside (by decide) ⟨rfl, rfl⟩ rfl rfl (Nat.le_of_ble_eq_true rfl) dX4_see_25 rfl ?_
      refine rs_if_eq (tgt := 33) C dX4_see_28 (by decide) rfl (fun z9 => ?_) (fun z9 => ?_)
      · replace h := rs_it z9 h
        refine rs_aload_n (i := 0) C dX4_see_33 rfl rfl rfl ?_
        refine rg_X4_0 C kk_76 wl_X4_10 dX4_see_34 rfl ?_
        refine rs_iload_n (i := 1) C dX4_see_37 rfl rfl rfl ?_
        refine rs_iload_n (i := 2) C dX4_see_38 rfl rfl rfl ?_
        refine rs_iload_n (i := 3) C dX4_see_39 rfl rfl rfl ?_
        obtain ⟨r12, S11, h10, h⟩ := rs_b2e h
        refine rs_callVi (r0 := r12) (S0 := S11) C (rs_kd_lt kk_0 (by decide)) (rs_e1 kk_0) rfl (c_X1_addSeen l G hG S 0 a1 a2 a3 kk_0 _ h10) ⟨wl_X4_179, wi_yX1_addSeen, wx_yX1_addSeen, wn_X1, wc_yX1_addSeen⟩ wy_yX1_addSeen (by decide) ⟨rfl, rfl⟩ rfl rfl (Nat.le_of_ble_eq_true rfl) dX4_see_40 rfl ?_
        refine rs_if_eq (tgt := 56) C dX4_see_43 (by decide) rfl (fun z13 => ?_) (fun z13 => ?_)
        · replace h := rs_it z13 h
          refine rs_bipush (v := (-3)) C dX4_see_56 (by decide) rfl ?_
          exact rs_iret C hr hlk h dX4_see_58
        · replace h := rs_if z13 h
          refine rs_aload_n (i := 0) C dX4_see_46 rfl rfl rfl ?_
          refine rg_X4_0 C kk_76 wl_X4_10 dX4_see_47 rfl ?_
          refine rg_X1_10 C kk_0 wl_X4_182 dX4_see_50 rfl ?_
          refine rs_goto (tgt := 58) C dX4_see_53 (by decide) ?_
          exact rs_iret C hr hlk h dX4_see_58
      · replace h := rs_if z9 h
        refine rs_iconst (v := (-1)) C dX4_see_31 (by decide) rfl ?_
        exact rs_iret C hr hlk h dX4_see_32
def xf_X4_forget (S : rs_St) (a1 : Int32) : Option (Int32 × rs_St) := rs_b1 (xf_X4_outside S a1 0 (rs_gi S 0 10)) (fun r2 => if r2 = 0 then rs_lt (rs_gi S 0 10) (fun x4 => rs_lt (rs_si S 0 10 a1) (fun S5 => some (x4, S5))) else some ((-1), S))
set_option maxRecDepth 100000 in
theorem c_X4_forget (l : Launch) (G : rs_G) (hG : rs_ok G) (S : rs_St) (a1 : Int32)  (o : (Int32 × rs_St)) (h : xf_X4_forget S a1 = some o) : Met l yX4_forget (rs_wz yX4_forget cX4_forget 3 (some FieldType.int)) (rs_rm 3) (va_Pc [.ref (rs_ad G 76), .int a1] (rs_pre G S)) (va_Qi (fun r S2 => (r, S2) = o) (rs_post G) (rs_A G)) 0 0 (rs_A G) := by
  refine rs_met hG (by decide) (Nat.le_of_ble_eq_true rfl) ?_
  intro p e s m args below meth c C hr hlk
  rw [xf_X4_forget] at h
  refine rs_iload_n (i := 1) C dX4_forget_0 rfl rfl rfl ?_
  refine rs_iconst (v := 0) C dX4_forget_1 (by decide) rfl ?_
  refine rs_aload_n (i := 0) C dX4_forget_2 rfl rfl rfl ?_
  refine rg_X4_0 C kk_76 wl_X4_10 dX4_forget_3 rfl ?_
  refine rg_X1_10 C kk_0 wl_X4_182 dX4_forget_6 rfl ?_
  obtain ⟨r2, h1, h⟩ := rs_b1e h
  refine rs_callSi (r0 := r2) (S0 := S) C (c_X4_outside l G hG S a1 0 (rs_gi S 0 10) _ h1) ⟨wl_X4_45, ws_yX4_outside, wn_X4, wc_yX4_outside⟩ wy_yX4_outside (by decide) ⟨rfl, rfl⟩ rfl rfl (Nat.le_of_ble_eq_true rfl) dX4_forget_9 rfl ?_
  refine rs_if_eq (tgt := 17) C dX4_forget_12 (by decide) rfl (fun z3 => ?_) (fun z3 => ?_)
  · replace h := rs_it z3 h
    refine rs_aload_n (i := 0) C dX4_forget_17 rfl rfl rfl ?_
    refine rg_X4_0 C kk_76 wl_X4_10 dX4_forget_18 rfl ?_
    refine rg_X1_10 C kk_0 wl_X4_182 dX4_forget_21 rfl ?_
    refine rs_nmi h (fun x4 h => ?_)
    refine rs_istore_n (i := 2) C dX4_forget_24 rfl (by decide) rfl ?_
    refine rs_aload_n (i := 0) C dX4_forget_25 rfl rfl rfl ?_
    refine rg_X4_0 C kk_76 wl_X4_10 dX4_forget_26 rfl ?_
    refine rs_iload_n (i := 1) C dX4_forget_29 rfl rfl rfl ?_
    refine rp_X1_10 C kk_0 wl_X4_182 dX4_forget_30 rfl h (fun S5 h => ?_)
    refine rs_iload_n (i := 2) C dX4_forget_33 rfl rfl rfl ?_
    exact rs_iret C hr hlk h dX4_forget_34
  · replace h := rs_if z3 h
    refine rs_iconst (v := (-1)) C dX4_forget_15 (by decide) rfl ?_
    exact rs_iret C hr hlk h dX4_forget_16
def xf_X4_fitting_l33 (a1 : Int32) (a2 : Int32) (K33 : rs_St → Int32 → Int32 → Option (Int32 × rs_St)) : Nat → rs_St → Int32 → Int32 → Option (Int32 × rs_St)
  | 0, _, _, _ => none
  | n33 + 1, S9, x10, x11 => if a2 < 0 ∨ 4 ≤ a2.toNatClampNeg then none else if (rs_sv 1 a2.toNatClampNeg) < x11 then K33 S9 x10 x11 else if a1 < 0 ∨ 4 ≤ a1.toNatClampNeg then none else rs_b1 (xf_X0_become S9 ((19 + 1) + 6 + 3 * a1.toNatClampNeg) a2 x11) (fun S16 => rs_b1 (xf_X1_isAsSeen S16 19) (fun r18 => rs_jn (fun (x19 : Int32) => rs_lt (x11 + 1) (fun x21 => xf_X4_fitting_l33 a1 a2 K33 n33 S16 x19 x21)) (fun J20 => if r18 = 0 then J20 x10 else rs_lt (x10 ||| (1 <<< (x11 &&& 31))) (fun x23 => J20 x23))))
def xf_X4_fitting (S : rs_St) (a1 : Int32) (a2 : Int32) : Option (Int32 × rs_St) := rs_b1 (xf_X1_lampAt S 0 a1) (fun r2 => rs_om r2 (some ((-1), S)) (fun q3 => if rs_kd q3 = 0 then rs_b1 (xf_X1_copyFrom S 19 0) (fun S6 => if a2 < 0 ∨ 4 ≤ a2.toNatClampNeg then none else rs_lt (rs_sv 0 a2.toNatClampNeg) (fun x8 => xf_X4_fitting_l33 a1 a2 (fun (S24 : rs_St) (x25 : Int32) (x26 : Int32) => some (x25, S24)) rs_fu S6 0 x8)) else none))
set_option maxRecDepth 100000 in
theorem c_X4_fitting (l : Launch) (G : rs_G) (hG : rs_ok G) (S : rs_St) (a1 : Int32) (a2 : Int32)  (o : (Int32 × rs_St)) (h : xf_X4_fitting S a1 a2 = some o) : Met l yX4_fitting (rs_wz yX4_fitting cX4_fitting 5 (some FieldType.int)) (rs_rm 6) (va_Pc [.ref (rs_ad G 76), .int a1, .int a2] (rs_pre G S)) (va_Qi (fun r S2 => (r, S2) = o) (rs_post G) (rs_A G)) 0 0 (rs_A G) := by
  refine rs_met hG (by decide) (Nat.le_of_ble_eq_true rfl) ?_
  intro p e s m args below meth c C hr hlk
  rw [xf_X4_fitting] at h
  refine rs_aload_n (i := 0) C dX4_fitting_0 rfl rfl rfl ?_
  refine rg_X4_0 C kk_76 wl_X4_10 dX4_fitting_1 rfl ?_
  refine rs_iload_n (i := 1) C dX4_fitting_4 rfl rfl rfl ?_
  obtain ⟨r2, h1, h⟩ := rs_b1e h
  refine rs_callVq (r0 := r2) (mp := rs_ad G) (S0 := S) C (rs_kd_lt kk_0 (by decide)) (rs_e1 kk_0) rfl (c_X1_lampAt l G hG S 0 a1 kk_0 _ h1) ⟨wl_X4_84, wi_yX1_lampAt, wx_yX1_lampAt, wn_X1, wc_yX1_lampAt⟩ wy_yX1_lampAt (by decide) ⟨rfl, rfl⟩ rfl rfl (Nat.le_of_ble_eq_true rfl) dX4_fitting_5 rfl ?_
  cases r2 with
  | none =>
    replace h := rs_omn h
    refine rs_ifnonnull_n C dX4_fitting_8 rfl ?_
    refine rs_iconst (v := (-1)) C dX4_fitting_11 (by decide) rfl ?_
    exact rs_iret C hr hlk h dX4_fitting_12
  | some q3 =>
    replace h := rs_oms h
    obtain ⟨z4, h⟩ := rs_ckp h
    refine rs_ifnonnull_r (tgt := 13) C dX4_fitting_8 (by decide) ?_
    refine rs_aload_n (i := 0) C dX4_fitting_13 rfl rfl rfl ?_
    refine rg_X4_1 C kk_76 wl_X4_16 dX4_fitting_14 rfl ?_
    refine rs_aload_n (i := 0) C dX4_fitting_17 rfl rfl rfl ?_
    refine rg_X4_0 C kk_76 wl_X4_10 dX4_fitting_18 rfl ?_
    obtain ⟨S6, h5, h⟩ := rs_b1e h
    refine rs_callVv (S0 := S6) C (rs_kd_lt kk_19 (by decide)) (rs_e1 kk_19) rfl (c_X1_copyFrom l G hG S 19 0 kk_19 kk_0 _ h5) ⟨wl_X4_64, wi_yX1_copyFrom, wx_yX1_copyFrom, wn_X1, wc_yX1_copyFrom⟩ wy_yX1_copyFrom (by decide) ⟨rfl, rfl⟩ rfl rfl (Nat.le_of_ble_eq_true rfl) dX4_fitting_21 rfl ?_
    refine rs_iconst (v := 0) C dX4_fitting_24 (by decide) rfl ?_
    refine rs_istore_n (i := 3) C dX4_fitting_25 rfl (by decide) rfl ?_
    refine rs_gets C 0 (by decide) wl_X4_237 dX4_fitting_26 rfl ?_
    refine rs_iload_n (i := 2) C dX4_fitting_29 rfl rfl rfl ?_
    obtain ⟨z7, h⟩ := rs_ck h
    refine rs_sald C 0 (by decide) z7 dX4_fitting_30 rfl ?_
    refine rs_nmi h (fun x8 h => ?_)
    refine rs_istore C dX4_fitting_31 (by decide) rfl ?_
    refine rs_kw (F := fun K => xf_X4_fitting_l33 a1 a2 K rs_fu S6 0 x8) (P := fun K => ∀ (S24 : rs_St) (x25 : Int32) (x26 : Int32), K S24 x25 x26 = some o → rs_Xi G 5 p l e (rs_rm 6) s m args below meth c o S24 81 [(0, .ref (rs_ad G 76)), (1, .int a1), (2, .int a2), (3, .int x25), (4, .int x26)] []) h (fun S24 x25 x26 h => ?_) (fun K33 hK33 h => ?_)
    · refine rs_iload_n (i := 3) C dX4_fitting_81 rfl rfl rfl ?_
      exact rs_iret C hr hlk h dX4_fitting_82
    · have L33 : ∀ (n33 : Nat) (S9 : rs_St) (x10 : Int32) (x11 : Int32), xf_X4_fitting_l33 a1 a2 K33 n33 S9 x10 x11 = some o → rs_Xi G 5 p l e (rs_rm 6) s m args below meth c o S9 33 [(0, .ref (rs_ad G 76)), (1, .int a1), (2, .int a2), (3, .int x10), (4, .int x11)] [] := by
        intro n33
        induction n33 with
        | zero => intro S9 x10 x11 h; exact (rs_no h).elim
        | succ n33 ih33 =>
          intro S9 x10 x11 h
          rw [xf_X4_fitting_l33] at h
          refine rs_iload C dX4_fitting_33 rfl rfl ?_
          refine rs_gets C 1 (by decide) wl_X4_240 dX4_fitting_35 rfl ?_
          refine rs_iload_n (i := 2) C dX4_fitting_38 rfl rfl rfl ?_
          obtain ⟨z12, h⟩ := rs_ck h
          refine rs_sald C 1 (by decide) z12 dX4_fitting_39 rfl ?_
          refine rs_icmp_gt (tgt := 81) C dX4_fitting_40 (by decide) rfl (fun z13 => ?_) (fun z13 => ?_)
          · replace h := rs_it z13 h
            exact rs_subk (hK33 _ _ _ h) (rs_ac rfl (rs_ac rfl (rs_ac rfl (rs_ac rfl (rs_ac rfl rs_a0)))))
          · replace h := rs_if z13 h
            refine rs_aload_n (i := 0) C dX4_fitting_43 rfl rfl rfl ?_
            refine rg_X4_1 C kk_76 wl_X4_16 dX4_fitting_44 rfl ?_
            refine rg_X1_0 C kk_19 wl_X4_158 dX4_fitting_47 rfl ?_
            refine rs_iload_n (i := 1) C dX4_fitting_50 rfl rfl rfl ?_
            obtain ⟨z14, h⟩ := rs_ck h
            refine rs_aald9 C (rs_k1a kk_19) z14 dX4_fitting_51 rfl ?_
            refine rs_iload_n (i := 2) C dX4_fitting_52 rfl rfl rfl ?_
            refine rs_iload C dX4_fitting_53 rfl rfl ?_
            obtain ⟨S16, h15, h⟩ := rs_b1e h
            refine rs_callVv (S0 := S16) C (rs_kd_lt (rs_k9i (rs_k1a kk_19) z14) (by decide)) (rs_e0 (rs_k9i (rs_k1a kk_19) z14)) rfl (c_X0_become l G hG S9 ((19 + 1) + 6 + 3 * a1.toNatClampNeg) a2 x11 (rs_k9i (rs_k1a kk_19) z14) _ h15) ⟨wl_X4_107, wi_yX0_become, wx_yX0_become, wn_X0, wc_yX0_become⟩ wy_yX0_become (by decide) ⟨rfl, rfl⟩ rfl rfl (Nat.le_of_ble_eq_true rfl) dX4_fitting_55 rfl ?_
            refine rs_aload_n (i := 0) C dX4_fitting_58 rfl rfl rfl ?_
            refine rg_X4_1 C kk_76 wl_X4_16 dX4_fitting_59 rfl ?_
            obtain ⟨r18, h17, h⟩ := rs_b1e h
            refine rs_callVi (r0 := r18) (S0 := S16) C (rs_kd_lt kk_19 (by decide)) (rs_e1 kk_19) rfl (c_X1_isAsSeen l G hG S16 19 kk_19 _ h17) ⟨wl_X4_243, wi_yX1_isAsSeen, wx_yX1_isAsSeen, wn_X1, wc_yX1_isAsSeen⟩ wy_yX1_isAsSeen (by decide) ⟨rfl, rfl⟩ rfl rfl (Nat.le_of_ble_eq_true rfl) dX4_fitting_62 rfl ?_
            refine rs_jw (P := fun J => ∀ (x19 : Int32), J x19 = some o → rs_Xi G 5 p l e (rs_rm 6) s m args below meth c o S16 75 [(0, .ref (rs_ad G 76)), (1, .int a1), (2, .int a2), (3, .int x19), (4, .int x11)] []) h (fun x19 h => ?_) (fun J20 KJ20 h => ?_)
            · refine rs_iincn (v := 1) C dX4_fitting_75 rfl (by decide) (by decide) rfl h (fun x21 h => ?_)
              refine rs_goto (tgt := 33) C dX4_fitting_78 (by decide) ?_
              exact rs_subk (ih33 _ _ _ h) (rs_ac rfl (rs_ac rfl (rs_ac rfl (rs_ac rfl (rs_ac rfl rs_a0)))))
            · refine rs_if_eq (tgt := 75) C dX4_fitting_65 (by decide) rfl (fun z22 => ?_) (fun z22 => ?_)
              · replace h := rs_it z22 h
                exact rs_subk (KJ20 _ h) (rs_ac rfl (rs_ac rfl (rs_ac rfl (rs_ac rfl (rs_ac rfl rs_a0)))))
              · replace h := rs_if z22 h
                refine rs_iload_n (i := 3) C dX4_fitting_68 rfl rfl rfl ?_
                refine rs_iconst (v := 1) C dX4_fitting_69 (by decide) rfl ?_
                refine rs_iload C dX4_fitting_70 rfl rfl ?_
                refine rs_ishl C dX4_fitting_72 rfl ?_
                refine rs_ior C dX4_fitting_73 rfl ?_
                refine rs_nmi h (fun x23 h => ?_)
                refine rs_istore_n (i := 3) C dX4_fitting_74 rfl (by decide) rfl ?_
                exact rs_subk (KJ20 _ h) (rs_ac rfl (rs_ac rfl (rs_ac rfl (rs_ac rfl (rs_ac rfl rs_a0)))))
      exact rs_subk (L33 rs_fu _ _ _ h) (rs_ac rfl (rs_ac rfl (rs_ac rfl (rs_ac rfl (rs_ac rfl rs_a0)))))
def xf_X4_kinds (S : rs_St) (a1 : Int32) : Option (Int32 × rs_St) := rs_b2 (xf_X4_fitting S a1 0) (fun r3 S2 => some (r3, S2))
set_option maxRecDepth 100000 in
theorem c_X4_kinds (l : Launch) (G : rs_G) (hG : rs_ok G) (S : rs_St) (a1 : Int32)  (o : (Int32 × rs_St)) (h : xf_X4_kinds S a1 = some o) : Met l yX4_kinds (rs_wz yX4_kinds cX4_kinds 2 (some FieldType.int)) (rs_rm 7) (va_Pc [.ref (rs_ad G 76), .int a1] (rs_pre G S)) (va_Qi (fun r S2 => (r, S2) = o) (rs_post G) (rs_A G)) 0 0 (rs_A G) := by
  refine rs_met hG (by decide) (Nat.le_of_ble_eq_true rfl) ?_
  intro p e s m args below meth c C hr hlk
  rw [xf_X4_kinds] at h
  refine rs_aload_n (i := 0) C dX4_kinds_0 rfl rfl rfl ?_
  refine rs_iload_n (i := 1) C dX4_kinds_1 rfl rfl rfl ?_
  refine rs_iconst (v := 0) C dX4_kinds_2 (by decide) rfl ?_
  obtain ⟨r3, S2, h1, h⟩ := rs_b2e h
  refine rs_callVi (r0 := r3) (S0 := S2) C (rs_kd_lt kk_76 (by decide)) (rs_e4 kk_76) rfl (c_X4_fitting l G hG S a1 0 _ h1) ⟨wl_X4_185, wi_yX4_fitting, wx_yX4_fitting, wn_X4, wc_yX4_fitting⟩ wy_yX4_fitting (by decide) ⟨rfl, rfl⟩ rfl rfl (Nat.le_of_ble_eq_true rfl) dX4_kinds_3 rfl ?_
  exact rs_iret C hr hlk h dX4_kinds_6
def xf_X4_phases (S : rs_St) (a1 : Int32) : Option (Int32 × rs_St) := rs_b2 (xf_X4_fitting S a1 3) (fun r3 S2 => some (r3, S2))
set_option maxRecDepth 100000 in
theorem c_X4_phases (l : Launch) (G : rs_G) (hG : rs_ok G) (S : rs_St) (a1 : Int32)  (o : (Int32 × rs_St)) (h : xf_X4_phases S a1 = some o) : Met l yX4_phases (rs_wz yX4_phases cX4_phases 2 (some FieldType.int)) (rs_rm 7) (va_Pc [.ref (rs_ad G 76), .int a1] (rs_pre G S)) (va_Qi (fun r S2 => (r, S2) = o) (rs_post G) (rs_A G)) 0 0 (rs_A G) := by
  refine rs_met hG (by decide) (Nat.le_of_ble_eq_true rfl) ?_
  intro p e s m args below meth c C hr hlk
  rw [xf_X4_phases] at h
  refine rs_aload_n (i := 0) C dX4_phases_0 rfl rfl rfl ?_
  refine rs_iload_n (i := 1) C dX4_phases_1 rfl rfl rfl ?_
  refine rs_iconst (v := 3) C dX4_phases_2 (by decide) rfl ?_
  obtain ⟨r3, S2, h1, h⟩ := rs_b2e h
  refine rs_callVi (r0 := r3) (S0 := S2) C (rs_kd_lt kk_76 (by decide)) (rs_e4 kk_76) rfl (c_X4_fitting l G hG S a1 3 _ h1) ⟨wl_X4_185, wi_yX4_fitting, wx_yX4_fitting, wn_X4, wc_yX4_fitting⟩ wy_yX4_fitting (by decide) ⟨rfl, rfl⟩ rfl rfl (Nat.le_of_ble_eq_true rfl) dX4_phases_3 rfl ?_
  exact rs_iret C hr hlk h dX4_phases_6
def xf_X4_mostAlike_l66 (a2 : Int32) (x3 : Int32) (S15 : rs_St) (K66 : Int32 → Int32 → Option (Int32 × rs_St)) : Nat → Int32 → Int32 → Option (Int32 × rs_St)
  | 0, _, _ => none
  | n66 + 1, x17, x18 => if x3 < x18 then K66 x17 x18 else rs_jn (fun (x20 : Int32) => rs_lt (x18 + 1) (fun x22 => xf_X4_mostAlike_l66 a2 x3 S15 K66 n66 x20 x22)) (fun J21 => if ((a2 >>> (x18 &&& 31)) &&& 1) = 1 then if x18 < 0 ∨ 12 ≤ x18.toNatClampNeg then none else if x3 < 0 ∨ 12 ≤ x3.toNatClampNeg then none else if (rs_gi S15 82 x18.toNatClampNeg) = (rs_gi S15 82 x3.toNatClampNeg) then rs_lt (x17 + 1) (fun x27 => J21 x27) else J21 x17 else J21 x17)
def xf_X4_mostAlike_l6 (a1 : Int32) (a2 : Int32) (a3 : Int32) (a4 : Int32) (K6 : rs_St → Int32 → Int32 → Option (Int32 × rs_St)) : Nat → rs_St → Int32 → Int32 → Option (Int32 × rs_St)
  | 0, _, _, _ => none
  | n6 + 1, S1, x2, x3 => if 12 ≤ x3 then K6 S1 x2 x3 else rs_jn (fun (S5 : rs_St) (x6 : Int32) => rs_lt (x3 + 1) (fun x8 => xf_X4_mostAlike_l6 a1 a2 a3 a4 K6 n6 S5 x6 x8)) (fun J7 => if ((a2 >>> (x3 &&& 31)) &&& 1) = 0 then J7 S1 x2 else if a1 < 0 ∨ 4 ≤ a1.toNatClampNeg then none else rs_b1 (xf_X0_become S1 ((19 + 1) + 6 + 3 * a1.toNatClampNeg) 3 x3) (fun S12 => rs_b1 (xf_X1_bright S12 19 a3 a4) (fun r14 => if x3 < 0 ∨ 12 ≤ x3.toNatClampNeg then none else rs_lt (rs_si S12 82 x3.toNatClampNeg r14) (fun S15 => xf_X4_mostAlike_l66 a2 x3 S15 (fun (x28 : Int32) (x29 : Int32) => rs_lt (if x2 < x28 then x28 else x2) (fun x30 => J7 S15 x30)) rs_fu 0 0))))
def xf_X4_mostAlike (S : rs_St) (a1 : Int32) (a2 : Int32) (a3 : Int32) (a4 : Int32) : Option (Int32 × rs_St) := xf_X4_mostAlike_l6 a1 a2 a3 a4 (fun (S31 : rs_St) (x32 : Int32) (x33 : Int32) => some (x32, S31)) rs_fu S 0 0
set_option maxRecDepth 100000 in
theorem c_X4_mostAlike (l : Launch) (G : rs_G) (hG : rs_ok G) (S : rs_St) (a1 : Int32) (a2 : Int32) (a3 : Int32) (a4 : Int32)  (o : (Int32 × rs_St)) (h : xf_X4_mostAlike S a1 a2 a3 a4 = some o) : Met l yX4_mostAlike (rs_wz yX4_mostAlike cX4_mostAlike 9 (some FieldType.int)) (rs_rm 5) (va_Pc [.ref (rs_ad G 76), .int a1, .int a2, .int a3, .int a4] (rs_pre G S)) (va_Qi (fun r S2 => (r, S2) = o) (rs_post G) (rs_A G)) 0 0 (rs_A G) := by
  refine rs_met hG (by decide) (Nat.le_of_ble_eq_true rfl) ?_
  intro p e s m args below meth c C hr hlk
  rw [xf_X4_mostAlike] at h
  refine rs_iconst (v := 0) C dX4_mostAlike_0 (by decide) rfl ?_
  refine rs_istore C dX4_mostAlike_1 (by decide) rfl ?_
  refine rs_iconst (v := 0) C dX4_mostAlike_3 (by decide) rfl ?_
  refine rs_istore C dX4_mostAlike_4 (by decide) rfl ?_
  refine rs_kw (F := fun K => xf_X4_mostAlike_l6 a1 a2 a3 a4 K rs_fu S 0 0) (P := fun K => ∀ (S31 : rs_St) (x32 : Int32) (x33 : Int32), K S31 x32 x33 = some o → rs_Xi G 9 p l e (rs_rm 5) s m args below meth c o S31 124 [(0, .ref (rs_ad G 76)), (1, .int a1), (2, .int a2), (3, .int a3), (4, .int a4), (5, .int x32), (6, .int x33)] []) h (fun S31 x32 x33 h => ?_) (fun K6 hK6 h => ?_)
  · refine rs_iload C dX4_mostAlike_124 rfl rfl ?_
    exact rs_iret C hr hlk h dX4_mostAlike_126
  · have L6 : ∀ (n6 : Nat) (S1 : rs_St) (x2 : Int32) (x3 : Int32), xf_X4_mostAlike_l6 a1 a2 a3 a4 K6 n6 S1 x2 x3 = some o → rs_Xi G 9 p l e (rs_rm 5) s m args below meth c o S1 6 [(0, .ref (rs_ad G 76)), (1, .int a1), (2, .int a2), (3, .int a3), (4, .int a4), (5, .int x2), (6, .int x3)] [] := by
      intro n6
      induction n6 with
      | zero => intro S1 x2 x3 h; exact (rs_no h).elim
      | succ n6 ih6 =>
        intro S1 x2 x3 h
        rw [xf_X4_mostAlike_l6] at h
        refine rs_iload C dX4_mostAlike_6 rfl rfl ?_
        refine rs_aload_n (i := 0) C dX4_mostAlike_8 rfl rfl rfl ?_
        refine rg_X4_6 C kk_76 wl_X4_40 dX4_mostAlike_9 rfl ?_
        refine rs_alenc (v := 12) C kk_82 ll_82 (by decide) dX4_mostAlike_12 rfl ?_
        refine rs_icmp_ge (tgt := 124) C dX4_mostAlike_13 (by decide) rfl (fun z4 => ?_) (fun z4 => ?_)
        · replace h := rs_it z4 h
          exact rs_subk (hK6 _ _ _ h) (rs_ac rfl (rs_ac rfl (rs_ac rfl (rs_ac rfl (rs_ac rfl (rs_ac rfl (rs_ac rfl rs_a0)))))))
        · replace h := rs_if z4 h
          refine rs_iload_n (i := 2) C dX4_mostAlike_16 rfl rfl rfl ?_
          refine rs_iload C dX4_mostAlike_17 rfl rfl ?_
          refine rs_ishr C dX4_mostAlike_19 rfl ?_
          refine rs_iconst (v := 1) C dX4_mostAlike_20 (by decide) rfl ?_
          refine rs_iand C dX4_mostAlike_21 rfl ?_
          refine rs_jw (P := fun J => ∀ (S5 : rs_St) (x6 : Int32), J S5 x6 = some o → rs_Xi G 9 p l e (rs_rm 5) s m args below meth c o S5 118 [(0, .ref (rs_ad G 76)), (1, .int a1), (2, .int a2), (3, .int a3), (4, .int a4), (5, .int x6), (6, .int x3)] []) h (fun S5 x6 h => ?_) (fun J7 KJ7 h => ?_)
          · refine rs_iincn (v := 1) C dX4_mostAlike_118 rfl (by decide) (by decide) rfl h (fun x8 h => ?_)
            refine rs_goto (tgt := 6) C dX4_mostAlike_121 (by decide) ?_
            exact rs_subk (ih6 _ _ _ h) (rs_ac rfl (rs_ac rfl (rs_ac rfl (rs_ac rfl (rs_ac rfl (rs_ac rfl (rs_ac rfl rs_a0)))))))
          · refine rs_if_ne (tgt := 28) C dX4_mostAlike_22 (by decide) rfl (fun z9 => ?_) (fun z9 => ?_)
            · replace h := rs_if z9 h
              refine rs_aload_n (i := 0) C dX4_mostAlike_28 rfl rfl rfl ?_
              refine rg_X4_1 C kk_76 wl_X4_16 dX4_mostAlike_29 rfl ?_
              refine rg_X1_0 C kk_19 wl_X4_158 dX4_mostAlike_32 rfl ?_
              refine rs_iload_n (i := 1) C dX4_mostAlike_35 rfl rfl rfl ?_
              obtain ⟨z10, h⟩ := rs_ck h
              refine rs_aald9 C (rs_k1a kk_19) z10 dX4_mostAlike_36 rfl ?_
              refine rs_iconst (v := 3) C dX4_mostAlike_37 (by decide) rfl ?_
              refine rs_iload C dX4_mostAlike_38 rfl rfl ?_
              obtain ⟨S12, h11, h⟩ := rs_b1e h
              refine rs_callVv (S0 := S12) C (rs_kd_lt (rs_k9i (rs_k1a kk_19) z10) (by decide)) (rs_e0 (rs_k9i (rs_k1a kk_19) z10)) rfl (c_X0_become l G hG S1 ((19 + 1) + 6 + 3 * a1.toNatClampNeg) 3 x3 (rs_k9i (rs_k1a kk_19) z10) _ h11) ⟨wl_X4_107, wi_yX0_become, wx_yX0_become, wn_X0, wc_yX0_become⟩ wy_yX0_become (by decide) ⟨rfl, rfl⟩ rfl rfl (Nat.le_of_ble_eq_true rfl) dX4_mostAlike_40 rfl ?_
              refine rs_aload_n (i := 0) C dX4_mostAlike_43 rfl rfl rfl ?_
              refine rg_X4_6 C kk_76 wl_X4_40 dX4_mostAlike_44 rfl ?_
              refine rs_iload C dX4_mostAlike_47 rfl rfl ?_
              refine rs_aload_n (i := 0) C dX4_mostAlike_49 rfl rfl rfl ?_
              refine rg_X4_1 C kk_76 wl_X4_16 dX4_mostAlike_50 rfl ?_
              refine rs_iload_n (i := 3) C dX4_mostAlike_53 rfl rfl rfl ?_
              refine rs_iload C dX4_mostAlike_54 rfl rfl ?_
              obtain ⟨r14, h13, h⟩ := rs_b1e h
              refine rs_callVi (r0 := r14) (S0 := S12) C (rs_kd_lt kk_19 (by decide)) (rs_e1 kk_19) rfl (c_X1_bright l G hG S12 19 a3 a4 kk_19 _ h13) ⟨wl_X4_139, wi_yX1_bright, wx_yX1_bright, wn_X1, wc_yX1_bright⟩ wy_yX1_bright (by decide) ⟨rfl, rfl⟩ rfl rfl (Nat.le_of_ble_eq_true rfl) dX4_mostAlike_56 rfl ?_
              obtain ⟨z16, h⟩ := rs_ck h
              refine rs_iastn C kk_82 ll_82 z16 dX4_mostAlike_59 rfl h (fun S15 h => ?_)
              refine rs_iconst (v := 0) C dX4_mostAlike_60 (by decide) rfl ?_
              refine rs_istore C dX4_mostAlike_61 (by decide) rfl ?_
              refine rs_iconst (v := 0) C dX4_mostAlike_63 (by decide) rfl ?_
              refine rs_istore C dX4_mostAlike_64 (by decide) rfl ?_
              refine rs_kw (F := fun K => xf_X4_mostAlike_l66 a2 x3 S15 K rs_fu 0 0) (P := fun K => ∀ (x28 : Int32) (x29 : Int32), K x28 x29 = some o → rs_Xi G 9 p l e (rs_rm 5) s m args below meth c o S15 109 [(0, .ref (rs_ad G 76)), (1, .int a1), (2, .int a2), (3, .int a3), (4, .int a4), (5, .int x2), (6, .int x3), (7, .int x28), (8, .int x29)] []) h (fun x28 x29 h => ?_) (fun K66 hK66 h => ?_)
              · refine rs_iload C dX4_mostAlike_109 rfl rfl ?_
                refine rs_iload C dX4_mostAlike_111 rfl rfl ?_
                refine rs_mmaxn C wl_X4_197 (by decide) (Nat.le_of_ble_eq_true rfl) dX4_mostAlike_113 rfl ?_
                refine rs_nmi h (fun x30 h => ?_)
                refine rs_istore C dX4_mostAlike_116 (by decide) rfl ?_
                exact rs_subk (KJ7 _ _ h) (rs_ac rfl (rs_ac rfl (rs_ac rfl (rs_ac rfl (rs_ac rfl (rs_ac rfl (rs_ac rfl rs_a0)))))))
              · have L66 : ∀ (n66 : Nat) (x17 : Int32) (x18 : Int32), xf_X4_mostAlike_l66 a2 x3 S15 K66 n66 x17 x18 = some o → rs_Xi G 9 p l e (rs_rm 5) s m args below meth c o S15 66 [(0, .ref (rs_ad G 76)), (1, .int a1), (2, .int a2), (3, .int a3), (4, .int a4), (5, .int x2), (6, .int x3), (7, .int x17), (8, .int x18)] [] := by
                  intro n66
                  induction n66 with
                  | zero => intro x17 x18 h; exact (rs_no h).elim
                  | succ n66 ih66 =>
                    intro x17 x18 h
                    rw [xf_X4_mostAlike_l66] at h
                    refine rs_iload C dX4_mostAlike_66 rfl rfl ?_
                    refine rs_iload C dX4_mostAlike_68 rfl rfl ?_
                    refine rs_icmp_gt (tgt := 109) C dX4_mostAlike_70 (by decide) rfl (fun z19 => ?_) (fun z19 => ?_)
                    · replace h := rs_it z19 h
                      exact rs_subk (hK66 _ _ h) (rs_ac rfl (rs_ac rfl (rs_ac rfl (rs_ac rfl (rs_ac rfl (rs_ac rfl (rs_ac rfl (rs_ac rfl (rs_ac rfl rs_a0)))))))))
                    · replace h := rs_if z19 h
                      refine rs_iload_n (i := 2) C dX4_mostAlike_73 rfl rfl rfl ?_
                      refine rs_iload C dX4_mostAlike_74 rfl rfl ?_
                      refine rs_ishr C dX4_mostAlike_76 rfl ?_
                      refine rs_iconst (v := 1) C dX4_mostAlike_77 (by decide) rfl ?_
                      refine rs_iand C dX4_mostAlike_78 rfl ?_
                      refine rs_iconst (v := 1) C dX4_mostAlike_79 (by decide) rfl ?_
                      refine rs_jw (P := fun J => ∀ (x20 : Int32), J x20 = some o → rs_Xi G 9 p l e (rs_rm 5) s m args below meth c o S15 103 [(0, .ref (rs_ad G 76)), (1, .int a1), (2, .int a2), (3, .int a3), (4, .int a4), (5, .int x2), (6, .int x3), (7, .int x20), (8, .int x18)] []) h (fun x20 h => ?_) (fun J21 KJ21 h => ?_)
                      · refine rs_iincn (v := 1) C dX4_mostAlike_103 rfl (by decide) (by decide) rfl h (fun x22 h => ?_)
                        refine rs_goto (tgt := 66) C dX4_mostAlike_106 (by decide) ?_
                        exact rs_subk (ih66 _ _ h) (rs_ac rfl (rs_ac rfl (rs_ac rfl (rs_ac rfl (rs_ac rfl (rs_ac rfl (rs_ac rfl (rs_ac rfl (rs_ac rfl rs_a0)))))))))
                      · refine rs_icmp_ne (tgt := 103) C dX4_mostAlike_80 (by decide) rfl (fun z23 => ?_) (fun z23 => ?_)
                        · replace h := rs_if z23 h
                          exact rs_subk (KJ21 _ h) (rs_ac rfl (rs_ac rfl (rs_ac rfl (rs_ac rfl (rs_ac rfl (rs_ac rfl (rs_ac rfl (rs_ac rfl (rs_ac rfl rs_a0)))))))))
                        · replace h := rs_it z23 h
                          refine rs_aload_n (i := 0) C dX4_mostAlike_83 rfl rfl rfl ?_
                          refine rg_X4_6 C kk_76 wl_X4_40 dX4_mostAlike_84 rfl ?_
                          refine rs_iload C dX4_mostAlike_87 rfl rfl ?_
                          obtain ⟨z24, h⟩ := rs_ck h
                          refine rs_ialdn C kk_82 ll_82 z24 dX4_mostAlike_89 rfl ?_
                          refine rs_aload_n (i := 0) C dX4_mostAlike_90 rfl rfl rfl ?_
                          refine rg_X4_6 C kk_76 wl_X4_40 dX4_mostAlike_91 rfl ?_
                          refine rs_iload C dX4_mostAlike_94 rfl rfl ?_
                          obtain ⟨z25, h⟩ := rs_ck h
                          refine rs_ialdn C kk_82 ll_82 z25 dX4_mostAlike_96 rfl ?_
                          refine rs_icmp_ne (tgt := 103) C dX4_mostAlike_97 (by decide) rfl (fun z26 => ?_) (fun z26 => ?_)
                          · replace h := rs_if z26 h
                            exact rs_subk (KJ21 _ h) (rs_ac rfl (rs_ac rfl (rs_ac rfl (rs_ac rfl (rs_ac rfl (rs_ac rfl (rs_ac rfl (rs_ac rfl (rs_ac rfl rs_a0)))))))))
                          · replace h := rs_it z26 h
                            refine rs_iincn (v := 1) C dX4_mostAlike_100 rfl (by decide) (by decide) rfl h (fun x27 h => ?_)
                            exact rs_subk (KJ21 _ h) (rs_ac rfl (rs_ac rfl (rs_ac rfl (rs_ac rfl (rs_ac rfl (rs_ac rfl (rs_ac rfl (rs_ac rfl (rs_ac rfl rs_a0)))))))))
                exact rs_subk (L66 rs_fu _ _ h) (rs_ac rfl (rs_ac rfl (rs_ac rfl (rs_ac rfl (rs_ac rfl (rs_ac rfl (rs_ac rfl (rs_ac rfl (rs_ac rfl rs_a0)))))))))
            · replace h := rs_it z9 h
              refine rs_goto (tgt := 118) C dX4_mostAlike_25 (by decide) ?_
              exact rs_subk (KJ7 _ _ h) (rs_ac rfl (rs_ac rfl (rs_ac rfl (rs_ac rfl (rs_ac rfl (rs_ac rfl (rs_ac rfl rs_a0)))))))
    exact rs_subk (L6 rs_fu _ _ _ h) (rs_ac rfl (rs_ac rfl (rs_ac rfl (rs_ac rfl (rs_ac rfl (rs_ac rfl (rs_ac rfl rs_a0)))))))
def xf_J6_bitCount_0f7a4 (S : rs_St) (a1 : Int32) : Option Int32 := rs_lt (a1 - (((a1 : Int32).toUInt32 >>> ((1 : Int32).toUInt32 &&& Int32.toUInt32 31)).toInt32 &&& 1431655765)) (fun x1 => rs_lt ((x1 &&& 858993459) + (((x1 : Int32).toUInt32 >>> ((2 : Int32).toUInt32 &&& Int32.toUInt32 31)).toInt32 &&& 858993459)) (fun x2 => rs_lt ((x2 + ((x2 : Int32).toUInt32 >>> ((4 : Int32).toUInt32 &&& Int32.toUInt32 31)).toInt32) &&& 252645135) (fun x3 => rs_lt (x3 + ((x3 : Int32).toUInt32 >>> ((8 : Int32).toUInt32 &&& Int32.toUInt32 31)).toInt32) (fun x4 => rs_lt (x4 + ((x4 : Int32).toUInt32 >>> ((16 : Int32).toUInt32 &&& Int32.toUInt32 31)).toInt32) (fun x5 => some (x5 &&& 63))))))
set_option maxRecDepth 100000 in
theorem c_J6_bitCount_0f7a4 (l : Launch) (G : rs_G) (hG : rs_ok G) (S : rs_St) (a1 : Int32)  (o : Int32) (h : xf_J6_bitCount_0f7a4 S a1 = some o) : Met l yJ6_bitCount_0f7a4 (rs_wz yJ6_bitCount_0f7a4 cJ6_bitCount_0f7a4 1 (some FieldType.int)) (rs_rm 2) (va_Pc [.int a1] (rs_pre G S)) (va_Qi (fun r S2 => (r, S2) = (o, S)) (rs_post G) (rs_A G)) 0 0 (rs_A G) := by
  refine rs_met hG (by decide) (Nat.le_of_ble_eq_true rfl) ?_
  intro p e s m args below meth c C hr hlk
  rw [xf_J6_bitCount_0f7a4] at h
  refine rs_iload_n (i := 0) C dJ6_bitCount_0f7a4_0 rfl rfl rfl ?_
  refine rs_iload_n (i := 0) C dJ6_bitCount_0f7a4_1 rfl rfl rfl ?_
  refine rs_iconst (v := 1) C dJ6_bitCount_0f7a4_2 (by decide) rfl ?_
  refine rs_iushr C dJ6_bitCount_0f7a4_3 rfl ?_
  refine rs_ldcw C dJ6_bitCount_0f7a4_4 wk_J6_265 rfl ?_
  refine rs_iand C dJ6_bitCount_0f7a4_7 rfl ?_
  refine rs_isub C dJ6_bitCount_0f7a4_8 rfl ?_
  refine rs_nmi h (fun x1 h => ?_)
  refine rs_istore_n (i := 0) C dJ6_bitCount_0f7a4_9 rfl (by decide) rfl ?_
  refine rs_iload_n (i := 0) C dJ6_bitCount_0f7a4_10 rfl rfl rfl ?_
  refine rs_ldcw C dJ6_bitCount_0f7a4_11 wk_J6_266 rfl ?_
  refine rs_iand C dJ6_bitCount_0f7a4_14 rfl ?_
  refine rs_iload_n (i := 0) C dJ6_bitCount_0f7a4_15 rfl rfl rfl ?_
  refine rs_iconst (v := 2) C dJ6_bitCount_0f7a4_16 (by decide) rfl ?_
  refine rs_iushr C dJ6_bitCount_0f7a4_17 rfl ?_
  refine rs_ldcw C dJ6_bitCount_0f7a4_18 wk_J6_266 rfl ?_
  refine rs_iand C dJ6_bitCount_0f7a4_21 rfl ?_
  refine rs_iadd C dJ6_bitCount_0f7a4_22 rfl ?_
  refine rs_nmi h (fun x2 h => ?_)
  refine rs_istore_n (i := 0) C dJ6_bitCount_0f7a4_23 rfl (by decide) rfl ?_
  refine rs_iload_n (i := 0) C dJ6_bitCount_0f7a4_24 rfl rfl rfl ?_
  refine rs_iload_n (i := 0) C dJ6_bitCount_0f7a4_25 rfl rfl rfl ?_
  refine rs_iconst (v := 4) C dJ6_bitCount_0f7a4_26 (by decide) rfl ?_
  refine rs_iushr C dJ6_bitCount_0f7a4_27 rfl ?_
  refine rs_iadd C dJ6_bitCount_0f7a4_28 rfl ?_
  refine rs_ldcw C dJ6_bitCount_0f7a4_29 wk_J6_267 rfl ?_
  refine rs_iand C dJ6_bitCount_0f7a4_32 rfl ?_
  refine rs_nmi h (fun x3 h => ?_)
  refine rs_istore_n (i := 0) C dJ6_bitCount_0f7a4_33 rfl (by decide) rfl ?_
  refine rs_iload_n (i := 0) C dJ6_bitCount_0f7a4_34 rfl rfl rfl ?_
  refine rs_iload_n (i := 0) C dJ6_bitCount_0f7a4_35 rfl rfl rfl ?_
  refine rs_bipush (v := 8) C dJ6_bitCount_0f7a4_36 (by decide) rfl ?_
  refine rs_iushr C dJ6_bitCount_0f7a4_38 rfl ?_
  refine rs_iadd C dJ6_bitCount_0f7a4_39 rfl ?_
  refine rs_nmi h (fun x4 h => ?_)
  refine rs_istore_n (i := 0) C dJ6_bitCount_0f7a4_40 rfl (by decide) rfl ?_
  refine rs_iload_n (i := 0) C dJ6_bitCount_0f7a4_41 rfl rfl rfl ?_
  refine rs_iload_n (i := 0) C dJ6_bitCount_0f7a4_42 rfl rfl rfl ?_
  refine rs_bipush (v := 16) C dJ6_bitCount_0f7a4_43 (by decide) rfl ?_
  refine rs_iushr C dJ6_bitCount_0f7a4_45 rfl ?_
  refine rs_iadd C dJ6_bitCount_0f7a4_46 rfl ?_
  refine rs_nmi h (fun x5 h => ?_)
  refine rs_istore_n (i := 0) C dJ6_bitCount_0f7a4_47 rfl (by decide) rfl ?_
  refine rs_iload_n (i := 0) C dJ6_bitCount_0f7a4_48 rfl rfl rfl ?_
  refine rs_bipush (v := 63) C dJ6_bitCount_0f7a4_49 (by decide) rfl ?_
  refine rs_iand C dJ6_bitCount_0f7a4_51 rfl ?_
  exact rs_iret C hr hlk (rs_pr h) dJ6_bitCount_0f7a4_52
def xf_X4_ask_l52 (a1 : Int32) (r10 : Int32) (x16 : Int32) (K52 : rs_St → Int32 → Int32 → Int32 → Option (Int32 × rs_St)) : Nat → rs_St → Int32 → Int32 → Int32 → Option (Int32 × rs_St)
  | 0, _, _, _, _ => none
  | n52 + 1, S18, x19, x20, x21 => if (rs_gi S18 (0 + 2) 0) ≤ x21 then K52 S18 x19 x20 x21 else rs_b2 (xf_X4_mostAlike S18 a1 r10 x16 x21) (fun r25 S24 => rs_jn (fun (x26 : Int32) (x27 : Int32) => rs_lt (x21 + 1) (fun x29 => xf_X4_ask_l52 a1 r10 x16 K52 n52 S24 x26 x27 x29)) (fun J28 => if x20 ≤ r25 then J28 x19 x20 else rs_lt ((10 * x16) + x21) (fun x31 => J28 x31 r25)))
def xf_X4_ask_l42 (a1 : Int32) (r10 : Int32) (K42 : rs_St → Int32 → Int32 → Int32 → Option (Int32 × rs_St)) : Nat → rs_St → Int32 → Int32 → Int32 → Option (Int32 × rs_St)
  | 0, _, _, _, _ => none
  | n42 + 1, S13, x14, x15, x16 => if 20 < x16 then K42 S13 x14 x15 x16 else xf_X4_ask_l52 a1 r10 x16 (fun (S32 : rs_St) (x33 : Int32) (x34 : Int32) (x35 : Int32) => rs_lt (x16 + 1) (fun x36 => xf_X4_ask_l42 a1 r10 K42 n42 S32 x33 x34 x36)) rs_fu S13 x14 x15 0
def xf_X4_ask (S : rs_St) (a1 : Int32) (a2 : Int32) : Option (Int32 × rs_St) := rs_b1 (xf_X1_lampAt S 0 a1) (fun r2 => rs_om r2 (some ((-1), S)) (fun q3 => if rs_kd q3 = 0 then rs_b1 (xf_X4_outside S a2 0 1) (fun r6 => if r6 = 0 then rs_b2 (xf_X4_fitting S a1 3) (fun r10 S9 => rs_b1 (xf_J6_bitCount_0f7a4 S9 r10) (fun r12 => xf_X4_ask_l42 a1 r10 (fun (S37 : rs_St) (x38 : Int32) (x39 : Int32) (x40 : Int32) => if a2 = 0 then some (x38, S37) else if x38 = (-4) then some (x38, S37) else some (x39, S37)) rs_fu S9 (-4) r12 0)) else some ((-1), S)) else none))
set_option maxRecDepth 100000 in
theorem c_X4_ask (l : Launch) (G : rs_G) (hG : rs_ok G) (S : rs_St) (a1 : Int32) (a2 : Int32)  (o : (Int32 × rs_St)) (h : xf_X4_ask S a1 a2 = some o) : Met l yX4_ask (rs_wz yX4_ask cX4_ask 9 (some FieldType.int)) (rs_rm 7) (va_Pc [.ref (rs_ad G 76), .int a1, .int a2] (rs_pre G S)) (va_Qi (fun r S2 => (r, S2) = o) (rs_post G) (rs_A G)) 0 0 (rs_A G) := by
  refine rs_met hG (by decide) (Nat.le_of_ble_eq_true rfl) ?_
  intro p e s m args below meth c C hr hlk
  rw [xf_X4_ask] at h
  refine rs_aload_n (i := 0) C dX4_ask_0 rfl rfl rfl ?_
  refine rg_X4_0 C kk_76 wl_X4_10 dX4_ask_1 rfl ?_
  refine rs_iload_n (i := 1) C dX4_ask_4 rfl rfl rfl ?_
  obtain ⟨r2, h1, h⟩ := rs_b1e h
  refine rs_callVq (r0 := r2) (mp := rs_ad G) (S0 := S) C (rs_kd_lt kk_0 (by decide)) (rs_e1 kk_0) rfl (c_X1_lampAt l G hG S 0 a1 kk_0 _ h1) ⟨wl_X4_84, wi_yX1_lampAt, wx_yX1_lampAt, wn_X1, wc_yX1_lampAt⟩ wy_yX1_lampAt (by decide) ⟨rfl, rfl⟩ rfl rfl (Nat.le_of_ble_eq_true rfl) dX4_ask_5 rfl ?_
  cases r2 with
  | none =>
    replace h := rs_omn h
    refine rs_ifnull_n (tgt := 20) C dX4_ask_8 (by decide) ?_
    refine rs_iconst (v := (-1)) C dX4_ask_20 (by decide) rfl ?_
    exact rs_iret C hr hlk h dX4_ask_21
  | some q3 =>
    replace h := rs_oms h
    obtain ⟨z4, h⟩ := rs_ckp h
    refine rs_ifnull_r C dX4_ask_8 rfl ?_
    refine rs_iload_n (i := 2) C dX4_ask_11 rfl rfl rfl ?_
    refine rs_iconst (v := 0) C dX4_ask_12 (by decide) rfl ?_
    refine rs_iconst (v := 1) C dX4_ask_13 (by decide) rfl ?_
    obtain ⟨r6, h5, h⟩ := rs_b1e h
    refine rs_callSi (r0 := r6) (S0 := S) C (c_X4_outside l G hG S a2 0 1 _ h5) ⟨wl_X4_45, ws_yX4_outside, wn_X4, wc_yX4_outside⟩ wy_yX4_outside (by decide) ⟨rfl, rfl⟩ rfl rfl (Nat.le_of_ble_eq_true rfl) dX4_ask_14 rfl ?_
    refine rs_if_eq (tgt := 22) C dX4_ask_17 (by decide) rfl (fun z7 => ?_) (fun z7 => ?_)
    · replace h := rs_it z7 h
      refine rs_aload_n (i := 0) C dX4_ask_22 rfl rfl rfl ?_
      refine rs_iload_n (i := 1) C dX4_ask_23 rfl rfl rfl ?_
      refine rs_iconst (v := 3) C dX4_ask_24 (by decide) rfl ?_
      obtain ⟨r10, S9, h8, h⟩ := rs_b2e h
      refine rs_callVi (r0 := r10) (S0 := S9) C (rs_kd_lt kk_76 (by decide)) (rs_e4 kk_76) rfl (c_X4_fitting l G hG S a1 3 _ h8) ⟨wl_X4_185, wi_yX4_fitting, wx_yX4_fitting, wn_X4, wc_yX4_fitting⟩ wy_yX4_fitting (by decide) ⟨rfl, rfl⟩ rfl rfl (Nat.le_of_ble_eq_true rfl) dX4_ask_25 rfl ?_
      refine rs_istore_n (i := 3) C dX4_ask_28 rfl (by decide) rfl ?_
      refine rs_bipush (v := (-4)) C dX4_ask_29 (by decide) rfl ?_
      refine rs_istore C dX4_ask_31 (by decide) rfl ?_
      refine rs_iload_n (i := 3) C dX4_ask_33 rfl rfl rfl ?_
      obtain ⟨r12, h11, h⟩ := rs_b1e h
      refine rs_callSi (r0 := r12) (S0 := S9) C (c_J6_bitCount_0f7a4 l G hG S9 r10 _ h11) ⟨wl_X4_188, ws_yJ6_bitCount_0f7a4, wn_J6, wc_yJ6_bitCount_0f7a4⟩ wy_yJ6_bitCount_0f7a4 (by decide) ⟨rfl, rfl⟩ rfl rfl (Nat.le_of_ble_eq_true rfl) dX4_ask_34 rfl ?_
      refine rs_istore C dX4_ask_37 (by decide) rfl ?_
      refine rs_iconst (v := 0) C dX4_ask_39 (by decide) rfl ?_
      refine rs_istore C dX4_ask_40 (by decide) rfl ?_
      refine rs_kw (F := fun K => xf_X4_ask_l42 a1 r10 K rs_fu S9 (-4) r12 0) (P := fun K => ∀ (S37 : rs_St) (x38 : Int32) (x39 : Int32) (x40 : Int32), K S37 x38 x39 x40 = some o → rs_Xi G 9 p l e (rs_rm 7) s m args below meth c o S37 111 [(0, .ref (rs_ad G 76)), (1, .int a1), (2, .int a2), (3, .int r10), (4, .int x38), (5, .int x39), (6, .int x40)] []) h (fun S37 x38 x39 x40 h => ?_) (fun K42 hK42 h => ?_)
      · refine rs_iload_n (i := 2) C dX4_ask_111 rfl rfl rfl ?_
        refine rs_if_eq (tgt := 122) C dX4_ask_112 (by decide) rfl (fun z41 => ?_) (fun z41 => ?_)
        · replace h := rs_it z41 h
          refine rs_iload C dX4_ask_122 rfl rfl ?_
          refine rs_goto (tgt := 129) C dX4_ask_124 (by decide) ?_
          exact rs_iret C hr hlk h dX4_ask_129
        · replace h := rs_if z41 h
          refine rs_iload C dX4_ask_115 rfl rfl ?_
          refine rs_bipush (v := (-4)) C dX4_ask_117 (by decide) rfl ?_
          refine rs_icmp_ne (tgt := 127) C dX4_ask_119 (by decide) rfl (fun z42 => ?_) (fun z42 => ?_)
          · replace h := rs_if z42 h
            refine rs_iload C dX4_ask_127 rfl rfl ?_
            exact rs_iret C hr hlk h dX4_ask_129
          · replace h := rs_it z42 h
            refine rs_iload C dX4_ask_122 rfl rfl ?_
            refine rs_goto (tgt := 129) C dX4_ask_124 (by decide) ?_
            exact rs_iret C hr hlk h dX4_ask_129
      · have L42 : ∀ (n42 : Nat) (S13 : rs_St) (x14 : Int32) (x15 : Int32) (x16 : Int32), xf_X4_ask_l42 a1 r10 K42 n42 S13 x14 x15 x16 = some o → rs_Xi G 9 p l e (rs_rm 7) s m args below meth c o S13 42 [(0, .ref (rs_ad G 76)), (1, .int a1), (2, .int a2), (3, .int r10), (4, .int x14), (5, .int x15), (6, .int x16)] [] := by
          intro n42
          induction n42 with
          | zero => intro S13 x14 x15 x16 h; exact (rs_no h).elim
          | succ n42 ih42 =>
            intro S13 x14 x15 x16 h
            rw [xf_X4_ask_l42] at h
            refine rs_iload C dX4_ask_42 rfl rfl ?_
            refine rs_bipush (v := 20) C dX4_ask_44 (by decide) rfl ?_
            refine rs_icmp_gt (tgt := 111) C dX4_ask_46 (by decide) rfl (fun z17 => ?_) (fun z17 => ?_)
            · replace h := rs_it z17 h
              exact rs_subk (hK42 _ _ _ _ h) (rs_ac rfl (rs_ac rfl (rs_ac rfl (rs_ac rfl (rs_ac rfl (rs_ac rfl (rs_ac rfl rs_a0)))))))
            · replace h := rs_if z17 h
              refine rs_iconst (v := 0) C dX4_ask_49 (by decide) rfl ?_
              refine rs_istore C dX4_ask_50 (by decide) rfl ?_
              refine rs_kw (F := fun K => xf_X4_ask_l52 a1 r10 x16 K rs_fu S13 x14 x15 0) (P := fun K => ∀ (S32 : rs_St) (x33 : Int32) (x34 : Int32) (x35 : Int32), K S32 x33 x34 x35 = some o → rs_Xi G 9 p l e (rs_rm 7) s m args below meth c o S32 105 [(0, .ref (rs_ad G 76)), (1, .int a1), (2, .int a2), (3, .int r10), (4, .int x33), (5, .int x34), (6, .int x16), (7, .int x35)] []) h (fun S32 x33 x34 x35 h => ?_) (fun K52 hK52 h => ?_)
              · refine rs_iincn (v := 1) C dX4_ask_105 rfl (by decide) (by decide) rfl h (fun x36 h => ?_)
                refine rs_goto (tgt := 42) C dX4_ask_108 (by decide) ?_
                exact rs_subk (ih42 _ _ _ _ h) (rs_ac rfl (rs_ac rfl (rs_ac rfl (rs_ac rfl (rs_ac rfl (rs_ac rfl (rs_ac rfl rs_a0)))))))
              · have L52 : ∀ (n52 : Nat) (S18 : rs_St) (x19 : Int32) (x20 : Int32) (x21 : Int32), xf_X4_ask_l52 a1 r10 x16 K52 n52 S18 x19 x20 x21 = some o → rs_Xi G 9 p l e (rs_rm 7) s m args below meth c o S18 52 [(0, .ref (rs_ad G 76)), (1, .int a1), (2, .int a2), (3, .int r10), (4, .int x19), (5, .int x20), (6, .int x16), (7, .int x21)] [] := by
                  intro n52
                  induction n52 with
                  | zero => intro S18 x19 x20 x21 h; exact (rs_no h).elim
                  | succ n52 ih52 =>
                    intro S18 x19 x20 x21 h
                    rw [xf_X4_ask_l52] at h
                    refine rs_iload C dX4_ask_52 rfl rfl ?_
                    refine rs_aload_n (i := 0) C dX4_ask_54 rfl rfl rfl ?_
                    refine rg_X4_0 C kk_76 wl_X4_10 dX4_ask_55 rfl ?_
                    refine rg_X1_2 C kk_0 wl_X4_77 dX4_ask_58 rfl ?_
                    refine rs_iconst (v := 0) C dX4_ask_61 (by decide) rfl ?_
                    refine rs_ialdc C (rs_k1b kk_0) (rs_l1b kk_0) 0 (by decide) (by decide) dX4_ask_62 rfl ?_
                    refine rs_icmp_ge (tgt := 105) C dX4_ask_63 (by decide) rfl (fun z22 => ?_) (fun z22 => ?_)
                    · replace h := rs_it z22 h
                      exact rs_subk (hK52 _ _ _ _ h) (rs_ac rfl (rs_ac rfl (rs_ac rfl (rs_ac rfl (rs_ac rfl (rs_ac rfl (rs_ac rfl (rs_ac rfl rs_a0))))))))
                    · replace h := rs_if z22 h
                      refine rs_aload_n (i := 0) C dX4_ask_66 rfl rfl rfl ?_
                      refine rs_iload_n (i := 1) C dX4_ask_67 rfl rfl rfl ?_
                      refine rs_iload_n (i := 3) C dX4_ask_68 rfl rfl rfl ?_
                      refine rs_iload C dX4_ask_69 rfl rfl ?_
                      refine rs_iload C dX4_ask_71 rfl rfl ?_
                      obtain ⟨r25, S24, h23, h⟩ := rs_b2e h
                      refine rs_callVi (r0 := r25) (S0 := S24) C (rs_kd_lt kk_76 (by decide)) (rs_e4 kk_76) rfl (c_X4_mostAlike l G hG S18 a1 r10 x16 x21 _ h23) ⟨wl_X4_193, wi_yX4_mostAlike, wx_yX4_mostAlike, wn_X4, wc_yX4_mostAlike⟩ wy_yX4_mostAlike (by decide) ⟨rfl, rfl⟩ rfl rfl (Nat.le_of_ble_eq_true rfl) dX4_ask_73 rfl ?_
                      refine rs_istore C dX4_ask_76 (by decide) rfl ?_
                      refine rs_iload C dX4_ask_78 rfl rfl ?_
                      refine rs_iload C dX4_ask_80 rfl rfl ?_
                      refine rs_jw (P := fun J => ∀ (x26 : Int32) (x27 : Int32), J x26 x27 = some o → rs_Xi G 9 p l e (rs_rm 7) s m args below meth c o S24 99 [(0, .ref (rs_ad G 76)), (1, .int a1), (2, .int a2), (3, .int r10), (4, .int x26), (5, .int x27), (6, .int x16), (7, .int x21), (8, .int r25)] []) h (fun x26 x27 h => ?_) (fun J28 KJ28 h => ?_)
                      · refine rs_iincn (v := 1) C dX4_ask_99 rfl (by decide) (by decide) rfl h (fun x29 h => ?_)
                        refine rs_goto (tgt := 52) C dX4_ask_102 (by decide) ?_
                        exact rs_subk (ih52 _ _ _ _ h) (rs_ac rfl (rs_ac rfl (rs_ac rfl (rs_ac rfl (rs_ac rfl (rs_ac rfl (rs_ac rfl (rs_ac rfl rs_a0))))))))
                      · refine rs_icmp_ge (tgt := 99) C dX4_ask_82 (by decide) rfl (fun z30 => ?_) (fun z30 => ?_)
                        · replace h := rs_it z30 h
                          exact rs_subk (KJ28 _ _ h) (rs_ac rfl (rs_ac rfl (rs_ac rfl (rs_ac rfl (rs_ac rfl (rs_ac rfl (rs_ac rfl (rs_ac rfl (rs_ac rfl rs_a0)))))))))
                        · replace h := rs_if z30 h
                          refine rs_iload C dX4_ask_85 rfl rfl ?_
                          refine rs_istore C dX4_ask_87 (by decide) rfl ?_
                          refine rs_bipush (v := 10) C dX4_ask_89 (by decide) rfl ?_
                          refine rs_iload C dX4_ask_91 rfl rfl ?_
                          refine rs_imul C dX4_ask_93 rfl ?_
                          refine rs_iload C dX4_ask_94 rfl rfl ?_
                          refine rs_iadd C dX4_ask_96 rfl ?_
                          refine rs_nmi h (fun x31 h => ?_)
                          refine rs_istore C dX4_ask_97 (by decide) rfl ?_
                          exact rs_subk (KJ28 _ _ h) (rs_ac rfl (rs_ac rfl (rs_ac rfl (rs_ac rfl (rs_ac rfl (rs_ac rfl (rs_ac rfl (rs_ac rfl (rs_ac rfl rs_a0)))))))))
                exact rs_subk (L52 rs_fu _ _ _ _ h) (rs_ac rfl (rs_ac rfl (rs_ac rfl (rs_ac rfl (rs_ac rfl (rs_ac rfl (rs_ac rfl (rs_ac rfl rs_a0))))))))
        exact rs_subk (L42 rs_fu _ _ _ _ h) (rs_ac rfl (rs_ac rfl (rs_ac rfl (rs_ac rfl (rs_ac rfl (rs_ac rfl (rs_ac rfl rs_a0)))))))
    · replace h := rs_if z7 h
      refine rs_iconst (v := (-1)) C dX4_ask_20 (by decide) rfl ?_
      exact rs_iret C hr hlk h dX4_ask_21
def xf_X4_drift_l58 (a2 : Int32) (K58 : rs_St → Int32 → Int32 → Int32 → Int32 → Option (Int32 × rs_St)) : Nat → rs_St → Int32 → Int32 → Int32 → Int32 → Option (Int32 × rs_St)
  | 0, _, _, _, _, _ => none
  | n58 + 1, S10, x11, x12, x13, x14 => if a2 ≤ x14 then K58 S10 x11 x12 x13 x14 else rs_lt ((x13 * 1103515245) + 12345) (fun x16 => rs_lt (((x16 : Int32).toUInt32 >>> ((16 : Int32).toUInt32 &&& Int32.toUInt32 31)).toInt32 &&& 32767) (fun x17 => if (rs_gi S10 0 1) = 0 then none else if (x17 - x17 / (rs_gi S10 0 1) * (rs_gi S10 0 1)) < 0 ∨ 4 ≤ (x17 - x17 / (rs_gi S10 0 1) * (rs_gi S10 0 1)).toNatClampNeg then none else rs_b1 (xf_X0_become S10 ((19 + 1) + 6 + 3 * (x17 - x17 / (rs_gi S10 0 1) * (rs_gi S10 0 1)).toNatClampNeg) 3 ((x17 / 8) - (x17 / 8) / 12 * 12)) (fun S21 => rs_b1 (xf_X1_bands S21 19 x14) (fun r23 => rs_lt (if x11 < r23 then r23 else x11) (fun x24 => rs_b1 (xf_X1_lightOf S21 19 x14) (fun r26 => rs_lt (x12 + r26) (fun x27 => rs_lt (x14 + 1) (fun x28 => xf_X4_drift_l58 a2 K58 n58 S21 x24 x27 x16 x28))))))))
def xf_X4_drift (S : rs_St) (a1 : Int32) (a2 : Int32) (a3 : Int32) : Option (Int32 × rs_St) := rs_b1 (xf_X4_outside S a2 1 40) (fun r2 => if r2 = 0 then rs_b1 (xf_X4_outside S a3 0 1) (fun r5 => if r5 = 0 then if 1 ≤ (rs_gi S 0 1) then rs_b1 (xf_X1_copyFrom S 19 0) (fun S9 => xf_X4_drift_l58 a2 (fun (S29 : rs_St) (x30 : Int32) (x31 : Int32) (x32 : Int32) (x33 : Int32) => if a3 = 0 then some (x30, S29) else some (x31, S29)) rs_fu S9 0 0 a1 0) else some ((-2), S) else some ((-1), S)) else some ((-1), S))
set_option maxRecDepth 100000 in
theorem c_X4_drift (l : Launch) (G : rs_G) (hG : rs_ok G) (S : rs_St) (a1 : Int32) (a2 : Int32) (a3 : Int32)  (o : (Int32 × rs_St)) (h : xf_X4_drift S a1 a2 a3 = some o) : Met l yX4_drift (rs_wz yX4_drift cX4_drift 9 (some FieldType.int)) (rs_rm 6) (va_Pc [.ref (rs_ad G 76), .int a1, .int a2, .int a3] (rs_pre G S)) (va_Qi (fun r S2 => (r, S2) = o) (rs_post G) (rs_A G)) 0 0 (rs_A G) := by
  refine rs_met hG (by decide) (Nat.le_of_ble_eq_true rfl) ?_
  intro p e s m args below meth c C hr hlk
  rw [xf_X4_drift] at h
  refine rs_iload_n (i := 2) C dX4_drift_0 rfl rfl rfl ?_
  refine rs_iconst (v := 1) C dX4_drift_1 (by decide) rfl ?_
  refine rs_bipush (v := 40) C dX4_drift_2 (by decide) rfl ?_
  obtain ⟨r2, h1, h⟩ := rs_b1e h
  refine rs_callSi (r0 := r2) (S0 := S) C (c_X4_outside l G hG S a2 1 40 _ h1) ⟨wl_X4_45, ws_yX4_outside, wn_X4, wc_yX4_outside⟩ wy_yX4_outside (by decide) ⟨rfl, rfl⟩ rfl rfl (Nat.le_of_ble_eq_true rfl) dX4_drift_4 rfl ?_
  refine rs_if_ne (tgt := 19) C dX4_drift_7 (by decide) rfl (fun z3 => ?_) (fun z3 => ?_)
  · replace h := rs_if z3 h
    refine rs_iconst (v := (-1)) C dX4_drift_19 (by decide) rfl ?_
    exact rs_iret C hr hlk h dX4_drift_20
  · replace h := rs_it z3 h
    refine rs_iload_n (i := 3) C dX4_drift_10 rfl rfl rfl ?_
    refine rs_iconst (v := 0) C dX4_drift_11 (by decide) rfl ?_
    refine rs_iconst (v := 1) C dX4_drift_12 (by decide) rfl ?_
    obtain ⟨r5, h4, h⟩ := rs_b1e h
    refine rs_callSi (r0 := r5) (S0 := S) C (c_X4_outside l G hG S a3 0 1 _ h4) ⟨wl_X4_45, ws_yX4_outside, wn_X4, wc_yX4_outside⟩ wy_yX4_outside (by decide) ⟨rfl, rfl⟩ rfl rfl (Nat.le_of_ble_eq_true rfl) dX4_drift_13 rfl ?_
    refine rs_if_eq (tgt := 21) C dX4_drift_16 (by decide) rfl (fun z6 => ?_) (fun z6 => ?_)
    · replace h := rs_it z6 h
      refine rs_aload_n (i := 0) C dX4_drift_21 rfl rfl rfl ?_
      refine rg_X4_0 C kk_76 wl_X4_10 dX4_drift_22 rfl ?_
      refine rg_X1_1 C kk_0 wl_X4_68 dX4_drift_25 rfl ?_
      refine rs_iconst (v := 1) C dX4_drift_28 (by decide) rfl ?_
      refine rs_icmp_ge (tgt := 35) C dX4_drift_29 (by decide) rfl (fun z7 => ?_) (fun z7 => ?_)
      · replace h := rs_it z7 h
        refine rs_aload_n (i := 0) C dX4_drift_35 rfl rfl rfl ?_
        refine rg_X4_1 C kk_76 wl_X4_16 dX4_drift_36 rfl ?_
        refine rs_aload_n (i := 0) C dX4_drift_39 rfl rfl rfl ?_
        refine rg_X4_0 C kk_76 wl_X4_10 dX4_drift_40 rfl ?_
        obtain ⟨S9, h8, h⟩ := rs_b1e h
        refine rs_callVv (S0 := S9) C (rs_kd_lt kk_19 (by decide)) (rs_e1 kk_19) rfl (c_X1_copyFrom l G hG S 19 0 kk_19 kk_0 _ h8) ⟨wl_X4_64, wi_yX1_copyFrom, wx_yX1_copyFrom, wn_X1, wc_yX1_copyFrom⟩ wy_yX1_copyFrom (by decide) ⟨rfl, rfl⟩ rfl rfl (Nat.le_of_ble_eq_true rfl) dX4_drift_43 rfl ?_
        refine rs_iconst (v := 0) C dX4_drift_46 (by decide) rfl ?_
        refine rs_istore C dX4_drift_47 (by decide) rfl ?_
        refine rs_iconst (v := 0) C dX4_drift_49 (by decide) rfl ?_
        refine rs_istore C dX4_drift_50 (by decide) rfl ?_
        refine rs_iload_n (i := 1) C dX4_drift_52 rfl rfl rfl ?_
        refine rs_istore C dX4_drift_53 (by decide) rfl ?_
        refine rs_iconst (v := 0) C dX4_drift_55 (by decide) rfl ?_
        refine rs_istore C dX4_drift_56 (by decide) rfl ?_
        refine rs_kw (F := fun K => xf_X4_drift_l58 a2 K rs_fu S9 0 0 a1 0) (P := fun K => ∀ (S29 : rs_St) (x30 : Int32) (x31 : Int32) (x32 : Int32) (x33 : Int32), K S29 x30 x31 x32 x33 = some o → rs_Xi G 9 p l e (rs_rm 6) s m args below meth c o S29 152 [(0, .ref (rs_ad G 76)), (1, .int a1), (2, .int a2), (3, .int a3), (4, .int x30), (5, .int x31), (6, .int x32), (7, .int x33)] []) h (fun S29 x30 x31 x32 x33 h => ?_) (fun K58 hK58 h => ?_)
        · refine rs_iload_n (i := 3) C dX4_drift_152 rfl rfl rfl ?_
          refine rs_if_ne (tgt := 161) C dX4_drift_153 (by decide) rfl (fun z34 => ?_) (fun z34 => ?_)
          · replace h := rs_if z34 h
            refine rs_iload C dX4_drift_161 rfl rfl ?_
            exact rs_iret C hr hlk h dX4_drift_163
          · replace h := rs_it z34 h
            refine rs_iload C dX4_drift_156 rfl rfl ?_
            refine rs_goto (tgt := 163) C dX4_drift_158 (by decide) ?_
            exact rs_iret C hr hlk h dX4_drift_163
        · have L58 : ∀ (n58 : Nat) (S10 : rs_St) (x11 : Int32) (x12 : Int32) (x13 : Int32) (x14 : Int32), xf_X4_drift_l58 a2 K58 n58 S10 x11 x12 x13 x14 = some o → rs_Xi G 9 p l e (rs_rm 6) s m args below meth c o S10 58 [(0, .ref (rs_ad G 76)), (1, .int a1), (2, .int a2), (3, .int a3), (4, .int x11), (5, .int x12), (6, .int x13), (7, .int x14)] [] := by
            intro n58
            induction n58 with
            | zero => intro S10 x11 x12 x13 x14 h; exact (rs_no h).elim
            | succ n58 ih58 =>
              intro S10 x11 x12 x13 x14 h
              rw [xf_X4_drift_l58] at h
              refine rs_iload C dX4_drift_58 rfl rfl ?_
              refine rs_iload_n (i := 2) C dX4_drift_60 rfl rfl rfl ?_
              refine rs_icmp_ge (tgt := 152) C dX4_drift_61 (by decide) rfl (fun z15 => ?_) (fun z15 => ?_)
              · replace h := rs_it z15 h
                exact rs_subk (hK58 _ _ _ _ _ h) (rs_ac rfl (rs_ac rfl (rs_ac rfl (rs_ac rfl (rs_ac rfl (rs_ac rfl (rs_ac rfl (rs_ac rfl rs_a0))))))))
              · replace h := rs_if z15 h
                refine rs_iload C dX4_drift_64 rfl rfl ?_
                refine rs_ldc C dX4_drift_66 wk_X4_196 rfl ?_
                refine rs_imul C dX4_drift_68 rfl ?_
                refine rs_sipush (v := 12345) C dX4_drift_69 (by decide) rfl ?_
                refine rs_iadd C dX4_drift_72 rfl ?_
                refine rs_nmi h (fun x16 h => ?_)
                refine rs_istore C dX4_drift_73 (by decide) rfl ?_
                refine rs_iload C dX4_drift_75 rfl rfl ?_
                refine rs_bipush (v := 16) C dX4_drift_77 (by decide) rfl ?_
                refine rs_iushr C dX4_drift_79 rfl ?_
                refine rs_sipush (v := 32767) C dX4_drift_80 (by decide) rfl ?_
                refine rs_iand C dX4_drift_83 rfl ?_
                refine rs_nmi h (fun x17 h => ?_)
                refine rs_istore C dX4_drift_84 (by decide) rfl ?_
                refine rs_aload_n (i := 0) C dX4_drift_86 rfl rfl rfl ?_
                refine rg_X4_1 C kk_76 wl_X4_16 dX4_drift_87 rfl ?_
                refine rg_X1_0 C kk_19 wl_X4_158 dX4_drift_90 rfl ?_
                refine rs_iload C dX4_drift_93 rfl rfl ?_
                refine rs_aload_n (i := 0) C dX4_drift_95 rfl rfl rfl ?_
                refine rg_X4_0 C kk_76 wl_X4_10 dX4_drift_96 rfl ?_
                refine rg_X1_1 C kk_0 wl_X4_68 dX4_drift_99 rfl ?_
                obtain ⟨z18, h⟩ := rs_ck h
                refine rs_irem C dX4_drift_102 z18 rfl ?_
                obtain ⟨z19, h⟩ := rs_ck h
                refine rs_aald9 C (rs_k1a kk_19) z19 dX4_drift_103 rfl ?_
                refine rs_iconst (v := 3) C dX4_drift_104 (by decide) rfl ?_
                refine rs_iload C dX4_drift_105 rfl rfl ?_
                refine rs_bipush (v := 8) C dX4_drift_107 (by decide) rfl ?_
                refine rs_idiv C dX4_drift_109 (by decide) rfl ?_
                refine rs_bipush (v := 12) C dX4_drift_110 (by decide) rfl ?_
                refine rs_irem C dX4_drift_112 (by decide) rfl ?_
                obtain ⟨S21, h20, h⟩ := rs_b1e h
                refine rs_callVv (S0 := S21) C (rs_kd_lt (rs_k9i (rs_k1a kk_19) z19) (by decide)) (rs_e0 (rs_k9i (rs_k1a kk_19) z19)) rfl (c_X0_become l G hG S10 ((19 + 1) + 6 + 3 * (x17 - x17 / (rs_gi S10 0 1) * (rs_gi S10 0 1)).toNatClampNeg) 3 ((x17 / 8) - (x17 / 8) / 12 * 12) (rs_k9i (rs_k1a kk_19) z19) _ h20) ⟨wl_X4_107, wi_yX0_become, wx_yX0_become, wn_X0, wc_yX0_become⟩ wy_yX0_become (by decide) ⟨rfl, rfl⟩ rfl rfl (Nat.le_of_ble_eq_true rfl) dX4_drift_113 rfl ?_
                refine rs_iload C dX4_drift_116 rfl rfl ?_
                refine rs_aload_n (i := 0) C dX4_drift_118 rfl rfl rfl ?_
                refine rg_X4_1 C kk_76 wl_X4_16 dX4_drift_119 rfl ?_
                refine rs_iload C dX4_drift_122 rfl rfl ?_
                obtain ⟨r23, h22, h⟩ := rs_b1e h
                refine rs_callVi (r0 := r23) (S0 := S21) C (rs_kd_lt kk_19 (by decide)) (rs_e1 kk_19) rfl (c_X1_bands l G hG S21 19 x14 kk_19 _ h22) ⟨wl_X4_142, wi_yX1_bands, wx_yX1_bands, wn_X1, wc_yX1_bands⟩ wy_yX1_bands (by decide) ⟨rfl, rfl⟩ rfl rfl (Nat.le_of_ble_eq_true rfl) dX4_drift_124 rfl ?_
                refine rs_mmaxn C wl_X4_197 (by decide) (Nat.le_of_ble_eq_true rfl) dX4_drift_127 rfl ?_
                refine rs_nmi h (fun x24 h => ?_)
                refine rs_istore C dX4_drift_130 (by decide) rfl ?_
                refine rs_iload C dX4_drift_132 rfl rfl ?_
                refine rs_aload_n (i := 0) C dX4_drift_134 rfl rfl rfl ?_
                refine rg_X4_1 C kk_76 wl_X4_16 dX4_drift_135 rfl ?_
                refine rs_iload C dX4_drift_138 rfl rfl ?_
                obtain ⟨r26, h25, h⟩ := rs_b1e h
                refine rs_callVi (r0 := r26) (S0 := S21) C (rs_kd_lt kk_19 (by decide)) (rs_e1 kk_19) rfl (c_X1_lightOf l G hG S21 19 x14 kk_19 _ h25) ⟨wl_X4_202, wi_yX1_lightOf, wx_yX1_lightOf, wn_X1, wc_yX1_lightOf⟩ wy_yX1_lightOf (by decide) ⟨rfl, rfl⟩ rfl rfl (Nat.le_of_ble_eq_true rfl) dX4_drift_140 rfl ?_
                refine rs_iadd C dX4_drift_143 rfl ?_
                refine rs_nmi h (fun x27 h => ?_)
                refine rs_istore C dX4_drift_144 (by decide) rfl ?_
                refine rs_iincn (v := 1) C dX4_drift_146 rfl (by decide) (by decide) rfl h (fun x28 h => ?_)
                refine rs_goto (tgt := 58) C dX4_drift_149 (by decide) ?_
                exact rs_subk (ih58 _ _ _ _ _ h) (rs_ac rfl (rs_ac rfl (rs_ac rfl (rs_ac rfl (rs_ac rfl (rs_ac rfl (rs_ac rfl (rs_ac rfl rs_a0))))))))
          exact rs_subk (L58 rs_fu _ _ _ _ _ h) (rs_ac rfl (rs_ac rfl (rs_ac rfl (rs_ac rfl (rs_ac rfl (rs_ac rfl (rs_ac rfl (rs_ac rfl rs_a0))))))))
      · replace h := rs_if z7 h
        refine rs_bipush (v := (-2)) C dX4_drift_32 (by decide) rfl ?_
        exact rs_iret C hr hlk h dX4_drift_34
    · replace h := rs_if z6 h
      refine rs_iconst (v := (-1)) C dX4_drift_19 (by decide) rfl ?_
      exact rs_iret C hr hlk h dX4_drift_20
def xf_X4_keep (S : rs_St) (a1 : Int32) : Option (Int32 × rs_St) := rs_b1 (xf_X4_outside S a1 0 1) (fun r2 => if r2 = 0 then if a1 < 0 ∨ 2 ≤ a1.toNatClampNeg then none else rs_jn (fun (x5 : Int32) => if a1 < 0 ∨ 2 ≤ a1.toNatClampNeg then none else rs_b1 (xf_X1_copyFrom S (38 + 19 * a1.toNatClampNeg) 0) (fun S9 => if a1 < 0 ∨ 2 ≤ a1.toNatClampNeg then none else rs_lt (rs_si S9 78 a1.toNatClampNeg (vp_nar .boolean 1)) (fun S10 => some (x5, S10)))) (fun J6 => if (rs_gi S 78 a1.toNatClampNeg) = 0 then J6 0 else J6 1) else some ((-1), S))
set_option maxRecDepth 100000 in
theorem c_X4_keep (l : Launch) (G : rs_G) (hG : rs_ok G) (S : rs_St) (a1 : Int32)  (o : (Int32 × rs_St)) (h : xf_X4_keep S a1 = some o) : Met l yX4_keep (rs_wz yX4_keep cX4_keep 3 (some FieldType.int)) (rs_rm 4) (va_Pc [.ref (rs_ad G 76), .int a1] (rs_pre G S)) (va_Qi (fun r S2 => (r, S2) = o) (rs_post G) (rs_A G)) 0 0 (rs_A G) := by
  refine rs_met hG (by decide) (Nat.le_of_ble_eq_true rfl) ?_
  intro p e s m args below meth c C hr hlk
  rw [xf_X4_keep] at h
  refine rs_iload_n (i := 1) C dX4_keep_0 rfl rfl rfl ?_
  refine rs_iconst (v := 0) C dX4_keep_1 (by decide) rfl ?_
  refine rs_iconst (v := 1) C dX4_keep_2 (by decide) rfl ?_
  obtain ⟨r2, h1, h⟩ := rs_b1e h
  refine rs_callSi (r0 := r2) (S0 := S) C (c_X4_outside l G hG S a1 0 1 _ h1) ⟨wl_X4_45, ws_yX4_outside, wn_X4, wc_yX4_outside⟩ wy_yX4_outside (by decide) ⟨rfl, rfl⟩ rfl rfl (Nat.le_of_ble_eq_true rfl) dX4_keep_3 rfl ?_
  refine rs_if_eq (tgt := 11) C dX4_keep_6 (by decide) rfl (fun z3 => ?_) (fun z3 => ?_)
  · replace h := rs_it z3 h
    refine rs_aload_n (i := 0) C dX4_keep_11 rfl rfl rfl ?_
    refine rg_X4_3 C kk_76 wl_X4_23 dX4_keep_12 rfl ?_
    refine rs_iload_n (i := 1) C dX4_keep_15 rfl rfl rfl ?_
    obtain ⟨z4, h⟩ := rs_ck h
    refine rs_zaldn C kk_78 ll_78 z4 dX4_keep_16 rfl ?_
    refine rs_jw (P := fun J => ∀ (x5 : Int32), J x5 = some o → rs_Xi G 3 p l e (rs_rm 4) s m args below meth c o S 25 [(0, .ref (rs_ad G 76)), (1, .int a1)] [.int x5]) h (fun x5 h => ?_) (fun J6 KJ6 h => ?_)
    · refine rs_istore_n (i := 2) C dX4_keep_25 rfl (by decide) rfl ?_
      refine rs_aload_n (i := 0) C dX4_keep_26 rfl rfl rfl ?_
      refine rg_X4_2 C kk_76 wl_X4_19 dX4_keep_27 rfl ?_
      refine rs_iload_n (i := 1) C dX4_keep_30 rfl rfl rfl ?_
      obtain ⟨z7, h⟩ := rs_ck h
      refine rs_aald10 C kk_77 z7 dX4_keep_31 rfl ?_
      refine rs_aload_n (i := 0) C dX4_keep_32 rfl rfl rfl ?_
      refine rg_X4_0 C kk_76 wl_X4_10 dX4_keep_33 rfl ?_
      obtain ⟨S9, h8, h⟩ := rs_b1e h
      refine rs_callVv (S0 := S9) C (rs_kd_lt (rs_k10i z7) (by decide)) (rs_e1 (rs_k10i z7)) rfl (c_X1_copyFrom l G hG S (38 + 19 * a1.toNatClampNeg) 0 (rs_k10i z7) kk_0 _ h8) ⟨wl_X4_64, wi_yX1_copyFrom, wx_yX1_copyFrom, wn_X1, wc_yX1_copyFrom⟩ wy_yX1_copyFrom (by decide) ⟨rfl, rfl⟩ rfl rfl (Nat.le_of_ble_eq_true rfl) dX4_keep_36 rfl ?_
      refine rs_aload_n (i := 0) C dX4_keep_39 rfl rfl rfl ?_
      refine rg_X4_3 C kk_76 wl_X4_23 dX4_keep_40 rfl ?_
      refine rs_iload_n (i := 1) C dX4_keep_43 rfl rfl rfl ?_
      refine rs_iconst (v := 1) C dX4_keep_44 (by decide) rfl ?_
      obtain ⟨z11, h⟩ := rs_ck h
      refine rs_zastn C kk_78 ll_78 z11 dX4_keep_45 rfl h (fun S10 h => ?_)
      refine rs_iload_n (i := 2) C dX4_keep_46 rfl rfl rfl ?_
      exact rs_iret C hr hlk h dX4_keep_47
    · refine rs_if_eq (tgt := 24) C dX4_keep_17 (by decide) rfl (fun z12 => ?_) (fun z12 => ?_)
      · replace h := rs_it z12 h
        refine rs_iconst (v := 0) C dX4_keep_24 (by decide) rfl ?_
        exact rs_subk (KJ6 _ h) (rs_ac rfl (rs_ac rfl rs_a0))
      · replace h := rs_if z12 h
        refine rs_iconst (v := 1) C dX4_keep_20 (by decide) rfl ?_
        refine rs_goto (tgt := 25) C dX4_keep_21 (by decide) ?_
        exact rs_subk (KJ6 _ h) (rs_ac rfl (rs_ac rfl rs_a0))
  · replace h := rs_if z3 h
    refine rs_iconst (v := (-1)) C dX4_keep_9 (by decide) rfl ?_
    exact rs_iret C hr hlk h dX4_keep_10
def xf_X4_back (S : rs_St) (a1 : Int32) : Option (Int32 × rs_St) := rs_b1 (xf_X4_outside S a1 0 1) (fun r2 => if r2 = 0 then if a1 < 0 ∨ 2 ≤ a1.toNatClampNeg then none else if (rs_gi S 78 a1.toNatClampNeg) = 0 then some ((-2), S) else if a1 < 0 ∨ 2 ≤ a1.toNatClampNeg then none else rs_b1 (xf_X1_copyFrom S 0 (38 + 19 * a1.toNatClampNeg)) (fun S8 => some ((rs_gi S8 0 3), S8)) else some ((-1), S))
set_option maxRecDepth 100000 in
theorem c_X4_back (l : Launch) (G : rs_G) (hG : rs_ok G) (S : rs_St) (a1 : Int32)  (o : (Int32 × rs_St)) (h : xf_X4_back S a1 = some o) : Met l yX4_back (rs_wz yX4_back cX4_back 2 (some FieldType.int)) (rs_rm 4) (va_Pc [.ref (rs_ad G 76), .int a1] (rs_pre G S)) (va_Qi (fun r S2 => (r, S2) = o) (rs_post G) (rs_A G)) 0 0 (rs_A G) := by
  refine rs_met hG (by decide) (Nat.le_of_ble_eq_true rfl) ?_
  intro p e s m args below meth c C hr hlk
  rw [xf_X4_back] at h
  refine rs_iload_n (i := 1) C dX4_back_0 rfl rfl rfl ?_
  refine rs_iconst (v := 0) C dX4_back_1 (by decide) rfl ?_
  refine rs_iconst (v := 1) C dX4_back_2 (by decide) rfl ?_
  obtain ⟨r2, h1, h⟩ := rs_b1e h
  refine rs_callSi (r0 := r2) (S0 := S) C (c_X4_outside l G hG S a1 0 1 _ h1) ⟨wl_X4_45, ws_yX4_outside, wn_X4, wc_yX4_outside⟩ wy_yX4_outside (by decide) ⟨rfl, rfl⟩ rfl rfl (Nat.le_of_ble_eq_true rfl) dX4_back_3 rfl ?_
  refine rs_if_eq (tgt := 11) C dX4_back_6 (by decide) rfl (fun z3 => ?_) (fun z3 => ?_)
  · replace h := rs_it z3 h
    refine rs_aload_n (i := 0) C dX4_back_11 rfl rfl rfl ?_
    refine rg_X4_3 C kk_76 wl_X4_23 dX4_back_12 rfl ?_
    refine rs_iload_n (i := 1) C dX4_back_15 rfl rfl rfl ?_
    obtain ⟨z4, h⟩ := rs_ck h
    refine rs_zaldn C kk_78 ll_78 z4 dX4_back_16 rfl ?_
    refine rs_if_ne (tgt := 23) C dX4_back_17 (by decide) rfl (fun z5 => ?_) (fun z5 => ?_)
    · replace h := rs_if z5 h
      refine rs_aload_n (i := 0) C dX4_back_23 rfl rfl rfl ?_
      refine rg_X4_0 C kk_76 wl_X4_10 dX4_back_24 rfl ?_
      refine rs_aload_n (i := 0) C dX4_back_27 rfl rfl rfl ?_
      refine rg_X4_2 C kk_76 wl_X4_19 dX4_back_28 rfl ?_
      refine rs_iload_n (i := 1) C dX4_back_31 rfl rfl rfl ?_
      obtain ⟨z6, h⟩ := rs_ck h
      refine rs_aald10 C kk_77 z6 dX4_back_32 rfl ?_
      obtain ⟨S8, h7, h⟩ := rs_b1e h
      refine rs_callVv (S0 := S8) C (rs_kd_lt kk_0 (by decide)) (rs_e1 kk_0) rfl (c_X1_copyFrom l G hG S 0 (38 + 19 * a1.toNatClampNeg) kk_0 (rs_k10i z6) _ h7) ⟨wl_X4_64, wi_yX1_copyFrom, wx_yX1_copyFrom, wn_X1, wc_yX1_copyFrom⟩ wy_yX1_copyFrom (by decide) ⟨rfl, rfl⟩ rfl rfl (Nat.le_of_ble_eq_true rfl) dX4_back_33 rfl ?_
      refine rs_aload_n (i := 0) C dX4_back_36 rfl rfl rfl ?_
      refine rg_X4_0 C kk_76 wl_X4_10 dX4_back_37 rfl ?_
      refine rg_X1_3 C kk_0 wl_X4_74 dX4_back_40 rfl ?_
      exact rs_iret C hr hlk h dX4_back_43
    · replace h := rs_it z5 h
      refine rs_bipush (v := (-2)) C dX4_back_20 (by decide) rfl ?_
      exact rs_iret C hr hlk h dX4_back_22
  · replace h := rs_if z3 h
    refine rs_iconst (v := (-1)) C dX4_back_9 (by decide) rfl ?_
    exact rs_iret C hr hlk h dX4_back_10
def xf_X4_sheet (S : rs_St) (a1 : Int32) (a2 : Int32) (a3 : Int32) : Option (Int32 × rs_St) := rs_b1 (xf_X4_outside S a1 0 3) (fun r2 => if r2 = 0 then rs_b1 (xf_X4_outside S a2 0 2) (fun r5 => if r5 = 0 then if a3 ≤ 40 then if 0 ≤ a3 then if a1 < 0 ∨ 4 ≤ a1.toNatClampNeg then none else rs_b1 (xf_X2_renew S (83 + 2 * a1.toNatClampNeg) a2 a3) (fun S11 => some (1, S11)) else some ((-14), S) else some ((-1), S) else some ((-1), S)) else some ((-1), S))
set_option maxRecDepth 100000 in
theorem c_X4_sheet (l : Launch) (G : rs_G) (hG : rs_ok G) (S : rs_St) (a1 : Int32) (a2 : Int32) (a3 : Int32)  (o : (Int32 × rs_St)) (h : xf_X4_sheet S a1 a2 a3 = some o) : Met l yX4_sheet (rs_wz yX4_sheet cX4_sheet 4 (some FieldType.int)) (rs_rm 4) (va_Pc [.ref (rs_ad G 76), .int a1, .int a2, .int a3] (rs_pre G S)) (va_Qi (fun r S2 => (r, S2) = o) (rs_post G) (rs_A G)) 0 0 (rs_A G) := by
  refine rs_met hG (by decide) (Nat.le_of_ble_eq_true rfl) ?_
  intro p e s m args below meth c C hr hlk
  rw [xf_X4_sheet] at h
  refine rs_iload_n (i := 1) C dX4_sheet_0 rfl rfl rfl ?_
  refine rs_iconst (v := 0) C dX4_sheet_1 (by decide) rfl ?_
  refine rs_iconst (v := 3) C dX4_sheet_2 (by decide) rfl ?_
  obtain ⟨r2, h1, h⟩ := rs_b1e h
  refine rs_callSi (r0 := r2) (S0 := S) C (c_X4_outside l G hG S a1 0 3 _ h1) ⟨wl_X4_45, ws_yX4_outside, wn_X4, wc_yX4_outside⟩ wy_yX4_outside (by decide) ⟨rfl, rfl⟩ rfl rfl (Nat.le_of_ble_eq_true rfl) dX4_sheet_3 rfl ?_
  refine rs_if_ne (tgt := 24) C dX4_sheet_6 (by decide) rfl (fun z3 => ?_) (fun z3 => ?_)
  · replace h := rs_if z3 h
    refine rs_iconst (v := (-1)) C dX4_sheet_24 (by decide) rfl ?_
    exact rs_iret C hr hlk h dX4_sheet_25
  · replace h := rs_it z3 h
    refine rs_iload_n (i := 2) C dX4_sheet_9 rfl rfl rfl ?_
    refine rs_iconst (v := 0) C dX4_sheet_10 (by decide) rfl ?_
    refine rs_iconst (v := 2) C dX4_sheet_11 (by decide) rfl ?_
    obtain ⟨r5, h4, h⟩ := rs_b1e h
    refine rs_callSi (r0 := r5) (S0 := S) C (c_X4_outside l G hG S a2 0 2 _ h4) ⟨wl_X4_45, ws_yX4_outside, wn_X4, wc_yX4_outside⟩ wy_yX4_outside (by decide) ⟨rfl, rfl⟩ rfl rfl (Nat.le_of_ble_eq_true rfl) dX4_sheet_12 rfl ?_
    refine rs_if_ne (tgt := 24) C dX4_sheet_15 (by decide) rfl (fun z6 => ?_) (fun z6 => ?_)
    · replace h := rs_if z6 h
      refine rs_iconst (v := (-1)) C dX4_sheet_24 (by decide) rfl ?_
      exact rs_iret C hr hlk h dX4_sheet_25
    · replace h := rs_it z6 h
      refine rs_iload_n (i := 3) C dX4_sheet_18 rfl rfl rfl ?_
      refine rs_bipush (v := 40) C dX4_sheet_19 (by decide) rfl ?_
      refine rs_icmp_le (tgt := 26) C dX4_sheet_21 (by decide) rfl (fun z7 => ?_) (fun z7 => ?_)
      · replace h := rs_it z7 h
        refine rs_iload_n (i := 3) C dX4_sheet_26 rfl rfl rfl ?_
        refine rs_if_ge (tgt := 33) C dX4_sheet_27 (by decide) rfl (fun z8 => ?_) (fun z8 => ?_)
        · replace h := rs_it z8 h
          refine rs_aload_n (i := 0) C dX4_sheet_33 rfl rfl rfl ?_
          refine rg_X4_4 C kk_76 wl_X4_29 dX4_sheet_34 rfl ?_
          refine rs_iload_n (i := 1) C dX4_sheet_37 rfl rfl rfl ?_
          obtain ⟨z9, h⟩ := rs_ck h
          refine rs_aald11 C kk_79 z9 dX4_sheet_38 rfl ?_
          refine rs_iload_n (i := 2) C dX4_sheet_39 rfl rfl rfl ?_
          refine rs_iload_n (i := 3) C dX4_sheet_40 rfl rfl rfl ?_
          obtain ⟨S11, h10, h⟩ := rs_b1e h
          refine rs_callVv (S0 := S11) C (rs_kd_lt (rs_k11i z9) (by decide)) (rs_e2 (rs_k11i z9)) rfl (c_X2_renew l G hG S (83 + 2 * a1.toNatClampNeg) a2 a3 (rs_k11i z9) _ h10) ⟨wl_X4_205, wi_yX2_renew, wx_yX2_renew, wn_X2, wc_yX2_renew⟩ wy_yX2_renew (by decide) ⟨rfl, rfl⟩ rfl rfl (Nat.le_of_ble_eq_true rfl) dX4_sheet_41 rfl ?_
          refine rs_iconst (v := 1) C dX4_sheet_44 (by decide) rfl ?_
          exact rs_iret C hr hlk h dX4_sheet_45
        · replace h := rs_if z8 h
          refine rs_bipush (v := (-14)) C dX4_sheet_30 (by decide) rfl ?_
          exact rs_iret C hr hlk h dX4_sheet_32
      · replace h := rs_if z7 h
        refine rs_iconst (v := (-1)) C dX4_sheet_24 (by decide) rfl ?_
        exact rs_iret C hr hlk h dX4_sheet_25
def xf_X4_lay (S : rs_St) (a1 : Int32) (a2 : Int32) (a3 : Int32) : Option (Int32 × rs_St) := rs_b1 (xf_X4_outside S a1 0 3) (fun r2 => if r2 = 0 then if a1 < 0 ∨ 4 ≤ a1.toNatClampNeg then none else rs_b1 (xf_X2_faultAt S (83 + 2 * a1.toNatClampNeg) a2) (fun r6 => if r6 = 0 then if a1 < 0 ∨ 4 ≤ a1.toNatClampNeg then none else rs_b1 (xf_X2_store S (83 + 2 * a1.toNatClampNeg) a2 a3) (fun S10 => some (1, S10)) else some (((-10) - r6), S)) else some ((-1), S))
set_option maxRecDepth 100000 in
theorem c_X4_lay (l : Launch) (G : rs_G) (hG : rs_ok G) (S : rs_St) (a1 : Int32) (a2 : Int32) (a3 : Int32)  (o : (Int32 × rs_St)) (h : xf_X4_lay S a1 a2 a3 = some o) : Met l yX4_lay (rs_wz yX4_lay cX4_lay 5 (some FieldType.int)) (rs_rm 4) (va_Pc [.ref (rs_ad G 76), .int a1, .int a2, .int a3] (rs_pre G S)) (va_Qi (fun r S2 => (r, S2) = o) (rs_post G) (rs_A G)) 0 0 (rs_A G) := by
  refine rs_met hG (by decide) (Nat.le_of_ble_eq_true rfl) ?_
  intro p e s m args below meth c C hr hlk
  rw [xf_X4_lay] at h
  refine rs_iload_n (i := 1) C dX4_lay_0 rfl rfl rfl ?_
  refine rs_iconst (v := 0) C dX4_lay_1 (by decide) rfl ?_
  refine rs_iconst (v := 3) C dX4_lay_2 (by decide) rfl ?_
  obtain ⟨r2, h1, h⟩ := rs_b1e h
  refine rs_callSi (r0 := r2) (S0 := S) C (c_X4_outside l G hG S a1 0 3 _ h1) ⟨wl_X4_45, ws_yX4_outside, wn_X4, wc_yX4_outside⟩ wy_yX4_outside (by decide) ⟨rfl, rfl⟩ rfl rfl (Nat.le_of_ble_eq_true rfl) dX4_lay_3 rfl ?_
  refine rs_if_eq (tgt := 11) C dX4_lay_6 (by decide) rfl (fun z3 => ?_) (fun z3 => ?_)
  · replace h := rs_it z3 h
    refine rs_aload_n (i := 0) C dX4_lay_11 rfl rfl rfl ?_
    refine rg_X4_4 C kk_76 wl_X4_29 dX4_lay_12 rfl ?_
    refine rs_iload_n (i := 1) C dX4_lay_15 rfl rfl rfl ?_
    obtain ⟨z4, h⟩ := rs_ck h
    refine rs_aald11 C kk_79 z4 dX4_lay_16 rfl ?_
    refine rs_iload_n (i := 2) C dX4_lay_17 rfl rfl rfl ?_
    obtain ⟨r6, h5, h⟩ := rs_b1e h
    refine rs_callVi (r0 := r6) (S0 := S) C (rs_kd_lt (rs_k11i z4) (by decide)) (rs_e2 (rs_k11i z4)) rfl (c_X2_faultAt l G hG S (83 + 2 * a1.toNatClampNeg) a2 (rs_k11i z4) _ h5) ⟨wl_X4_208, wi_yX2_faultAt, wx_yX2_faultAt, wn_X2, wc_yX2_faultAt⟩ wy_yX2_faultAt (by decide) ⟨rfl, rfl⟩ rfl rfl (Nat.le_of_ble_eq_true rfl) dX4_lay_18 rfl ?_
    refine rs_istore C dX4_lay_21 (by decide) rfl ?_
    refine rs_iload C dX4_lay_23 rfl rfl ?_
    refine rs_if_eq (tgt := 34) C dX4_lay_25 (by decide) rfl (fun z7 => ?_) (fun z7 => ?_)
    · replace h := rs_it z7 h
      refine rs_aload_n (i := 0) C dX4_lay_34 rfl rfl rfl ?_
      refine rg_X4_4 C kk_76 wl_X4_29 dX4_lay_35 rfl ?_
      refine rs_iload_n (i := 1) C dX4_lay_38 rfl rfl rfl ?_
      obtain ⟨z8, h⟩ := rs_ck h
      refine rs_aald11 C kk_79 z8 dX4_lay_39 rfl ?_
      refine rs_iload_n (i := 2) C dX4_lay_40 rfl rfl rfl ?_
      refine rs_iload_n (i := 3) C dX4_lay_41 rfl rfl rfl ?_
      obtain ⟨S10, h9, h⟩ := rs_b1e h
      refine rs_callVv (S0 := S10) C (rs_kd_lt (rs_k11i z8) (by decide)) (rs_e2 (rs_k11i z8)) rfl (c_X2_store l G hG S (83 + 2 * a1.toNatClampNeg) a2 a3 (rs_k11i z8) _ h9) ⟨wl_X4_211, wi_yX2_store, wx_yX2_store, wn_X2, wc_yX2_store⟩ wy_yX2_store (by decide) ⟨rfl, rfl⟩ rfl rfl (Nat.le_of_ble_eq_true rfl) dX4_lay_42 rfl ?_
      refine rs_iconst (v := 1) C dX4_lay_45 (by decide) rfl ?_
      exact rs_iret C hr hlk h dX4_lay_46
    · replace h := rs_if z7 h
      refine rs_bipush (v := (-10)) C dX4_lay_28 (by decide) rfl ?_
      refine rs_iload C dX4_lay_30 rfl rfl ?_
      refine rs_isub C dX4_lay_32 rfl ?_
      exact rs_iret C hr hlk h dX4_lay_33
  · replace h := rs_if z3 h
    refine rs_iconst (v := (-1)) C dX4_lay_9 (by decide) rfl ?_
    exact rs_iret C hr hlk h dX4_lay_10
def xf_X4_isPhaseOfLamp (S : rs_St) (a1 : Nat) (a2 : Int32) : Option Int32 := if a2 < 0 ∨ 40 ≤ a2.toNatClampNeg then none else rs_b1 (xf_X1_lampAt S 0 (rs_gi S (a1 + 1) a2.toNatClampNeg)) (fun r3 => rs_om r3 (some 0) (fun q4 => if rs_kd q4 = 0 then if (a2 + 1) < 0 ∨ 40 ≤ (a2 + 1).toNatClampNeg then none else rs_b1 (xf_X4_isPart S 3 (rs_gi S (a1 + 1) (a2 + 1).toNatClampNeg)) (fun r8 => if r8 = 0 then some 0 else some 1) else none))
set_option maxRecDepth 100000 in
theorem c_X4_isPhaseOfLamp (l : Launch) (G : rs_G) (hG : rs_ok G) (S : rs_St) (a1 : Nat) (a2 : Int32) (hk1 : rs_kd a1 = 2) (o : Int32) (h : xf_X4_isPhaseOfLamp S a1 a2 = some o) : Met l yX4_isPhaseOfLamp (rs_wz yX4_isPhaseOfLamp cX4_isPhaseOfLamp 3 (some FieldType.boolean)) (rs_rm 3) (va_Pc [.ref (rs_ad G 76), .ref (rs_ad G a1), .int a2] (rs_pre G S)) (va_Qi (fun r S2 => (r, S2) = (o, S)) (rs_post G) (rs_A G)) 0 0 (rs_A G) := by
  refine rs_met hG (by decide) (Nat.le_of_ble_eq_true rfl) ?_
  intro p e s m args below meth c C hr hlk
  rw [xf_X4_isPhaseOfLamp] at h
  refine rs_aload_n (i := 0) C dX4_isPhaseOfLamp_0 rfl rfl rfl ?_
  refine rg_X4_0 C kk_76 wl_X4_10 dX4_isPhaseOfLamp_1 rfl ?_
  refine rs_aload_n (i := 1) C dX4_isPhaseOfLamp_4 rfl rfl rfl ?_
  refine rg_X2_0 C hk1 wl_X4_247 dX4_isPhaseOfLamp_5 rfl ?_
  refine rs_iload_n (i := 2) C dX4_isPhaseOfLamp_8 rfl rfl rfl ?_
  obtain ⟨z1, h⟩ := rs_ck h
  refine rs_ialdn C (rs_k2a hk1) (rs_l2a hk1) z1 dX4_isPhaseOfLamp_9 rfl ?_
  obtain ⟨r3, h2, h⟩ := rs_b1e h
  refine rs_callVq (r0 := r3) (mp := rs_ad G) (S0 := S) C (rs_kd_lt kk_0 (by decide)) (rs_e1 kk_0) rfl (c_X1_lampAt l G hG S 0 (rs_gi S (a1 + 1) a2.toNatClampNeg) kk_0 _ h2) ⟨wl_X4_84, wi_yX1_lampAt, wx_yX1_lampAt, wn_X1, wc_yX1_lampAt⟩ wy_yX1_lampAt (by decide) ⟨rfl, rfl⟩ rfl rfl (Nat.le_of_ble_eq_true rfl) dX4_isPhaseOfLamp_10 rfl ?_
  cases r3 with
  | none =>
    replace h := rs_omn h
    refine rs_ifnull_n (tgt := 35) C dX4_isPhaseOfLamp_13 (by decide) ?_
    refine rs_iconst (v := 0) C dX4_isPhaseOfLamp_35 (by decide) rfl ?_
    exact rs_zret C hr hlk (Or.inl rfl) (rs_pr h) dX4_isPhaseOfLamp_36
  | some q4 =>
    replace h := rs_oms h
    obtain ⟨z5, h⟩ := rs_ckp h
    refine rs_ifnull_r C dX4_isPhaseOfLamp_13 rfl ?_
    refine rs_iconst (v := 3) C dX4_isPhaseOfLamp_16 (by decide) rfl ?_
    refine rs_aload_n (i := 1) C dX4_isPhaseOfLamp_17 rfl rfl rfl ?_
    refine rg_X2_0 C hk1 wl_X4_247 dX4_isPhaseOfLamp_18 rfl ?_
    refine rs_iload_n (i := 2) C dX4_isPhaseOfLamp_21 rfl rfl rfl ?_
    refine rs_iconst (v := 1) C dX4_isPhaseOfLamp_22 (by decide) rfl ?_
    refine rs_iadd C dX4_isPhaseOfLamp_23 rfl ?_
    obtain ⟨z6, h⟩ := rs_ck h
    refine rs_ialdn C (rs_k2a hk1) (rs_l2a hk1) z6 dX4_isPhaseOfLamp_24 rfl ?_
    obtain ⟨r8, h7, h⟩ := rs_b1e h
    refine rs_callSi (r0 := r8) (S0 := S) C (c_X4_isPart l G hG S 3 (rs_gi S (a1 + 1) (a2 + 1).toNatClampNeg) _ h7) ⟨wl_X4_103, ws_yX4_isPart, wn_X4, wc_yX4_isPart⟩ wy_yX4_isPart (by decide) ⟨rfl, rfl⟩ rfl rfl (Nat.le_of_ble_eq_true rfl) dX4_isPhaseOfLamp_25 rfl ?_
    refine rs_if_eq (tgt := 35) C dX4_isPhaseOfLamp_28 (by decide) rfl (fun z9 => ?_) (fun z9 => ?_)
    · replace h := rs_it z9 h
      refine rs_iconst (v := 0) C dX4_isPhaseOfLamp_35 (by decide) rfl ?_
      exact rs_zret C hr hlk (Or.inl rfl) (rs_pr h) dX4_isPhaseOfLamp_36
    · replace h := rs_if z9 h
      refine rs_iconst (v := 1) C dX4_isPhaseOfLamp_31 (by decide) rfl ?_
      refine rs_goto (tgt := 36) C dX4_isPhaseOfLamp_32 (by decide) ?_
      exact rs_zret C hr hlk (Or.inr rfl) (rs_pr h) dX4_isPhaseOfLamp_36
def xf_X4_takePhases_l3 (a1 : Nat) (a2 : Int32) (a3 : Int32) (K3 : rs_St → Int32 → Option rs_St) : Nat → rs_St → Int32 → Option rs_St
  | 0, _, _ => none
  | n3 + 1, S1, x2 => if a3 ≤ x2 then K3 S1 x2 else rs_lt (a2 + (2 * x2)) (fun x4 => if x4 < 0 ∨ 40 ≤ x4.toNatClampNeg then none else if (rs_gi S1 (a1 + 1) x4.toNatClampNeg) < 0 ∨ 4 ≤ (rs_gi S1 (a1 + 1) x4.toNatClampNeg).toNatClampNeg then none else if (x4 + 1) < 0 ∨ 40 ≤ (x4 + 1).toNatClampNeg then none else rs_b1 (xf_X0_become S1 ((0 + 1) + 6 + 3 * (rs_gi S1 (a1 + 1) x4.toNatClampNeg).toNatClampNeg) 3 (rs_gi S1 (a1 + 1) (x4 + 1).toNatClampNeg)) (fun S9 => rs_lt (x2 + 1) (fun x10 => xf_X4_takePhases_l3 a1 a2 a3 K3 n3 S9 x10)))
def xf_X4_takePhases (S : rs_St) (a1 : Nat) (a2 : Int32) (a3 : Int32) : Option rs_St := xf_X4_takePhases_l3 a1 a2 a3 (fun (S11 : rs_St) (x12 : Int32) => some S11) rs_fu S 0
set_option maxRecDepth 100000 in
theorem c_X4_takePhases (l : Launch) (G : rs_G) (hG : rs_ok G) (S : rs_St) (a1 : Nat) (a2 : Int32) (a3 : Int32) (hk1 : rs_kd a1 = 2) (o : rs_St) (h : xf_X4_takePhases S a1 a2 a3 = some o) : Met l yX4_takePhases (rs_wz yX4_takePhases cX4_takePhases 6 none) (rs_rm 5) (va_Pc [.ref (rs_ad G 76), .ref (rs_ad G a1), .int a2, .int a3] (rs_pre G S)) (va_Qv (fun S2 => S2 = o) (rs_post G) (rs_A G)) 0 0 (rs_A G) := by
  refine rs_met hG (by decide) (Nat.le_of_ble_eq_true rfl) ?_
  intro p e s m args below meth c C hr hlk
  rw [xf_X4_takePhases] at h
  refine rs_iconst (v := 0) C dX4_takePhases_0 (by decide) rfl ?_
  refine rs_istore C dX4_takePhases_1 (by decide) rfl ?_
  refine rs_kw (F := fun K => xf_X4_takePhases_l3 a1 a2 a3 K rs_fu S 0) (P := fun K => ∀ (S11 : rs_St) (x12 : Int32), K S11 x12 = some o → rs_Xv G 6 p l e (rs_rm 5) s m args below meth c o S11 51 [(0, .ref (rs_ad G 76)), (1, .ref (rs_ad G a1)), (2, .int a2), (3, .int a3), (4, .int x12)] []) h (fun S11 x12 h => ?_) (fun K3 hK3 h => ?_)
  · exact rs_vret C hr hlk h dX4_takePhases_51
  · have L3 : ∀ (n3 : Nat) (S1 : rs_St) (x2 : Int32), xf_X4_takePhases_l3 a1 a2 a3 K3 n3 S1 x2 = some o → rs_Xv G 6 p l e (rs_rm 5) s m args below meth c o S1 3 [(0, .ref (rs_ad G 76)), (1, .ref (rs_ad G a1)), (2, .int a2), (3, .int a3), (4, .int x2)] [] := by
      intro n3
      induction n3 with
      | zero => intro S1 x2 h; exact (rs_no h).elim
      | succ n3 ih3 =>
        intro S1 x2 h
        rw [xf_X4_takePhases_l3] at h
        refine rs_iload C dX4_takePhases_3 rfl rfl ?_
        refine rs_iload_n (i := 3) C dX4_takePhases_5 rfl rfl rfl ?_
        refine rs_icmp_ge (tgt := 51) C dX4_takePhases_6 (by decide) rfl (fun z3 => ?_) (fun z3 => ?_)
        · replace h := rs_it z3 h
          exact rs_subk (hK3 _ _ h) (rs_ac rfl (rs_ac rfl (rs_ac rfl (rs_ac rfl (rs_ac rfl rs_a0)))))
        · replace h := rs_if z3 h
          refine rs_iload_n (i := 2) C dX4_takePhases_9 rfl rfl rfl ?_
          refine rs_iconst (v := 2) C dX4_takePhases_10 (by decide) rfl ?_
          refine rs_iload C dX4_takePhases_11 rfl rfl ?_
          refine rs_imul C dX4_takePhases_13 rfl ?_
          refine rs_iadd C dX4_takePhases_14 rfl ?_
          refine rs_nmi h (fun x4 h => ?_)
          refine rs_istore C dX4_takePhases_15 (by decide) rfl ?_
          refine rs_aload_n (i := 0) C dX4_takePhases_17 rfl rfl rfl ?_
          refine rg_X4_0 C kk_76 wl_X4_10 dX4_takePhases_18 rfl ?_
          refine rg_X1_0 C kk_0 wl_X4_158 dX4_takePhases_21 rfl ?_
          refine rs_aload_n (i := 1) C dX4_takePhases_24 rfl rfl rfl ?_
          refine rg_X2_0 C hk1 wl_X4_247 dX4_takePhases_25 rfl ?_
          refine rs_iload C dX4_takePhases_28 rfl rfl ?_
          obtain ⟨z5, h⟩ := rs_ck h
          refine rs_ialdn C (rs_k2a hk1) (rs_l2a hk1) z5 dX4_takePhases_30 rfl ?_
          obtain ⟨z6, h⟩ := rs_ck h
          refine rs_aald9 C (rs_k1a kk_0) z6 dX4_takePhases_31 rfl ?_
          refine rs_iconst (v := 3) C dX4_takePhases_32 (by decide) rfl ?_
          refine rs_aload_n (i := 1) C dX4_takePhases_33 rfl rfl rfl ?_
          refine rg_X2_0 C hk1 wl_X4_247 dX4_takePhases_34 rfl ?_
          refine rs_iload C dX4_takePhases_37 rfl rfl ?_
          refine rs_iconst (v := 1) C dX4_takePhases_39 (by decide) rfl ?_
          refine rs_iadd C dX4_takePhases_40 rfl ?_
          obtain ⟨z7, h⟩ := rs_ck h
          refine rs_ialdn C (rs_k2a hk1) (rs_l2a hk1) z7 dX4_takePhases_41 rfl ?_
          obtain ⟨S9, h8, h⟩ := rs_b1e h
          refine rs_callVv (S0 := S9) C (rs_kd_lt (rs_k9i (rs_k1a kk_0) z6) (by decide)) (rs_e0 (rs_k9i (rs_k1a kk_0) z6)) rfl (c_X0_become l G hG S1 ((0 + 1) + 6 + 3 * (rs_gi S1 (a1 + 1) x4.toNatClampNeg).toNatClampNeg) 3 (rs_gi S1 (a1 + 1) (x4 + 1).toNatClampNeg) (rs_k9i (rs_k1a kk_0) z6) _ h8) ⟨wl_X4_107, wi_yX0_become, wx_yX0_become, wn_X0, wc_yX0_become⟩ wy_yX0_become (by decide) ⟨rfl, rfl⟩ rfl rfl (Nat.le_of_ble_eq_true rfl) dX4_takePhases_42 rfl ?_
          refine rs_iincn (v := 1) C dX4_takePhases_45 rfl (by decide) (by decide) rfl h (fun x10 h => ?_)
          refine rs_goto (tgt := 3) C dX4_takePhases_48 (by decide) ?_
          exact rs_subk (ih3 _ _ h) (rs_ac rfl (rs_ac rfl (rs_ac rfl (rs_ac rfl (rs_ac rfl rs_a0)))))
    exact rs_subk (L3 rs_fu _ _ h) (rs_ac rfl (rs_ac rfl (rs_ac rfl (rs_ac rfl (rs_ac rfl rs_a0)))))
def xf_X4_read_l48 (S : rs_St) (a1 : Int32) (a2 : Int32) (a3 : Int32) (a4 : Int32) (K48 : Int32 → Int32 → Int32 → Option (Int32 × rs_St)) : Nat → Int32 → Int32 → Int32 → Option (Int32 × rs_St)
  | 0, _, _, _ => none
  | n48 + 1, x11, x12, x13 => if a4 ≤ x13 then K48 x11 x12 x13 else if x11 = 0 then rs_lt (a3 + (2 * x13)) (fun x16 => rs_b1 (xf_X2_faultOfPair S (83 + 2 * a1.toNatClampNeg) a2 x16) (fun r18 => rs_jn (fun (x19 : Int32) => rs_lt (x13 + 1) (fun x21 => xf_X4_read_l48 S a1 a2 a3 a4 K48 n48 r18 x19 x21)) (fun J20 => if r18 = 0 then rs_b1 (xf_X4_isPhaseOfLamp S (83 + 2 * a1.toNatClampNeg) x16) (fun r24 => if r24 = 0 then some (((-20) - x13), S) else rs_lt (x12 + 1) (fun x26 => J20 x26)) else J20 x12))) else K48 x11 x12 x13
def xf_X4_read (S : rs_St) (a1 : Int32) (a2 : Int32) (a3 : Int32) (a4 : Int32) : Option (Int32 × rs_St) := rs_b1 (xf_X4_outside S a1 0 3) (fun r2 => if r2 = 0 then rs_b1 (xf_X4_outside S a2 0 2) (fun r5 => if r5 = 0 then rs_b1 (xf_X4_outside S a4 0 20) (fun r8 => if r8 = 0 then if a1 < 0 ∨ 4 ≤ a1.toNatClampNeg then none else xf_X4_read_l48 S a1 a2 a3 a4 (fun (x27 : Int32) (x28 : Int32) (x29 : Int32) => rs_lt (rs_si S 76 7 x27) (fun S30 => rs_b1 (xf_X4_takePhases S30 (83 + 2 * a1.toNatClampNeg) a3 x28) (fun S32 => some (x28, S32)))) rs_fu 0 0 0 else some ((-1), S)) else some ((-1), S)) else some ((-1), S))
set_option maxRecDepth 100000 in
theorem c_X4_read (l : Launch) (G : rs_G) (hG : rs_ok G) (S : rs_St) (a1 : Int32) (a2 : Int32) (a3 : Int32) (a4 : Int32)  (o : (Int32 × rs_St)) (h : xf_X4_read S a1 a2 a3 a4 = some o) : Met l yX4_read (rs_wz yX4_read cX4_read 10 (some FieldType.int)) (rs_rm 6) (va_Pc [.ref (rs_ad G 76), .int a1, .int a2, .int a3, .int a4] (rs_pre G S)) (va_Qi (fun r S2 => (r, S2) = o) (rs_post G) (rs_A G)) 0 0 (rs_A G) := by
  refine rs_met hG (by decide) (Nat.le_of_ble_eq_true rfl) ?_
  intro p e s m args below meth c C hr hlk
  rw [xf_X4_read] at h
  refine rs_iload_n (i := 1) C dX4_read_0 rfl rfl rfl ?_
  refine rs_iconst (v := 0) C dX4_read_1 (by decide) rfl ?_
  refine rs_iconst (v := 3) C dX4_read_2 (by decide) rfl ?_
  obtain ⟨r2, h1, h⟩ := rs_b1e h
  refine rs_callSi (r0 := r2) (S0 := S) C (c_X4_outside l G hG S a1 0 3 _ h1) ⟨wl_X4_45, ws_yX4_outside, wn_X4, wc_yX4_outside⟩ wy_yX4_outside (by decide) ⟨rfl, rfl⟩ rfl rfl (Nat.le_of_ble_eq_true rfl) dX4_read_3 rfl ?_
  refine rs_if_ne (tgt := 29) C dX4_read_6 (by decide) rfl (fun z3 => ?_) (fun z3 => ?_)
  · replace h := rs_if z3 h
    refine rs_iconst (v := (-1)) C dX4_read_29 (by decide) rfl ?_
    exact rs_iret C hr hlk h dX4_read_30
  · replace h := rs_it z3 h
    refine rs_iload_n (i := 2) C dX4_read_9 rfl rfl rfl ?_
    refine rs_iconst (v := 0) C dX4_read_10 (by decide) rfl ?_
    refine rs_iconst (v := 2) C dX4_read_11 (by decide) rfl ?_
    obtain ⟨r5, h4, h⟩ := rs_b1e h
    refine rs_callSi (r0 := r5) (S0 := S) C (c_X4_outside l G hG S a2 0 2 _ h4) ⟨wl_X4_45, ws_yX4_outside, wn_X4, wc_yX4_outside⟩ wy_yX4_outside (by decide) ⟨rfl, rfl⟩ rfl rfl (Nat.le_of_ble_eq_true rfl) dX4_read_12 rfl ?_
    refine rs_if_ne (tgt := 29) C dX4_read_15 (by decide) rfl (fun z6 => ?_) (fun z6 => ?_)
    · replace h := rs_if z6 h
      refine rs_iconst (v := (-1)) C dX4_read_29 (by decide) rfl ?_
      exact rs_iret C hr hlk h dX4_read_30
    · replace h := rs_it z6 h
      refine rs_iload C dX4_read_18 rfl rfl ?_
      refine rs_iconst (v := 0) C dX4_read_20 (by decide) rfl ?_
      refine rs_bipush (v := 20) C dX4_read_21 (by decide) rfl ?_
      obtain ⟨r8, h7, h⟩ := rs_b1e h
      refine rs_callSi (r0 := r8) (S0 := S) C (c_X4_outside l G hG S a4 0 20 _ h7) ⟨wl_X4_45, ws_yX4_outside, wn_X4, wc_yX4_outside⟩ wy_yX4_outside (by decide) ⟨rfl, rfl⟩ rfl rfl (Nat.le_of_ble_eq_true rfl) dX4_read_23 rfl ?_
      refine rs_if_eq (tgt := 31) C dX4_read_26 (by decide) rfl (fun z9 => ?_) (fun z9 => ?_)
      · replace h := rs_it z9 h
        refine rs_aload_n (i := 0) C dX4_read_31 rfl rfl rfl ?_
        refine rg_X4_4 C kk_76 wl_X4_29 dX4_read_32 rfl ?_
        refine rs_iload_n (i := 1) C dX4_read_35 rfl rfl rfl ?_
        obtain ⟨z10, h⟩ := rs_ck h
        refine rs_aald11 C kk_79 z10 dX4_read_36 rfl ?_
        refine rs_astore C dX4_read_37 (by decide) rfl ?_
        refine rs_iconst (v := 0) C dX4_read_39 (by decide) rfl ?_
        refine rs_istore C dX4_read_40 (by decide) rfl ?_
        refine rs_iconst (v := 0) C dX4_read_42 (by decide) rfl ?_
        refine rs_istore C dX4_read_43 (by decide) rfl ?_
        refine rs_iconst (v := 0) C dX4_read_45 (by decide) rfl ?_
        refine rs_istore C dX4_read_46 (by decide) rfl ?_
        refine rs_kw (F := fun K => xf_X4_read_l48 S a1 a2 a3 a4 K rs_fu 0 0 0) (P := fun K => ∀ (x27 : Int32) (x28 : Int32) (x29 : Int32), K x27 x28 x29 = some o → rs_Xi G 10 p l e (rs_rm 6) s m args below meth c o S 109 [(0, .ref (rs_ad G 76)), (1, .int a1), (2, .int a2), (3, .int a3), (4, .int a4), (5, .ref (rs_ad G (83 + 2 * a1.toNatClampNeg))), (6, .int x27), (7, .int x28), (8, .int x29)] []) h (fun x27 x28 x29 h => ?_) (fun K48 hK48 h => ?_)
        · refine rs_aload_n (i := 0) C dX4_read_109 rfl rfl rfl ?_
          refine rs_iload C dX4_read_110 rfl rfl ?_
          refine rp_X4_7 C kk_76 wl_X4_221 dX4_read_112 rfl h (fun S30 h => ?_)
          refine rs_aload_n (i := 0) C dX4_read_115 rfl rfl rfl ?_
          refine rs_aload C dX4_read_116 rfl rfl ?_
          refine rs_iload_n (i := 3) C dX4_read_118 rfl rfl rfl ?_
          refine rs_iload C dX4_read_119 rfl rfl ?_
          obtain ⟨S32, h31, h⟩ := rs_b1e h
          refine rs_callVv (S0 := S32) C (rs_kd_lt kk_76 (by decide)) (rs_e4 kk_76) rfl (c_X4_takePhases l G hG S30 (83 + 2 * a1.toNatClampNeg) a3 x28 (rs_k11i z10) _ h31) ⟨wl_X4_224, wi_yX4_takePhases, wx_yX4_takePhases, wn_X4, wc_yX4_takePhases⟩ wy_yX4_takePhases (by decide) ⟨rfl, rfl⟩ rfl rfl (Nat.le_of_ble_eq_true rfl) dX4_read_121 rfl ?_
          refine rs_iload C dX4_read_124 rfl rfl ?_
          exact rs_iret C hr hlk h dX4_read_126
        · have L48 : ∀ (n48 : Nat) (x11 : Int32) (x12 : Int32) (x13 : Int32), xf_X4_read_l48 S a1 a2 a3 a4 K48 n48 x11 x12 x13 = some o → rs_Xi G 10 p l e (rs_rm 6) s m args below meth c o S 48 [(0, .ref (rs_ad G 76)), (1, .int a1), (2, .int a2), (3, .int a3), (4, .int a4), (5, .ref (rs_ad G (83 + 2 * a1.toNatClampNeg))), (6, .int x11), (7, .int x12), (8, .int x13)] [] := by
            intro n48
            induction n48 with
            | zero => intro x11 x12 x13 h; exact (rs_no h).elim
            | succ n48 ih48 =>
              intro x11 x12 x13 h
              rw [xf_X4_read_l48] at h
              refine rs_iload C dX4_read_48 rfl rfl ?_
              refine rs_iload C dX4_read_50 rfl rfl ?_
              refine rs_icmp_ge (tgt := 109) C dX4_read_52 (by decide) rfl (fun z14 => ?_) (fun z14 => ?_)
              · replace h := rs_it z14 h
                exact rs_subk (hK48 _ _ _ h) (rs_ac rfl (rs_ac rfl (rs_ac rfl (rs_ac rfl (rs_ac rfl (rs_ac rfl (rs_ac rfl (rs_ac rfl (rs_ac rfl rs_a0)))))))))
              · replace h := rs_if z14 h
                refine rs_iload C dX4_read_55 rfl rfl ?_
                refine rs_if_ne (tgt := 109) C dX4_read_57 (by decide) rfl (fun z15 => ?_) (fun z15 => ?_)
                · replace h := rs_if z15 h
                  exact rs_subk (hK48 _ _ _ h) (rs_ac rfl (rs_ac rfl (rs_ac rfl (rs_ac rfl (rs_ac rfl (rs_ac rfl (rs_ac rfl (rs_ac rfl (rs_ac rfl rs_a0)))))))))
                · replace h := rs_it z15 h
                  refine rs_iload_n (i := 3) C dX4_read_60 rfl rfl rfl ?_
                  refine rs_iconst (v := 2) C dX4_read_61 (by decide) rfl ?_
                  refine rs_iload C dX4_read_62 rfl rfl ?_
                  refine rs_imul C dX4_read_64 rfl ?_
                  refine rs_iadd C dX4_read_65 rfl ?_
                  refine rs_nmi h (fun x16 h => ?_)
                  refine rs_istore C dX4_read_66 (by decide) rfl ?_
                  refine rs_aload C dX4_read_68 rfl rfl ?_
                  refine rs_iload_n (i := 2) C dX4_read_70 rfl rfl rfl ?_
                  refine rs_iload C dX4_read_71 rfl rfl ?_
                  obtain ⟨r18, h17, h⟩ := rs_b1e h
                  refine rs_callVi (r0 := r18) (S0 := S) C (rs_kd_lt (rs_k11i z10) (by decide)) (rs_e2 (rs_k11i z10)) rfl (c_X2_faultOfPair l G hG S (83 + 2 * a1.toNatClampNeg) a2 x16 (rs_k11i z10) _ h17) ⟨wl_X4_214, wi_yX2_faultOfPair, wx_yX2_faultOfPair, wn_X2, wc_yX2_faultOfPair⟩ wy_yX2_faultOfPair (by decide) ⟨rfl, rfl⟩ rfl rfl (Nat.le_of_ble_eq_true rfl) dX4_read_73 rfl ?_
                  refine rs_istore C dX4_read_76 (by decide) rfl ?_
                  refine rs_iload C dX4_read_78 rfl rfl ?_
                  refine rs_jw (P := fun J => ∀ (x19 : Int32), J x19 = some o → rs_Xi G 10 p l e (rs_rm 6) s m args below meth c o S 103 [(0, .ref (rs_ad G 76)), (1, .int a1), (2, .int a2), (3, .int a3), (4, .int a4), (5, .ref (rs_ad G (83 + 2 * a1.toNatClampNeg))), (6, .int r18), (7, .int x19), (8, .int x13), (9, .int x16)] []) h (fun x19 h => ?_) (fun J20 KJ20 h => ?_)
                  · refine rs_iincn (v := 1) C dX4_read_103 rfl (by decide) (by decide) rfl h (fun x21 h => ?_)
                    refine rs_goto (tgt := 48) C dX4_read_106 (by decide) ?_
                    exact rs_subk (ih48 _ _ _ h) (rs_ac rfl (rs_ac rfl (rs_ac rfl (rs_ac rfl (rs_ac rfl (rs_ac rfl (rs_ac rfl (rs_ac rfl (rs_ac rfl rs_a0)))))))))
                  · refine rs_if_ne (tgt := 103) C dX4_read_80 (by decide) rfl (fun z22 => ?_) (fun z22 => ?_)
                    · replace h := rs_if z22 h
                      exact rs_subk (KJ20 _ h) (rs_ac rfl (rs_ac rfl (rs_ac rfl (rs_ac rfl (rs_ac rfl (rs_ac rfl (rs_ac rfl (rs_ac rfl (rs_ac rfl (rs_ac rfl rs_a0))))))))))
                    · replace h := rs_it z22 h
                      refine rs_aload_n (i := 0) C dX4_read_83 rfl rfl rfl ?_
                      refine rs_aload C dX4_read_84 rfl rfl ?_
                      refine rs_iload C dX4_read_86 rfl rfl ?_
                      obtain ⟨r24, h23, h⟩ := rs_b1e h
                      refine rs_callVi (r0 := r24) (S0 := S) C (rs_kd_lt kk_76 (by decide)) (rs_e4 kk_76) rfl (c_X4_isPhaseOfLamp l G hG S (83 + 2 * a1.toNatClampNeg) x16 (rs_k11i z10) _ h23) ⟨wl_X4_217, wi_yX4_isPhaseOfLamp, wx_yX4_isPhaseOfLamp, wn_X4, wc_yX4_isPhaseOfLamp⟩ wy_yX4_isPhaseOfLamp (by decide) ⟨rfl, rfl⟩ rfl rfl (Nat.le_of_ble_eq_true rfl) dX4_read_88 rfl ?_
                      refine rs_if_ne (tgt := 100) C dX4_read_91 (by decide) rfl (fun z25 => ?_) (fun z25 => ?_)
                      · replace h := rs_if z25 h
                        refine rs_iincn (v := 1) C dX4_read_100 rfl (by decide) (by decide) rfl h (fun x26 h => ?_)
                        exact rs_subk (KJ20 _ h) (rs_ac rfl (rs_ac rfl (rs_ac rfl (rs_ac rfl (rs_ac rfl (rs_ac rfl (rs_ac rfl (rs_ac rfl (rs_ac rfl (rs_ac rfl rs_a0))))))))))
                      · replace h := rs_it z25 h
                        refine rs_bipush (v := (-20)) C dX4_read_94 (by decide) rfl ?_
                        refine rs_iload C dX4_read_96 rfl rfl ?_
                        refine rs_isub C dX4_read_98 rfl ?_
                        exact rs_iret C hr hlk h dX4_read_99
          exact rs_subk (L48 rs_fu _ _ _ h) (rs_ac rfl (rs_ac rfl (rs_ac rfl (rs_ac rfl (rs_ac rfl (rs_ac rfl (rs_ac rfl (rs_ac rfl (rs_ac rfl rs_a0)))))))))
      · replace h := rs_if z9 h
        refine rs_iconst (v := (-1)) C dX4_read_29 (by decide) rfl ?_
        exact rs_iret C hr hlk h dX4_read_30
def xf_X4_torn (S : rs_St) : Option Int32 := some (rs_gi S 76 7)
set_option maxRecDepth 100000 in
theorem c_X4_torn (l : Launch) (G : rs_G) (hG : rs_ok G) (S : rs_St)  (o : Int32) (h : xf_X4_torn S = some o) : Met l yX4_torn (rs_wz yX4_torn cX4_torn 1 (some FieldType.int)) (rs_rm 2) (va_Pc [.ref (rs_ad G 76)] (rs_pre G S)) (va_Qi (fun r S2 => (r, S2) = (o, S)) (rs_post G) (rs_A G)) 0 0 (rs_A G) := by
  refine rs_met hG (by decide) (Nat.le_of_ble_eq_true rfl) ?_
  intro p e s m args below meth c C hr hlk
  rw [xf_X4_torn] at h
  refine rs_aload_n (i := 0) C dX4_torn_0 rfl rfl rfl ?_
  refine rg_X4_7 C kk_76 wl_X4_221 dX4_torn_1 rfl ?_
  exact rs_iret C hr hlk (rs_pr h) dX4_torn_4
def xf_X4_count (S : rs_St) (a1 : Int32) : Option Int32 := if a1 = 0 then some (rs_gi S 0 10) else if a1 = 1 then rs_jn (fun (x4 : Int32) => rs_jn (fun (x6 : Int32) => some (x4 + x6)) (fun J7 => if (rs_gi S 78 1) = 0 then J7 0 else J7 1)) (fun J5 => if (rs_gi S 78 0) = 0 then J5 0 else J5 1) else if a1 = 2 then some (rs_gi S 80 1) else if a1 = 3 then if (rs_gi S (83 + 2 * (0 : Int32).toNatClampNeg) 1) = (-1) then some (-4) else some (rs_gi S (83 + 2 * (0 : Int32).toNatClampNeg) 2) else if a1 = 4 then rs_b1 (xf_X1_sumOfPart S 0 1) (fun r15 => some r15) else if a1 = 5 then rs_b1 (xf_X1_sumOfPart S 0 2) (fun r18 => some r18) else some (-1)
set_option maxRecDepth 100000 in
theorem c_X4_count (l : Launch) (G : rs_G) (hG : rs_ok G) (S : rs_St) (a1 : Int32)  (o : Int32) (h : xf_X4_count S a1 = some o) : Met l yX4_count (rs_wz yX4_count cX4_count 2 (some FieldType.int)) (rs_rm 3) (va_Pc [.ref (rs_ad G 76), .int a1] (rs_pre G S)) (va_Qi (fun r S2 => (r, S2) = (o, S)) (rs_post G) (rs_A G)) 0 0 (rs_A G) := by
  refine rs_met hG (by decide) (Nat.le_of_ble_eq_true rfl) ?_
  intro p e s m args below meth c C hr hlk
  rw [xf_X4_count] at h
  refine rs_iload_n (i := 1) C dX4_count_0 rfl rfl rfl ?_
  by_cases z2 : a1 = 0
  · replace h := rs_it z2 h
    refine rs_tabIn (tgt := 40) C (39) dX4_count_1 0 z2 (by decide) (by decide) rfl (by decide) ?_
    refine rs_aload_n (i := 0) C dX4_count_40 rfl rfl rfl ?_
    refine rg_X4_0 C kk_76 wl_X4_10 dX4_count_41 rfl ?_
    refine rg_X1_10 C kk_0 wl_X4_182 dX4_count_44 rfl ?_
    exact rs_iret C hr hlk (rs_pr h) dX4_count_47
  · replace h := rs_if z2 h
    by_cases z3 : a1 = 1
    · replace h := rs_it z3 h
      refine rs_tabIn (tgt := 48) C (47) dX4_count_1 1 z3 (by decide) (by decide) rfl (by decide) ?_
      refine rs_aload_n (i := 0) C dX4_count_48 rfl rfl rfl ?_
      refine rg_X4_3 C kk_76 wl_X4_23 dX4_count_49 rfl ?_
      refine rs_iconst (v := 0) C dX4_count_52 (by decide) rfl ?_
      refine rs_zaldc C kk_78 ll_78 0 (by decide) (by decide) dX4_count_53 rfl ?_
      refine rs_jw (P := fun J => ∀ (x4 : Int32), J x4 = some o → rs_Xi G 2 p l e (rs_rm 3) s m args below meth c (o, S) S 62 [(0, .ref (rs_ad G 76)), (1, .int a1)] [.int x4]) h (fun x4 h => ?_) (fun J5 KJ5 h => ?_)
      · refine rs_aload_n (i := 0) C dX4_count_62 rfl rfl rfl ?_
        refine rg_X4_3 C kk_76 wl_X4_23 dX4_count_63 rfl ?_
        refine rs_iconst (v := 1) C dX4_count_66 (by decide) rfl ?_
        refine rs_zaldc C kk_78 ll_78 1 (by decide) (by decide) dX4_count_67 rfl ?_
        refine rs_jw (P := fun J => ∀ (x6 : Int32), J x6 = some o → rs_Xi G 2 p l e (rs_rm 3) s m args below meth c (o, S) S 76 [(0, .ref (rs_ad G 76)), (1, .int a1)] [.int x6, .int x4]) h (fun x6 h => ?_) (fun J7 KJ7 h => ?_)
        · refine rs_iadd C dX4_count_76 rfl ?_
          exact rs_iret C hr hlk (rs_pr h) dX4_count_77
        · refine rs_if_eq (tgt := 75) C dX4_count_68 (by decide) rfl (fun z8 => ?_) (fun z8 => ?_)
          · replace h := rs_it z8 h
            refine rs_iconst (v := 0) C dX4_count_75 (by decide) rfl ?_
            exact rs_subk (KJ7 _ h) (rs_ac rfl (rs_ac rfl rs_a0))
          · replace h := rs_if z8 h
            refine rs_iconst (v := 1) C dX4_count_71 (by decide) rfl ?_
            refine rs_goto (tgt := 76) C dX4_count_72 (by decide) ?_
            exact rs_subk (KJ7 _ h) (rs_ac rfl (rs_ac rfl rs_a0))
      · refine rs_if_eq (tgt := 61) C dX4_count_54 (by decide) rfl (fun z9 => ?_) (fun z9 => ?_)
        · replace h := rs_it z9 h
          refine rs_iconst (v := 0) C dX4_count_61 (by decide) rfl ?_
          exact rs_subk (KJ5 _ h) (rs_ac rfl (rs_ac rfl rs_a0))
        · replace h := rs_if z9 h
          refine rs_iconst (v := 1) C dX4_count_57 (by decide) rfl ?_
          refine rs_goto (tgt := 62) C dX4_count_58 (by decide) ?_
          exact rs_subk (KJ5 _ h) (rs_ac rfl (rs_ac rfl rs_a0))
    · replace h := rs_if z3 h
      by_cases z10 : a1 = 2
      · replace h := rs_it z10 h
        refine rs_tabIn (tgt := 78) C (77) dX4_count_1 2 z10 (by decide) (by decide) rfl (by decide) ?_
        refine rs_aload_n (i := 0) C dX4_count_78 rfl rfl rfl ?_
        refine rg_X4_5 C kk_76 wl_X4_36 dX4_count_79 rfl ?_
        refine rg_X3_1 C kk_80 wl_X4_53 dX4_count_82 rfl ?_
        exact rs_iret C hr hlk (rs_pr h) dX4_count_85
      · replace h := rs_if z10 h
        by_cases z11 : a1 = 3
        · replace h := rs_it z11 h
          refine rs_tabIn (tgt := 86) C (85) dX4_count_1 3 z11 (by decide) (by decide) rfl (by decide) ?_
          refine rs_aload_n (i := 0) C dX4_count_86 rfl rfl rfl ?_
          refine rg_X4_4 C kk_76 wl_X4_29 dX4_count_87 rfl ?_
          refine rs_iconst (v := 0) C dX4_count_90 (by decide) rfl ?_
          refine rs_aald11 C kk_79 (by decide) dX4_count_91 rfl ?_
          refine rg_X2_1 C (rs_k11i (by decide)) wl_X4_228 dX4_count_92 rfl ?_
          refine rs_iconst (v := (-1)) C dX4_count_95 (by decide) rfl ?_
          refine rs_icmp_ne (tgt := 104) C dX4_count_96 (by decide) rfl (fun z12 => ?_) (fun z12 => ?_)
          · replace h := rs_if z12 h
            refine rs_aload_n (i := 0) C dX4_count_104 rfl rfl rfl ?_
            refine rg_X4_4 C kk_76 wl_X4_29 dX4_count_105 rfl ?_
            refine rs_iconst (v := 0) C dX4_count_108 (by decide) rfl ?_
            refine rs_aald11 C kk_79 (by decide) dX4_count_109 rfl ?_
            refine rg_X2_2 C (rs_k11i (by decide)) wl_X4_231 dX4_count_110 rfl ?_
            exact rs_iret C hr hlk (rs_pr h) dX4_count_113
          · replace h := rs_it z12 h
            refine rs_bipush (v := (-4)) C dX4_count_99 (by decide) rfl ?_
            refine rs_goto (tgt := 113) C dX4_count_101 (by decide) ?_
            exact rs_iret C hr hlk (rs_pr h) dX4_count_113
        · replace h := rs_if z11 h
          by_cases z13 : a1 = 4
          · replace h := rs_it z13 h
            refine rs_tabIn (tgt := 114) C (113) dX4_count_1 4 z13 (by decide) (by decide) rfl (by decide) ?_
            refine rs_aload_n (i := 0) C dX4_count_114 rfl rfl rfl ?_
            refine rg_X4_0 C kk_76 wl_X4_10 dX4_count_115 rfl ?_
            refine rs_iconst (v := 1) C dX4_count_118 (by decide) rfl ?_
            obtain ⟨r15, h14, h⟩ := rs_b1e h
            refine rs_callVi (r0 := r15) (S0 := S) C (rs_kd_lt kk_0 (by decide)) (rs_e1 kk_0) rfl (c_X1_sumOfPart l G hG S 0 1 kk_0 _ h14) ⟨wl_X4_234, wi_yX1_sumOfPart, wx_yX1_sumOfPart, wn_X1, wc_yX1_sumOfPart⟩ wy_yX1_sumOfPart (by decide) ⟨rfl, rfl⟩ rfl rfl (Nat.le_of_ble_eq_true rfl) dX4_count_119 rfl ?_
            exact rs_iret C hr hlk (rs_pr h) dX4_count_122
          · replace h := rs_if z13 h
            by_cases z16 : a1 = 5
            · replace h := rs_it z16 h
              refine rs_tabIn (tgt := 123) C (122) dX4_count_1 5 z16 (by decide) (by decide) rfl (by decide) ?_
              refine rs_aload_n (i := 0) C dX4_count_123 rfl rfl rfl ?_
              refine rg_X4_0 C kk_76 wl_X4_10 dX4_count_124 rfl ?_
              refine rs_iconst (v := 2) C dX4_count_127 (by decide) rfl ?_
              obtain ⟨r18, h17, h⟩ := rs_b1e h
              refine rs_callVi (r0 := r18) (S0 := S) C (rs_kd_lt kk_0 (by decide)) (rs_e1 kk_0) rfl (c_X1_sumOfPart l G hG S 0 2 kk_0 _ h17) ⟨wl_X4_234, wi_yX1_sumOfPart, wx_yX1_sumOfPart, wn_X1, wc_yX1_sumOfPart⟩ wy_yX1_sumOfPart (by decide) ⟨rfl, rfl⟩ rfl rfl (Nat.le_of_ble_eq_true rfl) dX4_count_128 rfl ?_
              exact rs_iret C hr hlk (rs_pr h) dX4_count_131
            · replace h := rs_if z16 h
              refine rs_tabOut (tgt := 132) C dX4_count_1 (by have e0 := rs_nev z2 (0) (by decide); have e1 := rs_nev z3 (1) (by decide); have e2 := rs_nev z10 (2) (by decide); have e3 := rs_nev z11 (3) (by decide); have e4 := rs_nev z13 (4) (by decide); have e5 := rs_nev z16 (5) (by decide); omega) (by decide) ?_
              refine rs_iconst (v := (-1)) C dX4_count_132 (by decide) rfl ?_
              exact rs_iret C hr hlk (rs_pr h) dX4_count_133
