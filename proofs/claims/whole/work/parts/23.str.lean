section rsStr
variable {G : rs_G} {cc : ByteArray} {nL : Nat} {own : String} {p : Program} {l : Launch} {e : Env} {R : Room} {s : State} {m : MethodId} {args : Array Value} {below : List Frame} {meth : Method} {c : Code} {Q : State → Prop} {S : rs_St} {pc pd : Nat} {lv : List (Nat × Value)} {st rest : List Value}
theorem rs_sgetc (C : rs_C G cc nL own p s m args c) {index a : Nat} (ha : a < 8) (hl0 : Cond.fieldLink own index "java/lang/String" "coder" "B" ∈ rs_wg) (hd : decode cc pc = .ok (.getfield index, 3)) (hn : pc + 3 = pd) (k2 : rs_X G nL p l e R s m args below meth c Q S pd lv (.int 0 :: rest)) : rs_X G nL p l e R s m args below meth c Q S pc lv (.ref (rs_tb G (5 + a)) :: rest) := by
  subst hn
  exact fun H locs ls hP hS hl => vk_getf C.1 C.2.1 (C.2.2.2.2.2.1.2.2.2.2.2.2.1.1 a ha).2.1 hS C.2.2.2.1 (C.2.2.2.2.1 _ hl0) (fun x hx => hx) hd (k2 H locs ls hP hS hl)
theorem rs_sgetv (C : rs_C G cc nL own p s m args c) {index a : Nat} (ha : a < 8) (hl0 : Cond.fieldLink own index "java/lang/String" "value" "[B" ∈ rs_wg) (hd : decode cc pc = .ok (.getfield index, 3)) (hn : pc + 3 = pd) (k2 : rs_X G nL p l e R s m args below meth c Q S pd lv (.ref (rs_tb G (13 + a)) :: rest)) : rs_X G nL p l e R s m args below meth c Q S pc lv (.ref (rs_tb G (5 + a)) :: rest) := by
  subst hn
  exact fun H locs ls hP hS hl => vk_getf C.1 C.2.1 (C.2.2.2.2.2.1.2.2.2.2.2.2.1.1 a ha).2.2.1 hS C.2.2.2.1 (C.2.2.2.2.1 _ hl0) (fun x hx => hx) hd (k2 H locs ls hP hS hl)
theorem rs_slen (C : rs_C G cc nL own p s m args c) {a : Nat} (ha : a < 8) (hd : decode cc pc = .ok (.arraylength, 1)) (hn : pc + 1 = pd) (k2 : rs_X G nL p l e R s m args below meth c Q S pd lv (.int (Int32.ofNat (rs_tl.getD a 0)) :: rest)) : rs_X G nL p l e R s m args below meth c Q S pc lv (.ref (rs_tb G (13 + a)) :: rest) := by
  subst hn
  exact fun H locs ls hP hS hl => va_tlen C.1 C.2.1 (C.2.2.2.2.2.1.2.2.2.2.2.2.1.1 a ha).2.2.2 hS rfl hd (k2 H locs ls hP hS hl)
theorem rs_sbald (C : rs_C G cc nL own p s m args c) {a : Nat} {i : Int32} (ha : a < 8) (hi : ¬ (i < 0 ∨ rs_tl.getD a 0 ≤ i.toNatClampNeg)) (hd : decode cc pc = .ok (.baload, 1)) (hn : pc + 1 = pd) (k2 : rs_X G nL p l e R s m args below meth c Q S pd lv (.int ((rs_tv.getD a []).getD i.toNatClampNeg 0) :: rest)) : rs_X G nL p l e R s m args below meth c Q S pc lv (.int i :: .ref (rs_tb G (13 + a)) :: rest) := by
  subst hn
  exact fun H locs ls hP hS hl => va_tb C.1 C.2.1 (C.2.2.2.2.2.1.2.2.2.2.2.2.1.1 a ha).2.2.2 hS hi rfl hd (k2 H locs ls hP hS hl)
theorem rs_getcs (C : rs_C G cc nL own p s m args c) {index : Nat} (hl0 : Cond.fieldLink own index "java/lang/String" "COMPACT_STRINGS" "Z" ∈ rs_wg) (hd : decode cc pc = .ok (.getstatic index, 3)) (hn : pc + 3 = pd) (k2 : rs_X G nL p l e R s m args below meth c Q S pd lv (.int 1 :: rest)) : rs_X G nL p l e R s m args below meth c Q S pc lv rest := by
  subst hn
  exact fun H locs ls hP hS hl => va_gets C.1 C.2.1 C.2.2.2.2.2.1.2.2.2.2.2.2.2.1 hS C.2.2.2.1 (C.2.2.2.2.1 _ hl0) (fun x hx => hx) hd (k2 H locs ls hP hS hl)
theorem rs_getsq (C : rs_C G cc nL own p s m args c) {index : Nat} (hl0 : Cond.fieldLink own index "jdk/internal/util/Preconditions" "SIOOBE_FORMATTER" "Ljava/util/function/BiFunction;" ∈ rs_wg) (hd : decode cc pc = .ok (.getstatic index, 3)) (hn : pc + 3 = pd) (k2 : ∀ q : Option Nat, rs_X G nL p l e R s m args below meth c Q S pd lv (va_rf q :: rest)) : rs_X G nL p l e R s m args below meth c Q S pc lv rest := by
  subst hn
  intro H locs ls hP hS hl
  rcases C.2.2.2.2.2.1.2.2.2.2.2.2.2.2 with hz | ⟨t, hz⟩
  · exact va_gets C.1 C.2.1 hz hS C.2.2.2.1 (C.2.2.2.2.1 _ hl0) (fun x hx => hx) hd (k2 none H locs ls hP hS hl)
  · exact va_gets C.1 C.2.1 hz hS C.2.2.2.1 (C.2.2.2.2.1 _ hl0) (fun x hx => hx) hd (k2 (some t) H locs ls hP hS hl)
theorem rs_ldcS (C : rs_C G cc nL own p s m args c) {index : Nat} (a : Nat) (ha : a < 8) (ho : own = RX3) (hx : 108 + 2 * a = index) (hd : decode cc pc = .ok (.ldc index, 2)) (hn : pc + 2 = pd) (k2 : rs_X G nL p l e R s m args below meth c Q S pd lv (.ref (rs_tb G (5 + a)) :: rest)) : rs_X G nL p l e R s m args below meth c Q S pc lv rest := by
  subst hn
  subst hx
  subst ho
  exact fun H locs ls hP hS hl => va_ldcS C.1 C.2.1 C.2.2.2.1 (C.2.2.2.2.2.1.2.2.2.2.2.1 a ha) hd (k2 H locs ls hP hS hl)
theorem rs_tret (C : rs_C G cc nL own p s m args c) {v : Int32} {o : Int32 × rs_St} {ty : FieldType} (hr : meth.sig.returnType = some ty) (hlk : meth.locks = false) (hz : narrow ty (.int v) = .int v) (ho : some (v, S) = some o) (hd : decode cc pc = .ok (.ireturn, 1)) : rs_X G nL p l e R s m args below meth c (MQ below (va_Qi (fun r S2 => (r, S2) = o) (rs_post G) (rs_A G)) args s 0 0 (rs_A G)) S pc lv [.int v] := by
  intro H locs ls hP hS hl
  exact W.zret C.1 C.2.1 hr hz (fun t ht hW => ⟨⟨v, S, rfl, Option.some.inj ho, by show va_P _ _ _ t.heap; rw [ht]; exact hP⟩, hS.F ht⟩) hS.2.2 hd hlk
theorem rs_callVs (C : rs_C G cc nL own p s m args c) {y : MethodName} {b : ByteArray} {n ar index a : Nat} {r : Option FieldType} {rm : Room} {As : List Value} {r0 : Int32} {S0 : rs_St} (ha : a < 8) (hM : Met l y (rs_wz y b n r) rm (va_Pc (.ref (rs_tb G (5 + a)) :: As) (rs_pre G S)) (va_Qi (fun r S2 => (r, S2) = (r0, S0)) (rs_post G) (rs_A G)) 0 0 (rs_A G)) (wd : rs_cwv own index RJ0 y b n r) (hy : y.cls = RJ0 ∧ y.cls ≠ "java/lang/invoke/MethodHandle" ∧ y.cls ≠ "java/lang/invoke/VarHandle" ∧ (parseMethodDescriptor y.desc).map (fun d => d.parameters.length) = some ar) (hR : rm.frames + 1 ≤ R.frames ∧ 8 + (n + 11) + rm.locals ≤ R.locals) (hrm : rm.cells = 0 ∧ rm.slots = 0) (hn2 : As.length = ar) (hsk : st = As.reverse ++ .ref (rs_tb G (5 + a)) :: rest) (hst : (rest.map fun v => v.category).sum ≤ 8) (hd : decode cc pc = .ok (.invokevirtual index, 3)) (hn : pc + 3 = pd) (k2 : rs_X G nL p l e R s m args below meth c Q S0 pd lv (.int r0 :: rest)) : rs_X G nL p l e R s m args below meth c Q S pc lv st := by
  subst hn
  subst hsk
  intro H locs ls hP hS hl
  refine va_calli (va_runV (As := As) (rest := rest) ⟨C.1, C.2.1, C.2.2.1, C.2.2.2.1, C.2.2.2.2.1⟩ hM (cwV ar C.2.2.2.2.1 (rs_goodv wd) rfl hrm.1 hrm.2 hy hR) ⟨rs_blind G S _, vk_recv C.2.2.2.2.2.1.2.2.2.2.2.2.1 ha hS, fun U hU hW => ⟨rfl, by rw [hU]; exact hP, rs_kf_to C.2.2.2.2.2.1 hS hU hW⟩⟩ rfl hn2 hl.1 rfl (lv_room hst) hd ⟨Nat.zero_le _, Nat.zero_le _⟩) hS (fun q _ h => h) (fun q h => h) (fun r u t H1 locs1 ht hvm hw hB hz1 hk1 hS1 => ?_)
  have hB : va_P (rs_D0 G) rs_cl (rs_ww G u) t.heap := hB
  rw [ht] at hB
  obtain ⟨e1, e2⟩ := Prod.mk.inj hw
  subst e1
  subst e2
  exact k2 H1 locs1 ls hB hS1 hl
end rsStr
set_option maxRecDepth 100000 in
theorem c_J0_coder (l : Launch) (G : rs_G) (hG : rs_ok G) (S : rs_St) (a : Nat) (ha : a < 8) : Met l yJ0_coder_7d493 (rs_wz yJ0_coder_7d493 cJ0_coder_7d493 1 (some .byte)) (rs_rm 2) (va_Pc [.ref (rs_tb G (5 + a))] (rs_pre G S)) (va_Qi (fun r S2 => (r, S2) = (0, S)) (rs_post G) (rs_A G)) 0 0 (rs_A G) := by
  refine rs_met hG (by decide) (Nat.le_of_ble_eq_true rfl) ?_
  intro p e s m args below meth c C hr hlk
  refine rs_getcs C wl_J0_38 dJ0_coder_7d493_0 rfl ?_
  refine rs_if_eq (tgt := 13) C dJ0_coder_7d493_3 (by decide) rfl (fun z => absurd z (by decide)) (fun _ => ?_)
  refine rs_aload_n (i := 0) C dJ0_coder_7d493_6 rfl rfl rfl ?_
  refine rs_sgetc C ha wl_J0_15 dJ0_coder_7d493_7 rfl ?_
  refine rs_goto (tgt := 14) C dJ0_coder_7d493_10 (by decide) ?_
  exact rs_tret C hr hlk rfl rfl dJ0_coder_7d493_14
set_option maxRecDepth 100000 in
theorem c_J0_isLatin1 (l : Launch) (G : rs_G) (hG : rs_ok G) (S : rs_St) (a : Nat) (ha : a < 8) : Met l yJ0_isLatin1_aae02 (rs_wz yJ0_isLatin1_aae02 cJ0_isLatin1_aae02 1 (some .boolean)) (rs_rm 2) (va_Pc [.ref (rs_tb G (5 + a))] (rs_pre G S)) (va_Qi (fun r S2 => (r, S2) = (1, S)) (rs_post G) (rs_A G)) 0 0 (rs_A G) := by
  refine rs_met hG (by decide) (Nat.le_of_ble_eq_true rfl) ?_
  intro p e s m args below meth c C hr hlk
  refine rs_getcs C wl_J0_38 dJ0_isLatin1_aae02_0 rfl ?_
  refine rs_if_eq (tgt := 17) C dJ0_isLatin1_aae02_3 (by decide) rfl (fun z => absurd z (by decide)) (fun _ => ?_)
  refine rs_aload_n (i := 0) C dJ0_isLatin1_aae02_6 rfl rfl rfl ?_
  refine rs_sgetc C ha wl_J0_15 dJ0_isLatin1_aae02_7 rfl ?_
  refine rs_if_ne (tgt := 17) C dJ0_isLatin1_aae02_10 (by decide) rfl (fun z => absurd rfl z) (fun _ => ?_)
  refine rs_iconst (v := 1) C dJ0_isLatin1_aae02_13 (by decide) rfl ?_
  refine rs_goto (tgt := 18) C dJ0_isLatin1_aae02_14 (by decide) ?_
  exact rs_tret C hr hlk rfl rfl dJ0_isLatin1_aae02_18
def xf_J0_length_8abf5 (S : rs_St) (a : Nat) : Option Int32 := some (Int32.ofNat (rs_tl.getD a 0))
set_option maxRecDepth 100000 in
theorem c_J0_length_8abf5 (l : Launch) (G : rs_G) (hG : rs_ok G) (S : rs_St) (a : Nat) (ha : a < 8) (o : Int32) (h : xf_J0_length_8abf5 S a = some o) : Met l yJ0_length_8abf5 (rs_wz yJ0_length_8abf5 cJ0_length_8abf5 1 (some .int)) (rs_rm 3) (va_Pc [.ref (rs_tb G (5 + a))] (rs_pre G S)) (va_Qi (fun r S2 => (r, S2) = (o, S)) (rs_post G) (rs_A G)) 0 0 (rs_A G) := by
  refine rs_met hG (by decide) (Nat.le_of_ble_eq_true rfl) ?_
  intro p e s m args below meth c C hr hlk
  rw [xf_J0_length_8abf5] at h
  refine rs_aload_n (i := 0) C dJ0_length_8abf5_0 rfl rfl rfl ?_
  refine rs_sgetv C ha wl_J0_9 dJ0_length_8abf5_1 rfl ?_
  refine rs_slen C ha dJ0_length_8abf5_4 rfl ?_
  refine rs_aload_n (i := 0) C dJ0_length_8abf5_5 rfl rfl rfl ?_
  refine rs_callVs (r0 := 0) (S0 := S) C ha (c_J0_coder l G hG S a ha) ⟨wl_J0_335, wi_yJ0_coder_7d493, wx_yJ0_coder_7d493, wn_J0, wc_yJ0_coder_7d493⟩ wy_yJ0_coder_7d493 (by decide) ⟨rfl, rfl⟩ rfl rfl (Nat.le_of_ble_eq_true rfl) dJ0_length_8abf5_6 rfl ?_
  refine rs_ishr C dJ0_length_8abf5_9 rfl ?_
  exact rs_iret C hr hlk (by rw [sb_shr0]; exact rs_pr h) dJ0_length_8abf5_10
def xf_J3_ck (a1 a2 : Int32) : Option Int32 := if a1 < 0 then none else if a1 < a2 then some a1 else none
set_option maxRecDepth 100000 in
theorem c_J3_ck (l : Launch) (G : rs_G) (hG : rs_ok G) (S : rs_St) (a1 a2 : Int32) (q : Option Nat) (o : Int32) (h : xf_J3_ck a1 a2 = some o) : Met l yJ3_checkIndex_8e157 (rs_wz yJ3_checkIndex_8e157 cJ3_checkIndex_8e157 3 (some .int)) (rs_rm 2) (va_Pc [.int a1, .int a2, va_rf q] (rs_pre G S)) (va_Qi (fun r S2 => (r, S2) = (o, S)) (rs_post G) (rs_A G)) 0 0 (rs_A G) := by
  refine rs_met hG (by decide) (by cases q <;> exact Nat.le_of_ble_eq_true rfl) ?_
  intro p e s m args below meth c C hr hlk
  rw [xf_J3_ck] at h
  refine rs_iload_n (i := 0) C dJ3_checkIndex_8e157_0 rfl rfl rfl ?_
  refine rs_if_lt (tgt := 9) C dJ3_checkIndex_8e157_1 (by decide) rfl (fun z => (rs_no (rs_it z h)).elim) (fun z => ?_)
  replace h := rs_if z h
  refine rs_iload_n (i := 0) C dJ3_checkIndex_8e157_4 rfl rfl rfl ?_
  refine rs_iload_n (i := 1) C dJ3_checkIndex_8e157_5 rfl rfl rfl ?_
  refine rs_icmp_lt (tgt := 16) C dJ3_checkIndex_8e157_6 (by decide) rfl (fun z => ?_) (fun z => (rs_no (rs_if z h)).elim)
  replace h := rs_it z h
  refine rs_iload_n (i := 0) C dJ3_checkIndex_8e157_16 rfl rfl rfl ?_
  exact rs_iret C hr hlk (rs_pr h) dJ3_checkIndex_8e157_17
set_option maxRecDepth 100000 in
theorem c_J0_ck (l : Launch) (G : rs_G) (hG : rs_ok G) (S : rs_St) (a1 a2 : Int32) (o : Int32) (h : xf_J3_ck a1 a2 = some o) : Met l yJ0_checkIndex_df160 (rs_wz yJ0_checkIndex_df160 cJ0_checkIndex_df160 2 none) (rs_rm 3) (va_Pc [.int a1, .int a2] (rs_pre G S)) (va_Qv (fun S2 => S2 = S) (rs_post G) (rs_A G)) 0 0 (rs_A G) := by
  refine rs_met hG (by decide) (Nat.le_of_ble_eq_true rfl) ?_
  intro p e s m args below meth c C hr hlk
  refine rs_iload_n (i := 0) C dJ0_checkIndex_df160_0 rfl rfl rfl ?_
  refine rs_iload_n (i := 1) C dJ0_checkIndex_df160_1 rfl rfl rfl ?_
  refine rs_getsq C wl_J0_1053 dJ0_checkIndex_df160_2 rfl (fun q => ?_)
  refine rs_callSi (As := [.int a1, .int a2, va_rf q]) (r0 := o) (S0 := S) C (c_J3_ck l G hG S a1 a2 q o h) ⟨wl_J0_1059, ws_yJ3_checkIndex_8e157, wn_J3, wc_yJ3_checkIndex_8e157⟩ wy_yJ3_checkIndex_8e157 (by decide) ⟨rfl, rfl⟩ rfl rfl (Nat.le_of_ble_eq_true rfl) dJ0_checkIndex_df160_5 rfl ?_
  refine rs_pop C dJ0_checkIndex_df160_8 rfl rfl ?_
  exact rs_vret C hr hlk rfl dJ0_checkIndex_df160_9
def xf_J0_charAt_5068e (S : rs_St) (a : Nat) (a1 : Int32) : Option Int32 := if a1 < 0 ∨ rs_tl.getD a 0 ≤ a1.toNatClampNeg then none else some (((rs_tv.getD a []).getD a1.toNatClampNeg 0 &&& 255).toUInt32 % 65536).toInt32
theorem rs_tlb : ∀ a, a < 8 → rs_tl.getD a 0 < 8 := by decide
theorem rs_cko {a : Nat} {a1 : Int32} (ha : a < 8) (hi : ¬ (a1 < 0 ∨ rs_tl.getD a 0 ≤ a1.toNatClampNeg)) : xf_J3_ck a1 (Int32.ofNat (rs_tl.getD a 0)) = some a1 := by
  have hb := rs_tlb a ha
  obtain ⟨j, hj, rfl⟩ := vp_in_of hi (by omega)
  unfold xf_J3_ck
  rw [if_neg (nI_pos (by omega)), if_pos]
  exact nI_lt hj (by omega)
set_option maxRecDepth 100000 in
theorem c_J1_ch (l : Launch) (G : rs_G) (hG : rs_ok G) (S : rs_St) (a : Nat) (a1 : Int32) (ha : a < 8) (o : Int32) (h : xf_J0_charAt_5068e S a a1 = some o) : Met l yJ1_charAt_3b067 (rs_wz yJ1_charAt_3b067 cJ1_charAt_3b067 2 (some .char)) (rs_rm 4) (va_Pc [.ref (rs_tb G (13 + a)), .int a1] (rs_pre G S)) (va_Qi (fun r S2 => (r, S2) = (o, S)) (rs_post G) (rs_A G)) 0 0 (rs_A G) := by
  refine rs_met hG (by decide) (Nat.le_of_ble_eq_true rfl) ?_
  intro p e s m args below meth c C hr hlk
  rw [xf_J0_charAt_5068e] at h
  obtain ⟨z, h⟩ := rs_ck h
  refine rs_iload_n (i := 1) C dJ1_charAt_3b067_0 rfl rfl rfl ?_
  refine rs_aload_n (i := 0) C dJ1_charAt_3b067_1 rfl rfl rfl ?_
  refine rs_slen C ha dJ1_charAt_3b067_2 rfl ?_
  refine rs_callSv (S0 := S) C (c_J0_ck l G hG S a1 _ _ (rs_cko ha z)) ⟨wl_J1_9, ws_yJ0_checkIndex_df160, wn_J0, wc_yJ0_checkIndex_df160⟩ wy_yJ0_checkIndex_df160 (by decide) ⟨rfl, rfl⟩ rfl rfl (Nat.le_of_ble_eq_true rfl) dJ1_charAt_3b067_3 rfl ?_
  refine rs_aload_n (i := 0) C dJ1_charAt_3b067_6 rfl rfl rfl ?_
  refine rs_iload_n (i := 1) C dJ1_charAt_3b067_7 rfl rfl rfl ?_
  refine rs_sbald C ha z dJ1_charAt_3b067_8 rfl ?_
  refine rs_sipush (v := 255) C dJ1_charAt_3b067_9 (by decide) rfl ?_
  refine rs_iand C dJ1_charAt_3b067_12 rfl ?_
  refine rs_i2c C dJ1_charAt_3b067_13 rfl ?_
  exact rs_tret C hr hlk (pk_nc _) (rs_pr h) dJ1_charAt_3b067_14
set_option maxRecDepth 100000 in
theorem c_J0_charAt_5068e (l : Launch) (G : rs_G) (hG : rs_ok G) (S : rs_St) (a : Nat) (a1 : Int32) (ha : a < 8) (o : Int32) (h : xf_J0_charAt_5068e S a a1 = some o) : Met l yJ0_charAt_5068e (rs_wz yJ0_charAt_5068e cJ0_charAt_5068e 2 (some .char)) (rs_rm 5) (va_Pc [.ref (rs_tb G (5 + a)), .int a1] (rs_pre G S)) (va_Qi (fun r S2 => (r, S2) = (o, S)) (rs_post G) (rs_A G)) 0 0 (rs_A G) := by
  refine rs_met hG (by decide) (Nat.le_of_ble_eq_true rfl) ?_
  intro p e s m args below meth c C hr hlk
  have h0 := h
  rw [xf_J0_charAt_5068e] at h
  obtain ⟨z, h⟩ := rs_ck h
  refine rs_aload_n (i := 0) C dJ0_charAt_5068e_0 rfl rfl rfl ?_
  refine rs_callVs (r0 := 1) (S0 := S) C ha (c_J0_isLatin1 l G hG S a ha) ⟨wl_J0_492, wi_yJ0_isLatin1_aae02, wx_yJ0_isLatin1_aae02, wn_J0, wc_yJ0_isLatin1_aae02⟩ wy_yJ0_isLatin1_aae02 (by decide) ⟨rfl, rfl⟩ rfl rfl (Nat.le_of_ble_eq_true rfl) dJ0_charAt_5068e_1 rfl ?_
  refine rs_if_eq (tgt := 16) C dJ0_charAt_5068e_4 (by decide) rfl (fun z => absurd z (by decide)) (fun _ => ?_)
  refine rs_aload_n (i := 0) C dJ0_charAt_5068e_7 rfl rfl rfl ?_
  refine rs_sgetv C ha wl_J0_9 dJ0_charAt_5068e_8 rfl ?_
  refine rs_iload_n (i := 1) C dJ0_charAt_5068e_11 rfl rfl rfl ?_
  refine rs_callSi (r0 := o) (S0 := S) C (c_J1_ch l G hG S a a1 ha o h0) ⟨wl_J0_495, ws_yJ1_charAt_3b067, wn_J1, wc_yJ1_charAt_3b067⟩ wy_yJ1_charAt_3b067 (by decide) ⟨rfl, rfl⟩ rfl rfl (Nat.le_of_ble_eq_true rfl) dJ0_charAt_5068e_12 rfl ?_
  refine rs_tret C hr hlk (by rw [← Option.some.inj h]; exact pk_nc _) rfl dJ0_charAt_5068e_15
