def pt_feed (Inv : rs_St → Prop) : Prop := ∀ (S : rs_St) (a1 : Int32), Inv S → ∃ (r : Int32) (S1 : rs_St) (S2 : rs_St), xf_X4_feed S a1 = some (r, S1) ∧ xf_X5_feed S1 a1 = some (r, S2) ∧ Inv S2
def pt_end (Inv : rs_St → Prop) : Prop := ∀ (S : rs_St) (a1 : Int32), Inv S → ∃ (r : Int32) (S1 : rs_St) (S2 : rs_St), xf_X4_end S a1 = some (r, S1) ∧ xf_X5_end S1 a1 = some (r, S2) ∧ Inv S2
def pt_text (Inv : rs_St → Prop) : Prop := ∀ (S : rs_St), Inv S → ∃ (r : Int32) (S1 : rs_St) (S2 : rs_St), xf_X4_text S = some (r, S1) ∧ xf_X5_text S1 = some (r, S2) ∧ Inv S2
def pt_fault (Inv : rs_St → Prop) : Prop := ∀ (S : rs_St), Inv S → ∃ (r : Int32), xf_X4_fault S = some r ∧ xf_X5_fault S = some r ∧ Inv S
def pt_rule (Inv : rs_St → Prop) : Prop := ∀ (S : rs_St) (a1 : Int32), Inv S → ∃ (r : Int32) (S2 : rs_St), xf_X4_rule S a1 = some r ∧ xf_X5_rule S a1 = some (r, S2) ∧ Inv S2
def pt_lamp (Inv : rs_St → Prop) : Prop := ∀ (S : rs_St) (a1 a2 : Int32), Inv S → ∃ (r : Int32) (S2 : rs_St), xf_X4_lamp S a1 a2 = some r ∧ xf_X5_lamp S a1 a2 = some (r, S2) ∧ Inv S2
def pt_row (Inv : rs_St → Prop) : Prop := ∀ (S : rs_St) (a1 : Int32), Inv S → ∃ (r : Int32), xf_X4_row S a1 = some r ∧ xf_X5_row S a1 = some r ∧ Inv S
def pt_alter (Inv : rs_St → Prop) : Prop := ∀ (S : rs_St) (a1 a2 a3 : Int32), Inv S → ∃ (r : Int32) (S1 : rs_St) (S2 : rs_St), xf_X4_alter S a1 a2 a3 = some (r, S1) ∧ xf_X5_alter S1 a1 a2 a3 = some (r, S2) ∧ Inv S2
def pt_tell (Inv : rs_St → Prop) : Prop := ∀ (S : rs_St) (a1 a2 : Int32), Inv S → ∃ (r : Int32) (S1 : rs_St) (S2 : rs_St), xf_X4_tell S a1 a2 = some (r, S1) ∧ xf_X5_tell S1 a1 a2 = some (r, S2) ∧ Inv S2
def pt_put (Inv : rs_St → Prop) : Prop := ∀ (S : rs_St) (a1 a2 a3 : Int32), Inv S → ∃ (r : Int32) (S1 : rs_St) (S2 : rs_St), xf_X4_put S a1 a2 a3 = some (r, S1) ∧ xf_X5_put S1 a1 a2 a3 = some (r, S2) ∧ Inv S2
def pt_cut (Inv : rs_St → Prop) : Prop := ∀ (S : rs_St) (a1 : Int32), Inv S → ∃ (r : Int32) (S1 : rs_St) (S2 : rs_St), xf_X4_cut S a1 = some (r, S1) ∧ xf_X5_cut S1 a1 = some (r, S2) ∧ Inv S2
def pt_rest (Inv : rs_St → Prop) : Prop := ∀ (S : rs_St) (a1 : Int32), Inv S → ∃ (r : Int32) (S1 : rs_St) (S2 : rs_St), xf_X4_rest S a1 = some (r, S1) ∧ xf_X5_rest S1 a1 = some (r, S2) ∧ Inv S2
def pt_shoot (Inv : rs_St → Prop) : Prop := ∀ (S : rs_St) (a1 : Int32), Inv S → ∃ (r : Int32) (S1 : rs_St) (S2 : rs_St), xf_X4_shoot S a1 = some (r, S1) ∧ xf_X5_shoot S1 a1 = some (r, S2) ∧ Inv S2
def pt_runs (Inv : rs_St → Prop) : Prop := ∀ (S : rs_St) (a1 a2 : Int32), Inv S → ∃ (r : Int32) (S2 : rs_St), xf_X4_runs S a1 a2 = some r ∧ xf_X5_runs S a1 a2 = some (r, S2) ∧ Inv S2
def pt_ahead (Inv : rs_St → Prop) : Prop := ∀ (S : rs_St) (a1 a2 : Int32), Inv S → ∃ (r : Int32) (S2 : rs_St), xf_X4_ahead S a1 a2 = some r ∧ xf_X5_ahead S a1 a2 = some (r, S2) ∧ Inv S2
def pt_when (Inv : rs_St → Prop) : Prop := ∀ (S : rs_St) (a1 : Int32), Inv S → ∃ (r : Int32) (S2 : rs_St), xf_X4_when S a1 = some r ∧ xf_X5_when S a1 = some (r, S2) ∧ Inv S2
def pt_again (Inv : rs_St → Prop) : Prop := ∀ (S : rs_St), Inv S → ∃ (r : Int32) (S2 : rs_St), xf_X4_again S = some r ∧ xf_X5_again S = some (r, S2) ∧ Inv S2
def pt_best (Inv : rs_St → Prop) : Prop := ∀ (S : rs_St) (a1 a2 a3 : Int32), Inv S → ∃ (r : Int32) (S1 : rs_St) (S2 : rs_St), xf_X4_best S a1 a2 a3 = some (r, S1) ∧ xf_X5_best S1 a1 a2 a3 = some (r, S2) ∧ Inv S2
def pt_kind (Inv : rs_St → Prop) : Prop := ∀ (S : rs_St) (a1 a2 a3 : Int32), Inv S → ∃ (r : Int32) (S1 : rs_St) (S2 : rs_St), xf_X4_kind S a1 a2 a3 = some (r, S1) ∧ xf_X5_kind S1 a1 a2 a3 = some (r, S2) ∧ Inv S2
def pt_phase (Inv : rs_St → Prop) : Prop := ∀ (S : rs_St) (a1 a2 a3 : Int32), Inv S → ∃ (r : Int32) (S1 : rs_St) (S2 : rs_St), xf_X4_phase S a1 a2 a3 = some (r, S1) ∧ xf_X5_phase S1 a1 a2 a3 = some (r, S2) ∧ Inv S2
def pt_out (Inv : rs_St → Prop) : Prop := ∀ (S : rs_St) (a1 a2 : Int32), Inv S → ∃ (r : Int32) (S1 : rs_St) (S2 : rs_St), xf_X4_out S a1 a2 = some (r, S1) ∧ xf_X5_out S1 a1 a2 = some (r, S2) ∧ Inv S2
def pt_luck (Inv : rs_St → Prop) : Prop := ∀ (S : rs_St) (a1 a2 a3 a4 : Int32), Inv S → ∃ (r : Int64) (S1 : rs_St) (S2 : rs_St), xf_X4_luck S a1 a2 a3 a4 = some (r, S1) ∧ xf_X5_luck S1 a1 a2 a3 a4 = some (r, S2) ∧ Inv S2
def pt_mean (Inv : rs_St → Prop) : Prop := ∀ (S : rs_St) (a1 a2 a3 : Int32), Inv S → ∃ (r : Int64) (S1 : rs_St) (S2 : rs_St), xf_X4_mean S a1 a2 a3 = some (r, S1) ∧ xf_X5_mean S1 a1 a2 a3 = some (r, S2) ∧ Inv S2
def pt_see (Inv : rs_St → Prop) : Prop := ∀ (S : rs_St) (a1 a2 a3 : Int32), Inv S → ∃ (r : Int32) (S1 : rs_St) (S2 : rs_St), xf_X4_see S a1 a2 a3 = some (r, S1) ∧ xf_X5_see S1 a1 a2 a3 = some (r, S2) ∧ Inv S2
def pt_forget (Inv : rs_St → Prop) : Prop := ∀ (S : rs_St) (a1 : Int32), Inv S → ∃ (r : Int32) (S1 : rs_St) (S2 : rs_St), xf_X4_forget S a1 = some (r, S1) ∧ xf_X5_forget S1 a1 = some (r, S2) ∧ Inv S2
def pt_kinds (Inv : rs_St → Prop) : Prop := ∀ (S : rs_St) (a1 : Int32), Inv S → ∃ (r : Int32) (S1 : rs_St) (S2 : rs_St), xf_X4_kinds S a1 = some (r, S1) ∧ xf_X5_kinds S1 a1 = some (r, S2) ∧ Inv S2
def pt_phases (Inv : rs_St → Prop) : Prop := ∀ (S : rs_St) (a1 : Int32), Inv S → ∃ (r : Int32) (S1 : rs_St) (S2 : rs_St), xf_X4_phases S a1 = some (r, S1) ∧ xf_X5_phases S1 a1 = some (r, S2) ∧ Inv S2
def pt_ask (Inv : rs_St → Prop) : Prop := ∀ (S : rs_St) (a1 a2 : Int32), Inv S → ∃ (r : Int32) (S1 : rs_St) (S2 : rs_St), xf_X4_ask S a1 a2 = some (r, S1) ∧ xf_X5_ask S1 a1 a2 = some (r, S2) ∧ Inv S2
def pt_drift (Inv : rs_St → Prop) : Prop := ∀ (S : rs_St) (a1 a2 a3 : Int32), Inv S → ∃ (r : Int32) (S1 : rs_St) (S2 : rs_St), xf_X4_drift S a1 a2 a3 = some (r, S1) ∧ xf_X5_drift S1 a1 a2 a3 = some (r, S2) ∧ Inv S2
def pt_keep (Inv : rs_St → Prop) : Prop := ∀ (S : rs_St) (a1 : Int32), Inv S → ∃ (r : Int32) (S1 : rs_St) (S2 : rs_St), xf_X4_keep S a1 = some (r, S1) ∧ xf_X5_keep S1 a1 = some (r, S2) ∧ Inv S2
def pt_back (Inv : rs_St → Prop) : Prop := ∀ (S : rs_St) (a1 : Int32), Inv S → ∃ (r : Int32) (S1 : rs_St) (S2 : rs_St), xf_X4_back S a1 = some (r, S1) ∧ xf_X5_back S1 a1 = some (r, S2) ∧ Inv S2
def pt_sheet (Inv : rs_St → Prop) : Prop := ∀ (S : rs_St) (a1 a2 a3 : Int32), Inv S → ∃ (r : Int32) (S1 : rs_St) (S2 : rs_St), xf_X4_sheet S a1 a2 a3 = some (r, S1) ∧ xf_X5_sheet S1 a1 a2 a3 = some (r, S2) ∧ Inv S2
def pt_lay (Inv : rs_St → Prop) : Prop := ∀ (S : rs_St) (a1 a2 a3 : Int32), Inv S → ∃ (r : Int32) (S1 : rs_St) (S2 : rs_St), xf_X4_lay S a1 a2 a3 = some (r, S1) ∧ xf_X5_lay S1 a1 a2 a3 = some (r, S2) ∧ Inv S2
def pt_read (Inv : rs_St → Prop) : Prop := ∀ (S : rs_St) (a1 a2 a3 a4 : Int32), Inv S → ∃ (r : Int32) (S1 : rs_St) (S2 : rs_St), xf_X4_read S a1 a2 a3 a4 = some (r, S1) ∧ xf_X5_read S1 a1 a2 a3 a4 = some (r, S2) ∧ Inv S2
def pt_torn (Inv : rs_St → Prop) : Prop := ∀ (S : rs_St), Inv S → ∃ (r : Int32), xf_X4_torn S = some r ∧ xf_X5_torn S = some r ∧ Inv S
def pt_count (Inv : rs_St → Prop) : Prop := ∀ (S : rs_St) (a1 : Int32), Inv S → ∃ (r : Int32), xf_X4_count S a1 = some r ∧ xf_X5_count S a1 = some r ∧ Inv S
def pt_all (Inv : rs_St → Prop) : Prop := pt_feed Inv ∧ pt_end Inv ∧ pt_text Inv ∧ pt_fault Inv ∧ pt_rule Inv ∧ pt_lamp Inv ∧ pt_row Inv ∧ pt_alter Inv ∧ pt_tell Inv ∧ pt_put Inv ∧ pt_cut Inv ∧ pt_rest Inv ∧ pt_shoot Inv ∧ pt_runs Inv ∧ pt_ahead Inv ∧ pt_when Inv ∧ pt_again Inv ∧ pt_best Inv ∧ pt_kind Inv ∧ pt_phase Inv ∧ pt_out Inv ∧ pt_luck Inv ∧ pt_mean Inv ∧ pt_see Inv ∧ pt_forget Inv ∧ pt_kinds Inv ∧ pt_phases Inv ∧ pt_ask Inv ∧ pt_drift Inv ∧ pt_keep Inv ∧ pt_back Inv ∧ pt_sheet Inv ∧ pt_lay Inv ∧ pt_read Inv ∧ pt_torn Inv ∧ pt_count Inv
theorem rl_ix {j L : Nat} {d : Int32} (n : Nat) (hd : d = nI n) (hj : j + 5 ≤ L) (hL : L ≤ 2560) (hn : n < 5) : vp_in (nI j + d) L := by
  rw [hd, nI_add]
  exact vp_in_nI (by omega) (by omega)
theorem rl_ix0 {j L : Nat} (hj : j + 5 ≤ L) (hL : L ≤ 2560) : vp_in (nI j) L := vp_in_nI (by omega) (by omega)
theorem rl_cmp {x : Int64} : lg_cmp x x = 0 := by
  unfold lg_cmp
  simp
theorem rl_5 (j : Nat) : nI j + 5 = nI (j + 5) := nI_add j 5
theorem rl_cond {j L : Nat} (hj : j ≤ 4000) (hL : L ≤ 2560) (h : ¬ Int32.ofNat L - 5 < nI j) : j + 5 ≤ L := by
  rcases Nat.lt_or_ge L (j + 5) with q | q
  · refine absurd ?_ h
    show nI L - nI 5 < nI j
    rw [Int32.lt_iff_toInt_lt, pk_sub_toInt (by omega) (by omega), nI_toInt (by omega)]
    omega
  · exact q
set_option maxHeartbeats 4000000 in
set_option maxRecDepth 100000 in
theorem rl_loop {p : Program} {l : Launch} {e : Env} {s : State} {m : MethodId} {args : Array Value} {below : List Frame} {meth : Method} {c : Code} {Q : State → Prop} {ce sl b L : Nat} {xs : Nat → Int32} {G : rs_G} (hG : rs_ok G) (Inv : rs_St → Prop) (PT : pt_all Inv) (C : rs_C G code 4 RL p s m args c) (hce : ce ≤ room_1.cells ∧ sl ≤ room_1.slots) (hL : L ≤ 2560) (hX : va_X b L xs s s.heap) (hbl : b < s.heap.size) (hbA : ¬ rs_A G b) (hfin : ∀ S lv, rs_Y G 4 p l e room_1 s m args below meth c Q ce sl S 1309 lv [.int 1]) :
    ∀ (n j : Nat) (S : rs_St), j ≤ L → L + 1 ≤ j + n → Inv S → rs_Y G 4 p l e room_1 s m args below meth c Q ce sl S 18 [(0, .ref b), (1, .ref (rs_ad G 76)), (2, .ref (rs_ad G 91)), (3, .int (nI j))] [] := by
  intro n
  induction n with
  | zero => intro j S h1 h2; omega
  | succ n ih =>
    intro j S hjl hn hI
    refine ry_iload_n (i := 3) C dL_law_18 rfl rfl rfl ?_
    refine ry_aload_n (i := 0) C dL_law_19 rfl rfl rfl ?_
    refine ry_slen C hX hbl hbA dL_law_20 rfl ?_
    refine ry_iconst (v := 5) C dL_law_21 (by decide) rfl ?_
    refine ry_isub C dL_law_22 rfl ?_
    refine ry_icmp_gt (tgt := 1308) C dL_law_23 (by decide) rfl (fun _ => ?_) (fun z => ?_)
    · refine ry_iconst (v := 1) C dL_law_1308 (by decide) rfl ?_
      exact hfin _ _
    · have hj : j + 5 ≤ L := rl_cond (by omega) hL z
      have rs_K : ∀ S2, Inv S2 → rs_Y G 4 p l e room_1 s m args below meth c Q ce sl S2 1302 [(0, .ref b), (1, .ref (rs_ad G 76)), (2, .ref (rs_ad G 91)), (3, .int (nI j))] [] := by
        intro S2 hI2
        refine ry_iinc (v := 5) C dL_law_1302 rfl (by decide) (by decide) rfl ?_
        rw [rl_5]
        refine ry_goto (tgt := 18) C dL_law_1305 (by decide) ?_
        rcases Nat.lt_or_ge L (j + 5) with q | q
        · omega
        · exact ry_subk (ih (j + 5) S2 q (by omega) hI2) (rs_ac rfl (rs_ac rfl (rs_ac rfl (rs_ac rfl rs_a0))))
      refine ry_aload_n (i := 0) C dL_law_26 rfl rfl rfl ?_
      refine ry_iload_n (i := 3) C dL_law_27 rfl rfl rfl ?_
      refine ry_sld C hX hbl hbA (rl_ix0 hj hL) dL_law_28 rfl ?_
      refine ry_bipush (v := 63) C dL_law_29 (by decide) rfl ?_
      refine ry_iand C dL_law_31 rfl ?_
      obtain ⟨v, hv, ev⟩ := pk_andE (xs (nI j).toNatClampNeg) (m := 63) 6 rfl
      rw [ev]
      by_cases hv36 : 36 ≤ v
      · refine ry_tabOut (tgt := 1302) C dL_law_32 (by rw [nI_toInt (by omega)]; omega) (by decide) ?_
        exact rs_K S hI
      rcases (show v = 0 ∨ v = 1 ∨ v = 2 ∨ v = 3 ∨ v = 4 ∨ v = 5 ∨ v = 6 ∨ v = 7 ∨ v = 8 ∨ v = 9 ∨ v = 10 ∨ v = 11 ∨ v = 12 ∨ v = 13 ∨ v = 14 ∨ v = 15 ∨ v = 16 ∨ v = 17 ∨ v = 18 ∨ v = 19 ∨ v = 20 ∨ v = 21 ∨ v = 22 ∨ v = 23 ∨ v = 24 ∨ v = 25 ∨ v = 26 ∨ v = 27 ∨ v = 28 ∨ v = 29 ∨ v = 30 ∨ v = 31 ∨ v = 32 ∨ v = 33 ∨ v = 34 ∨ v = 35 by omega) with rfl | rfl | rfl | rfl | rfl | rfl | rfl | rfl | rfl | rfl | rfl | rfl | rfl | rfl | rfl | rfl | rfl | rfl | rfl | rfl | rfl | rfl | rfl | rfl | rfl | rfl | rfl | rfl | rfl | rfl | rfl | rfl | rfl | rfl | rfl | rfl
      · obtain ⟨r, S1, S2, h1, h2, hI⟩ := PT.1 S (xs (nI j + 1).toNatClampNeg) hI
        refine ry_tabIn (tgt := 192) C (160) dL_law_32 0 rfl (by decide) (by decide) rfl (by decide) ?_
        refine ry_aload_n (i := 1) C dL_law_192 rfl rfl rfl ?_
        refine ry_aload_n (i := 0) C dL_law_193 rfl rfl rfl ?_
        refine ry_iload_n (i := 3) C dL_law_194 rfl rfl rfl ?_
        refine ry_iconst (v := 1) C dL_law_195 (by decide) rfl ?_
        refine ry_iadd C dL_law_196 rfl ?_
        refine ry_sld C hX hbl hbA (rl_ix 1 rfl hj hL (by decide)) dL_law_197 rfl ?_
        refine ry_callVi (r0 := r) (S0 := S1) C (rs_kd_lt kk_76 (by decide)) (rs_e4 kk_76) rfl (c_X4_feed l G hG S (xs (nI j + 1).toNatClampNeg) _ h1) ⟨wl_L_13, wi_yX4_feed, wx_yX4_feed, wn_X4, wc_yX4_feed⟩ wy_yX4_feed hce (by decide) ⟨rfl, rfl⟩ rfl rfl (Nat.le_of_ble_eq_true rfl) dL_law_198 rfl ?_
        refine ry_aload_n (i := 2) C dL_law_201 rfl rfl rfl ?_
        refine ry_aload_n (i := 0) C dL_law_202 rfl rfl rfl ?_
        refine ry_iload_n (i := 3) C dL_law_203 rfl rfl rfl ?_
        refine ry_iconst (v := 1) C dL_law_204 (by decide) rfl ?_
        refine ry_iadd C dL_law_205 rfl ?_
        refine ry_sld C hX hbl hbA (rl_ix 1 rfl hj hL (by decide)) dL_law_206 rfl ?_
        refine ry_callVi (r0 := r) (S0 := S2) C (rs_kd_lt kk_91 (by decide)) (rs_e5 kk_91) rfl (c_X5_feed l G hG S1 (xs (nI j + 1).toNatClampNeg) _ h2) ⟨wl_L_17, wi_yX5_feed, wx_yX5_feed, wn_X5, wc_yX5_feed⟩ wy_yX5_feed hce (by decide) ⟨rfl, rfl⟩ rfl rfl (Nat.le_of_ble_eq_true rfl) dL_law_207 rfl ?_
        refine ry_icmp_eq (tgt := 1302) C dL_law_210 (by decide) rfl (fun _ => ?_) (fun z => absurd rfl z)
        exact rs_K S2 hI
      · obtain ⟨r, S1, S2, h1, h2, hI⟩ := PT.2.1 S (xs (nI j + 1).toNatClampNeg) hI
        refine ry_tabIn (tgt := 215) C (183) dL_law_32 1 rfl (by decide) (by decide) rfl (by decide) ?_
        refine ry_aload_n (i := 1) C dL_law_215 rfl rfl rfl ?_
        refine ry_aload_n (i := 0) C dL_law_216 rfl rfl rfl ?_
        refine ry_iload_n (i := 3) C dL_law_217 rfl rfl rfl ?_
        refine ry_iconst (v := 1) C dL_law_218 (by decide) rfl ?_
        refine ry_iadd C dL_law_219 rfl ?_
        refine ry_sld C hX hbl hbA (rl_ix 1 rfl hj hL (by decide)) dL_law_220 rfl ?_
        refine ry_callVi (r0 := r) (S0 := S1) C (rs_kd_lt kk_76 (by decide)) (rs_e4 kk_76) rfl (c_X4_end l G hG S (xs (nI j + 1).toNatClampNeg) _ h1) ⟨wl_L_18, wi_yX4_end, wx_yX4_end, wn_X4, wc_yX4_end⟩ wy_yX4_end hce (by decide) ⟨rfl, rfl⟩ rfl rfl (Nat.le_of_ble_eq_true rfl) dL_law_221 rfl ?_
        refine ry_aload_n (i := 2) C dL_law_224 rfl rfl rfl ?_
        refine ry_aload_n (i := 0) C dL_law_225 rfl rfl rfl ?_
        refine ry_iload_n (i := 3) C dL_law_226 rfl rfl rfl ?_
        refine ry_iconst (v := 1) C dL_law_227 (by decide) rfl ?_
        refine ry_iadd C dL_law_228 rfl ?_
        refine ry_sld C hX hbl hbA (rl_ix 1 rfl hj hL (by decide)) dL_law_229 rfl ?_
        refine ry_callVi (r0 := r) (S0 := S2) C (rs_kd_lt kk_91 (by decide)) (rs_e5 kk_91) rfl (c_X5_end l G hG S1 (xs (nI j + 1).toNatClampNeg) _ h2) ⟨wl_L_21, wi_yX5_end, wx_yX5_end, wn_X5, wc_yX5_end⟩ wy_yX5_end hce (by decide) ⟨rfl, rfl⟩ rfl rfl (Nat.le_of_ble_eq_true rfl) dL_law_230 rfl ?_
        refine ry_icmp_eq (tgt := 1302) C dL_law_233 (by decide) rfl (fun _ => ?_) (fun z => absurd rfl z)
        exact rs_K S2 hI
      · obtain ⟨r, S1, S2, h1, h2, hI⟩ := PT.2.2.1 S hI
        refine ry_tabIn (tgt := 238) C (206) dL_law_32 2 rfl (by decide) (by decide) rfl (by decide) ?_
        refine ry_aload_n (i := 1) C dL_law_238 rfl rfl rfl ?_
        refine ry_callVi (r0 := r) (S0 := S1) C (rs_kd_lt kk_76 (by decide)) (rs_e4 kk_76) rfl (c_X4_text l G hG S _ h1) ⟨wl_L_22, wi_yX4_text, wx_yX4_text, wn_X4, wc_yX4_text⟩ wy_yX4_text hce (by decide) ⟨rfl, rfl⟩ rfl rfl (Nat.le_of_ble_eq_true rfl) dL_law_239 rfl ?_
        refine ry_aload_n (i := 2) C dL_law_242 rfl rfl rfl ?_
        refine ry_callVi (r0 := r) (S0 := S2) C (rs_kd_lt kk_91 (by decide)) (rs_e5 kk_91) rfl (c_X5_text l G hG S1 _ h2) ⟨wl_L_26, wi_yX5_text, wx_yX5_text, wn_X5, wc_yX5_text⟩ wy_yX5_text hce (by decide) ⟨rfl, rfl⟩ rfl rfl (Nat.le_of_ble_eq_true rfl) dL_law_243 rfl ?_
        refine ry_icmp_eq (tgt := 1302) C dL_law_246 (by decide) rfl (fun _ => ?_) (fun z => absurd rfl z)
        exact rs_K S2 hI
      · obtain ⟨r, h1, h2, hI⟩ := PT.2.2.2.1 S hI
        refine ry_tabIn (tgt := 251) C (219) dL_law_32 3 rfl (by decide) (by decide) rfl (by decide) ?_
        refine ry_aload_n (i := 1) C dL_law_251 rfl rfl rfl ?_
        refine ry_callVi (r0 := r) (S0 := S) C (rs_kd_lt kk_76 (by decide)) (rs_e4 kk_76) rfl (c_X4_fault l G hG S _ h1) ⟨wl_L_27, wi_yX4_fault, wx_yX4_fault, wn_X4, wc_yX4_fault⟩ wy_yX4_fault hce (by decide) ⟨rfl, rfl⟩ rfl rfl (Nat.le_of_ble_eq_true rfl) dL_law_252 rfl ?_
        refine ry_aload_n (i := 2) C dL_law_255 rfl rfl rfl ?_
        refine ry_callVi (r0 := r) (S0 := S) C (rs_kd_lt kk_91 (by decide)) (rs_e5 kk_91) rfl (c_X5_fault l G hG S _ h2) ⟨wl_L_30, wi_yX5_fault, wx_yX5_fault, wn_X5, wc_yX5_fault⟩ wy_yX5_fault hce (by decide) ⟨rfl, rfl⟩ rfl rfl (Nat.le_of_ble_eq_true rfl) dL_law_256 rfl ?_
        refine ry_icmp_eq (tgt := 1302) C dL_law_259 (by decide) rfl (fun _ => ?_) (fun z => absurd rfl z)
        exact rs_K S hI
      · obtain ⟨r, S2, h1, h2, hI⟩ := PT.2.2.2.2.1 S (xs (nI j + 1).toNatClampNeg) hI
        refine ry_tabIn (tgt := 264) C (232) dL_law_32 4 rfl (by decide) (by decide) rfl (by decide) ?_
        refine ry_aload_n (i := 1) C dL_law_264 rfl rfl rfl ?_
        refine ry_aload_n (i := 0) C dL_law_265 rfl rfl rfl ?_
        refine ry_iload_n (i := 3) C dL_law_266 rfl rfl rfl ?_
        refine ry_iconst (v := 1) C dL_law_267 (by decide) rfl ?_
        refine ry_iadd C dL_law_268 rfl ?_
        refine ry_sld C hX hbl hbA (rl_ix 1 rfl hj hL (by decide)) dL_law_269 rfl ?_
        refine ry_callVi (r0 := r) (S0 := S) C (rs_kd_lt kk_76 (by decide)) (rs_e4 kk_76) rfl (c_X4_rule l G hG S (xs (nI j + 1).toNatClampNeg) _ h1) ⟨wl_L_31, wi_yX4_rule, wx_yX4_rule, wn_X4, wc_yX4_rule⟩ wy_yX4_rule hce (by decide) ⟨rfl, rfl⟩ rfl rfl (Nat.le_of_ble_eq_true rfl) dL_law_270 rfl ?_
        refine ry_aload_n (i := 2) C dL_law_273 rfl rfl rfl ?_
        refine ry_aload_n (i := 0) C dL_law_274 rfl rfl rfl ?_
        refine ry_iload_n (i := 3) C dL_law_275 rfl rfl rfl ?_
        refine ry_iconst (v := 1) C dL_law_276 (by decide) rfl ?_
        refine ry_iadd C dL_law_277 rfl ?_
        refine ry_sld C hX hbl hbA (rl_ix 1 rfl hj hL (by decide)) dL_law_278 rfl ?_
        refine ry_callVi (r0 := r) (S0 := S2) C (rs_kd_lt kk_91 (by decide)) (rs_e5 kk_91) rfl (c_X5_rule l G hG S (xs (nI j + 1).toNatClampNeg) _ h2) ⟨wl_L_34, wi_yX5_rule, wx_yX5_rule, wn_X5, wc_yX5_rule⟩ wy_yX5_rule hce (by decide) ⟨rfl, rfl⟩ rfl rfl (Nat.le_of_ble_eq_true rfl) dL_law_279 rfl ?_
        refine ry_icmp_eq (tgt := 1302) C dL_law_282 (by decide) rfl (fun _ => ?_) (fun z => absurd rfl z)
        exact rs_K S2 hI
      · obtain ⟨r, S2, h1, h2, hI⟩ := PT.2.2.2.2.2.1 S (xs (nI j + 1).toNatClampNeg) (xs (nI j + 2).toNatClampNeg) hI
        refine ry_tabIn (tgt := 287) C (255) dL_law_32 5 rfl (by decide) (by decide) rfl (by decide) ?_
        refine ry_aload_n (i := 1) C dL_law_287 rfl rfl rfl ?_
        refine ry_aload_n (i := 0) C dL_law_288 rfl rfl rfl ?_
        refine ry_iload_n (i := 3) C dL_law_289 rfl rfl rfl ?_
        refine ry_iconst (v := 1) C dL_law_290 (by decide) rfl ?_
        refine ry_iadd C dL_law_291 rfl ?_
        refine ry_sld C hX hbl hbA (rl_ix 1 rfl hj hL (by decide)) dL_law_292 rfl ?_
        refine ry_aload_n (i := 0) C dL_law_293 rfl rfl rfl ?_
        refine ry_iload_n (i := 3) C dL_law_294 rfl rfl rfl ?_
        refine ry_iconst (v := 2) C dL_law_295 (by decide) rfl ?_
        refine ry_iadd C dL_law_296 rfl ?_
        refine ry_sld C hX hbl hbA (rl_ix 2 rfl hj hL (by decide)) dL_law_297 rfl ?_
        refine ry_callVi (r0 := r) (S0 := S) C (rs_kd_lt kk_76 (by decide)) (rs_e4 kk_76) rfl (c_X4_lamp l G hG S (xs (nI j + 1).toNatClampNeg) (xs (nI j + 2).toNatClampNeg) _ h1) ⟨wl_L_35, wi_yX4_lamp, wx_yX4_lamp, wn_X4, wc_yX4_lamp⟩ wy_yX4_lamp hce (by decide) ⟨rfl, rfl⟩ rfl rfl (Nat.le_of_ble_eq_true rfl) dL_law_298 rfl ?_
        refine ry_aload_n (i := 2) C dL_law_301 rfl rfl rfl ?_
        refine ry_aload_n (i := 0) C dL_law_302 rfl rfl rfl ?_
        refine ry_iload_n (i := 3) C dL_law_303 rfl rfl rfl ?_
        refine ry_iconst (v := 1) C dL_law_304 (by decide) rfl ?_
        refine ry_iadd C dL_law_305 rfl ?_
        refine ry_sld C hX hbl hbA (rl_ix 1 rfl hj hL (by decide)) dL_law_306 rfl ?_
        refine ry_aload_n (i := 0) C dL_law_307 rfl rfl rfl ?_
        refine ry_iload_n (i := 3) C dL_law_308 rfl rfl rfl ?_
        refine ry_iconst (v := 2) C dL_law_309 (by decide) rfl ?_
        refine ry_iadd C dL_law_310 rfl ?_
        refine ry_sld C hX hbl hbA (rl_ix 2 rfl hj hL (by decide)) dL_law_311 rfl ?_
        refine ry_callVi (r0 := r) (S0 := S2) C (rs_kd_lt kk_91 (by decide)) (rs_e5 kk_91) rfl (c_X5_lamp l G hG S (xs (nI j + 1).toNatClampNeg) (xs (nI j + 2).toNatClampNeg) _ h2) ⟨wl_L_39, wi_yX5_lamp, wx_yX5_lamp, wn_X5, wc_yX5_lamp⟩ wy_yX5_lamp hce (by decide) ⟨rfl, rfl⟩ rfl rfl (Nat.le_of_ble_eq_true rfl) dL_law_312 rfl ?_
        refine ry_icmp_eq (tgt := 1302) C dL_law_315 (by decide) rfl (fun _ => ?_) (fun z => absurd rfl z)
        exact rs_K S2 hI
      · obtain ⟨r, h1, h2, hI⟩ := PT.2.2.2.2.2.2.1 S (xs (nI j + 1).toNatClampNeg) hI
        refine ry_tabIn (tgt := 320) C (288) dL_law_32 6 rfl (by decide) (by decide) rfl (by decide) ?_
        refine ry_aload_n (i := 1) C dL_law_320 rfl rfl rfl ?_
        refine ry_aload_n (i := 0) C dL_law_321 rfl rfl rfl ?_
        refine ry_iload_n (i := 3) C dL_law_322 rfl rfl rfl ?_
        refine ry_iconst (v := 1) C dL_law_323 (by decide) rfl ?_
        refine ry_iadd C dL_law_324 rfl ?_
        refine ry_sld C hX hbl hbA (rl_ix 1 rfl hj hL (by decide)) dL_law_325 rfl ?_
        refine ry_callVi (r0 := r) (S0 := S) C (rs_kd_lt kk_76 (by decide)) (rs_e4 kk_76) rfl (c_X4_row l G hG S (xs (nI j + 1).toNatClampNeg) _ h1) ⟨wl_L_40, wi_yX4_row, wx_yX4_row, wn_X4, wc_yX4_row⟩ wy_yX4_row hce (by decide) ⟨rfl, rfl⟩ rfl rfl (Nat.le_of_ble_eq_true rfl) dL_law_326 rfl ?_
        refine ry_aload_n (i := 2) C dL_law_329 rfl rfl rfl ?_
        refine ry_aload_n (i := 0) C dL_law_330 rfl rfl rfl ?_
        refine ry_iload_n (i := 3) C dL_law_331 rfl rfl rfl ?_
        refine ry_iconst (v := 1) C dL_law_332 (by decide) rfl ?_
        refine ry_iadd C dL_law_333 rfl ?_
        refine ry_sld C hX hbl hbA (rl_ix 1 rfl hj hL (by decide)) dL_law_334 rfl ?_
        refine ry_callVi (r0 := r) (S0 := S) C (rs_kd_lt kk_91 (by decide)) (rs_e5 kk_91) rfl (c_X5_row l G hG S (xs (nI j + 1).toNatClampNeg) _ h2) ⟨wl_L_43, wi_yX5_row, wx_yX5_row, wn_X5, wc_yX5_row⟩ wy_yX5_row hce (by decide) ⟨rfl, rfl⟩ rfl rfl (Nat.le_of_ble_eq_true rfl) dL_law_335 rfl ?_
        refine ry_icmp_eq (tgt := 1302) C dL_law_338 (by decide) rfl (fun _ => ?_) (fun z => absurd rfl z)
        exact rs_K S hI
      · obtain ⟨r, S1, S2, h1, h2, hI⟩ := PT.2.2.2.2.2.2.2.1 S (xs (nI j + 1).toNatClampNeg) (xs (nI j + 2).toNatClampNeg) (xs (nI j + 3).toNatClampNeg) hI
        refine ry_tabIn (tgt := 343) C (311) dL_law_32 7 rfl (by decide) (by decide) rfl (by decide) ?_
        refine ry_aload_n (i := 1) C dL_law_343 rfl rfl rfl ?_
        refine ry_aload_n (i := 0) C dL_law_344 rfl rfl rfl ?_
        refine ry_iload_n (i := 3) C dL_law_345 rfl rfl rfl ?_
        refine ry_iconst (v := 1) C dL_law_346 (by decide) rfl ?_
        refine ry_iadd C dL_law_347 rfl ?_
        refine ry_sld C hX hbl hbA (rl_ix 1 rfl hj hL (by decide)) dL_law_348 rfl ?_
        refine ry_aload_n (i := 0) C dL_law_349 rfl rfl rfl ?_
        refine ry_iload_n (i := 3) C dL_law_350 rfl rfl rfl ?_
        refine ry_iconst (v := 2) C dL_law_351 (by decide) rfl ?_
        refine ry_iadd C dL_law_352 rfl ?_
        refine ry_sld C hX hbl hbA (rl_ix 2 rfl hj hL (by decide)) dL_law_353 rfl ?_
        refine ry_aload_n (i := 0) C dL_law_354 rfl rfl rfl ?_
        refine ry_iload_n (i := 3) C dL_law_355 rfl rfl rfl ?_
        refine ry_iconst (v := 3) C dL_law_356 (by decide) rfl ?_
        refine ry_iadd C dL_law_357 rfl ?_
        refine ry_sld C hX hbl hbA (rl_ix 3 rfl hj hL (by decide)) dL_law_358 rfl ?_
        refine ry_callVi (r0 := r) (S0 := S1) C (rs_kd_lt kk_76 (by decide)) (rs_e4 kk_76) rfl (c_X4_alter l G hG S (xs (nI j + 1).toNatClampNeg) (xs (nI j + 2).toNatClampNeg) (xs (nI j + 3).toNatClampNeg) _ h1) ⟨wl_L_44, wi_yX4_alter, wx_yX4_alter, wn_X4, wc_yX4_alter⟩ wy_yX4_alter hce (by decide) ⟨rfl, rfl⟩ rfl rfl (Nat.le_of_ble_eq_true rfl) dL_law_359 rfl ?_
        refine ry_aload_n (i := 2) C dL_law_362 rfl rfl rfl ?_
        refine ry_aload_n (i := 0) C dL_law_363 rfl rfl rfl ?_
        refine ry_iload_n (i := 3) C dL_law_364 rfl rfl rfl ?_
        refine ry_iconst (v := 1) C dL_law_365 (by decide) rfl ?_
        refine ry_iadd C dL_law_366 rfl ?_
        refine ry_sld C hX hbl hbA (rl_ix 1 rfl hj hL (by decide)) dL_law_367 rfl ?_
        refine ry_aload_n (i := 0) C dL_law_368 rfl rfl rfl ?_
        refine ry_iload_n (i := 3) C dL_law_369 rfl rfl rfl ?_
        refine ry_iconst (v := 2) C dL_law_370 (by decide) rfl ?_
        refine ry_iadd C dL_law_371 rfl ?_
        refine ry_sld C hX hbl hbA (rl_ix 2 rfl hj hL (by decide)) dL_law_372 rfl ?_
        refine ry_aload_n (i := 0) C dL_law_373 rfl rfl rfl ?_
        refine ry_iload_n (i := 3) C dL_law_374 rfl rfl rfl ?_
        refine ry_iconst (v := 3) C dL_law_375 (by decide) rfl ?_
        refine ry_iadd C dL_law_376 rfl ?_
        refine ry_sld C hX hbl hbA (rl_ix 3 rfl hj hL (by decide)) dL_law_377 rfl ?_
        refine ry_callVi (r0 := r) (S0 := S2) C (rs_kd_lt kk_91 (by decide)) (rs_e5 kk_91) rfl (c_X5_alter l G hG S1 (xs (nI j + 1).toNatClampNeg) (xs (nI j + 2).toNatClampNeg) (xs (nI j + 3).toNatClampNeg) _ h2) ⟨wl_L_48, wi_yX5_alter, wx_yX5_alter, wn_X5, wc_yX5_alter⟩ wy_yX5_alter hce (by decide) ⟨rfl, rfl⟩ rfl rfl (Nat.le_of_ble_eq_true rfl) dL_law_378 rfl ?_
        refine ry_icmp_eq (tgt := 1302) C dL_law_381 (by decide) rfl (fun _ => ?_) (fun z => absurd rfl z)
        exact rs_K S2 hI
      · obtain ⟨r, S1, S2, h1, h2, hI⟩ := PT.2.2.2.2.2.2.2.2.1 S (xs (nI j + 1).toNatClampNeg) (xs (nI j + 2).toNatClampNeg) hI
        refine ry_tabIn (tgt := 386) C (354) dL_law_32 8 rfl (by decide) (by decide) rfl (by decide) ?_
        refine ry_aload_n (i := 1) C dL_law_386 rfl rfl rfl ?_
        refine ry_aload_n (i := 0) C dL_law_387 rfl rfl rfl ?_
        refine ry_iload_n (i := 3) C dL_law_388 rfl rfl rfl ?_
        refine ry_iconst (v := 1) C dL_law_389 (by decide) rfl ?_
        refine ry_iadd C dL_law_390 rfl ?_
        refine ry_sld C hX hbl hbA (rl_ix 1 rfl hj hL (by decide)) dL_law_391 rfl ?_
        refine ry_aload_n (i := 0) C dL_law_392 rfl rfl rfl ?_
        refine ry_iload_n (i := 3) C dL_law_393 rfl rfl rfl ?_
        refine ry_iconst (v := 2) C dL_law_394 (by decide) rfl ?_
        refine ry_iadd C dL_law_395 rfl ?_
        refine ry_sld C hX hbl hbA (rl_ix 2 rfl hj hL (by decide)) dL_law_396 rfl ?_
        refine ry_callVi (r0 := r) (S0 := S1) C (rs_kd_lt kk_76 (by decide)) (rs_e4 kk_76) rfl (c_X4_tell l G hG S (xs (nI j + 1).toNatClampNeg) (xs (nI j + 2).toNatClampNeg) _ h1) ⟨wl_L_49, wi_yX4_tell, wx_yX4_tell, wn_X4, wc_yX4_tell⟩ wy_yX4_tell hce (by decide) ⟨rfl, rfl⟩ rfl rfl (Nat.le_of_ble_eq_true rfl) dL_law_397 rfl ?_
        refine ry_aload_n (i := 2) C dL_law_400 rfl rfl rfl ?_
        refine ry_aload_n (i := 0) C dL_law_401 rfl rfl rfl ?_
        refine ry_iload_n (i := 3) C dL_law_402 rfl rfl rfl ?_
        refine ry_iconst (v := 1) C dL_law_403 (by decide) rfl ?_
        refine ry_iadd C dL_law_404 rfl ?_
        refine ry_sld C hX hbl hbA (rl_ix 1 rfl hj hL (by decide)) dL_law_405 rfl ?_
        refine ry_aload_n (i := 0) C dL_law_406 rfl rfl rfl ?_
        refine ry_iload_n (i := 3) C dL_law_407 rfl rfl rfl ?_
        refine ry_iconst (v := 2) C dL_law_408 (by decide) rfl ?_
        refine ry_iadd C dL_law_409 rfl ?_
        refine ry_sld C hX hbl hbA (rl_ix 2 rfl hj hL (by decide)) dL_law_410 rfl ?_
        refine ry_callVi (r0 := r) (S0 := S2) C (rs_kd_lt kk_91 (by decide)) (rs_e5 kk_91) rfl (c_X5_tell l G hG S1 (xs (nI j + 1).toNatClampNeg) (xs (nI j + 2).toNatClampNeg) _ h2) ⟨wl_L_52, wi_yX5_tell, wx_yX5_tell, wn_X5, wc_yX5_tell⟩ wy_yX5_tell hce (by decide) ⟨rfl, rfl⟩ rfl rfl (Nat.le_of_ble_eq_true rfl) dL_law_411 rfl ?_
        refine ry_icmp_eq (tgt := 1302) C dL_law_414 (by decide) rfl (fun _ => ?_) (fun z => absurd rfl z)
        exact rs_K S2 hI
      · obtain ⟨r, S1, S2, h1, h2, hI⟩ := PT.2.2.2.2.2.2.2.2.2.1 S (xs (nI j + 1).toNatClampNeg) (xs (nI j + 2).toNatClampNeg) (xs (nI j + 3).toNatClampNeg) hI
        refine ry_tabIn (tgt := 419) C (387) dL_law_32 9 rfl (by decide) (by decide) rfl (by decide) ?_
        refine ry_aload_n (i := 1) C dL_law_419 rfl rfl rfl ?_
        refine ry_aload_n (i := 0) C dL_law_420 rfl rfl rfl ?_
        refine ry_iload_n (i := 3) C dL_law_421 rfl rfl rfl ?_
        refine ry_iconst (v := 1) C dL_law_422 (by decide) rfl ?_
        refine ry_iadd C dL_law_423 rfl ?_
        refine ry_sld C hX hbl hbA (rl_ix 1 rfl hj hL (by decide)) dL_law_424 rfl ?_
        refine ry_aload_n (i := 0) C dL_law_425 rfl rfl rfl ?_
        refine ry_iload_n (i := 3) C dL_law_426 rfl rfl rfl ?_
        refine ry_iconst (v := 2) C dL_law_427 (by decide) rfl ?_
        refine ry_iadd C dL_law_428 rfl ?_
        refine ry_sld C hX hbl hbA (rl_ix 2 rfl hj hL (by decide)) dL_law_429 rfl ?_
        refine ry_aload_n (i := 0) C dL_law_430 rfl rfl rfl ?_
        refine ry_iload_n (i := 3) C dL_law_431 rfl rfl rfl ?_
        refine ry_iconst (v := 3) C dL_law_432 (by decide) rfl ?_
        refine ry_iadd C dL_law_433 rfl ?_
        refine ry_sld C hX hbl hbA (rl_ix 3 rfl hj hL (by decide)) dL_law_434 rfl ?_
        refine ry_callVi (r0 := r) (S0 := S1) C (rs_kd_lt kk_76 (by decide)) (rs_e4 kk_76) rfl (c_X4_put l G hG S (xs (nI j + 1).toNatClampNeg) (xs (nI j + 2).toNatClampNeg) (xs (nI j + 3).toNatClampNeg) _ h1) ⟨wl_L_53, wi_yX4_put, wx_yX4_put, wn_X4, wc_yX4_put⟩ wy_yX4_put hce (by decide) ⟨rfl, rfl⟩ rfl rfl (Nat.le_of_ble_eq_true rfl) dL_law_435 rfl ?_
        refine ry_aload_n (i := 2) C dL_law_438 rfl rfl rfl ?_
        refine ry_aload_n (i := 0) C dL_law_439 rfl rfl rfl ?_
        refine ry_iload_n (i := 3) C dL_law_440 rfl rfl rfl ?_
        refine ry_iconst (v := 1) C dL_law_441 (by decide) rfl ?_
        refine ry_iadd C dL_law_442 rfl ?_
        refine ry_sld C hX hbl hbA (rl_ix 1 rfl hj hL (by decide)) dL_law_443 rfl ?_
        refine ry_aload_n (i := 0) C dL_law_444 rfl rfl rfl ?_
        refine ry_iload_n (i := 3) C dL_law_445 rfl rfl rfl ?_
        refine ry_iconst (v := 2) C dL_law_446 (by decide) rfl ?_
        refine ry_iadd C dL_law_447 rfl ?_
        refine ry_sld C hX hbl hbA (rl_ix 2 rfl hj hL (by decide)) dL_law_448 rfl ?_
        refine ry_aload_n (i := 0) C dL_law_449 rfl rfl rfl ?_
        refine ry_iload_n (i := 3) C dL_law_450 rfl rfl rfl ?_
        refine ry_iconst (v := 3) C dL_law_451 (by decide) rfl ?_
        refine ry_iadd C dL_law_452 rfl ?_
        refine ry_sld C hX hbl hbA (rl_ix 3 rfl hj hL (by decide)) dL_law_453 rfl ?_
        refine ry_callVi (r0 := r) (S0 := S2) C (rs_kd_lt kk_91 (by decide)) (rs_e5 kk_91) rfl (c_X5_put l G hG S1 (xs (nI j + 1).toNatClampNeg) (xs (nI j + 2).toNatClampNeg) (xs (nI j + 3).toNatClampNeg) _ h2) ⟨wl_L_56, wi_yX5_put, wx_yX5_put, wn_X5, wc_yX5_put⟩ wy_yX5_put hce (by decide) ⟨rfl, rfl⟩ rfl rfl (Nat.le_of_ble_eq_true rfl) dL_law_454 rfl ?_
        refine ry_icmp_eq (tgt := 1302) C dL_law_457 (by decide) rfl (fun _ => ?_) (fun z => absurd rfl z)
        exact rs_K S2 hI
      · obtain ⟨r, S1, S2, h1, h2, hI⟩ := PT.2.2.2.2.2.2.2.2.2.2.1 S (xs (nI j + 1).toNatClampNeg) hI
        refine ry_tabIn (tgt := 462) C (430) dL_law_32 10 rfl (by decide) (by decide) rfl (by decide) ?_
        refine ry_aload_n (i := 1) C dL_law_462 rfl rfl rfl ?_
        refine ry_aload_n (i := 0) C dL_law_463 rfl rfl rfl ?_
        refine ry_iload_n (i := 3) C dL_law_464 rfl rfl rfl ?_
        refine ry_iconst (v := 1) C dL_law_465 (by decide) rfl ?_
        refine ry_iadd C dL_law_466 rfl ?_
        refine ry_sld C hX hbl hbA (rl_ix 1 rfl hj hL (by decide)) dL_law_467 rfl ?_
        refine ry_callVi (r0 := r) (S0 := S1) C (rs_kd_lt kk_76 (by decide)) (rs_e4 kk_76) rfl (c_X4_cut l G hG S (xs (nI j + 1).toNatClampNeg) _ h1) ⟨wl_L_57, wi_yX4_cut, wx_yX4_cut, wn_X4, wc_yX4_cut⟩ wy_yX4_cut hce (by decide) ⟨rfl, rfl⟩ rfl rfl (Nat.le_of_ble_eq_true rfl) dL_law_468 rfl ?_
        refine ry_aload_n (i := 2) C dL_law_471 rfl rfl rfl ?_
        refine ry_aload_n (i := 0) C dL_law_472 rfl rfl rfl ?_
        refine ry_iload_n (i := 3) C dL_law_473 rfl rfl rfl ?_
        refine ry_iconst (v := 1) C dL_law_474 (by decide) rfl ?_
        refine ry_iadd C dL_law_475 rfl ?_
        refine ry_sld C hX hbl hbA (rl_ix 1 rfl hj hL (by decide)) dL_law_476 rfl ?_
        refine ry_callVi (r0 := r) (S0 := S2) C (rs_kd_lt kk_91 (by decide)) (rs_e5 kk_91) rfl (c_X5_cut l G hG S1 (xs (nI j + 1).toNatClampNeg) _ h2) ⟨wl_L_60, wi_yX5_cut, wx_yX5_cut, wn_X5, wc_yX5_cut⟩ wy_yX5_cut hce (by decide) ⟨rfl, rfl⟩ rfl rfl (Nat.le_of_ble_eq_true rfl) dL_law_477 rfl ?_
        refine ry_icmp_eq (tgt := 1302) C dL_law_480 (by decide) rfl (fun _ => ?_) (fun z => absurd rfl z)
        exact rs_K S2 hI
      · obtain ⟨r, S1, S2, h1, h2, hI⟩ := PT.2.2.2.2.2.2.2.2.2.2.2.1 S (xs (nI j + 1).toNatClampNeg) hI
        refine ry_tabIn (tgt := 485) C (453) dL_law_32 11 rfl (by decide) (by decide) rfl (by decide) ?_
        refine ry_aload_n (i := 1) C dL_law_485 rfl rfl rfl ?_
        refine ry_aload_n (i := 0) C dL_law_486 rfl rfl rfl ?_
        refine ry_iload_n (i := 3) C dL_law_487 rfl rfl rfl ?_
        refine ry_iconst (v := 1) C dL_law_488 (by decide) rfl ?_
        refine ry_iadd C dL_law_489 rfl ?_
        refine ry_sld C hX hbl hbA (rl_ix 1 rfl hj hL (by decide)) dL_law_490 rfl ?_
        refine ry_callVi (r0 := r) (S0 := S1) C (rs_kd_lt kk_76 (by decide)) (rs_e4 kk_76) rfl (c_X4_rest l G hG S (xs (nI j + 1).toNatClampNeg) _ h1) ⟨wl_L_61, wi_yX4_rest, wx_yX4_rest, wn_X4, wc_yX4_rest⟩ wy_yX4_rest hce (by decide) ⟨rfl, rfl⟩ rfl rfl (Nat.le_of_ble_eq_true rfl) dL_law_491 rfl ?_
        refine ry_aload_n (i := 2) C dL_law_494 rfl rfl rfl ?_
        refine ry_aload_n (i := 0) C dL_law_495 rfl rfl rfl ?_
        refine ry_iload_n (i := 3) C dL_law_496 rfl rfl rfl ?_
        refine ry_iconst (v := 1) C dL_law_497 (by decide) rfl ?_
        refine ry_iadd C dL_law_498 rfl ?_
        refine ry_sld C hX hbl hbA (rl_ix 1 rfl hj hL (by decide)) dL_law_499 rfl ?_
        refine ry_callVi (r0 := r) (S0 := S2) C (rs_kd_lt kk_91 (by decide)) (rs_e5 kk_91) rfl (c_X5_rest l G hG S1 (xs (nI j + 1).toNatClampNeg) _ h2) ⟨wl_L_64, wi_yX5_rest, wx_yX5_rest, wn_X5, wc_yX5_rest⟩ wy_yX5_rest hce (by decide) ⟨rfl, rfl⟩ rfl rfl (Nat.le_of_ble_eq_true rfl) dL_law_500 rfl ?_
        refine ry_icmp_eq (tgt := 1302) C dL_law_503 (by decide) rfl (fun _ => ?_) (fun z => absurd rfl z)
        exact rs_K S2 hI
      · obtain ⟨r, S1, S2, h1, h2, hI⟩ := PT.2.2.2.2.2.2.2.2.2.2.2.2.1 S (xs (nI j + 1).toNatClampNeg) hI
        refine ry_tabIn (tgt := 508) C (476) dL_law_32 12 rfl (by decide) (by decide) rfl (by decide) ?_
        refine ry_aload_n (i := 1) C dL_law_508 rfl rfl rfl ?_
        refine ry_aload_n (i := 0) C dL_law_509 rfl rfl rfl ?_
        refine ry_iload_n (i := 3) C dL_law_510 rfl rfl rfl ?_
        refine ry_iconst (v := 1) C dL_law_511 (by decide) rfl ?_
        refine ry_iadd C dL_law_512 rfl ?_
        refine ry_sld C hX hbl hbA (rl_ix 1 rfl hj hL (by decide)) dL_law_513 rfl ?_
        refine ry_callVi (r0 := r) (S0 := S1) C (rs_kd_lt kk_76 (by decide)) (rs_e4 kk_76) rfl (c_X4_shoot l G hG S (xs (nI j + 1).toNatClampNeg) _ h1) ⟨wl_L_65, wi_yX4_shoot, wx_yX4_shoot, wn_X4, wc_yX4_shoot⟩ wy_yX4_shoot hce (by decide) ⟨rfl, rfl⟩ rfl rfl (Nat.le_of_ble_eq_true rfl) dL_law_514 rfl ?_
        refine ry_aload_n (i := 2) C dL_law_517 rfl rfl rfl ?_
        refine ry_aload_n (i := 0) C dL_law_518 rfl rfl rfl ?_
        refine ry_iload_n (i := 3) C dL_law_519 rfl rfl rfl ?_
        refine ry_iconst (v := 1) C dL_law_520 (by decide) rfl ?_
        refine ry_iadd C dL_law_521 rfl ?_
        refine ry_sld C hX hbl hbA (rl_ix 1 rfl hj hL (by decide)) dL_law_522 rfl ?_
        refine ry_callVi (r0 := r) (S0 := S2) C (rs_kd_lt kk_91 (by decide)) (rs_e5 kk_91) rfl (c_X5_shoot l G hG S1 (xs (nI j + 1).toNatClampNeg) _ h2) ⟨wl_L_68, wi_yX5_shoot, wx_yX5_shoot, wn_X5, wc_yX5_shoot⟩ wy_yX5_shoot hce (by decide) ⟨rfl, rfl⟩ rfl rfl (Nat.le_of_ble_eq_true rfl) dL_law_523 rfl ?_
        refine ry_icmp_eq (tgt := 1302) C dL_law_526 (by decide) rfl (fun _ => ?_) (fun z => absurd rfl z)
        exact rs_K S2 hI
      · obtain ⟨r, S2, h1, h2, hI⟩ := PT.2.2.2.2.2.2.2.2.2.2.2.2.2.1 S (xs (nI j + 1).toNatClampNeg) (xs (nI j + 2).toNatClampNeg) hI
        refine ry_tabIn (tgt := 531) C (499) dL_law_32 13 rfl (by decide) (by decide) rfl (by decide) ?_
        refine ry_aload_n (i := 1) C dL_law_531 rfl rfl rfl ?_
        refine ry_aload_n (i := 0) C dL_law_532 rfl rfl rfl ?_
        refine ry_iload_n (i := 3) C dL_law_533 rfl rfl rfl ?_
        refine ry_iconst (v := 1) C dL_law_534 (by decide) rfl ?_
        refine ry_iadd C dL_law_535 rfl ?_
        refine ry_sld C hX hbl hbA (rl_ix 1 rfl hj hL (by decide)) dL_law_536 rfl ?_
        refine ry_aload_n (i := 0) C dL_law_537 rfl rfl rfl ?_
        refine ry_iload_n (i := 3) C dL_law_538 rfl rfl rfl ?_
        refine ry_iconst (v := 2) C dL_law_539 (by decide) rfl ?_
        refine ry_iadd C dL_law_540 rfl ?_
        refine ry_sld C hX hbl hbA (rl_ix 2 rfl hj hL (by decide)) dL_law_541 rfl ?_
        refine ry_callVi (r0 := r) (S0 := S) C (rs_kd_lt kk_76 (by decide)) (rs_e4 kk_76) rfl (c_X4_runs l G hG S (xs (nI j + 1).toNatClampNeg) (xs (nI j + 2).toNatClampNeg) _ h1) ⟨wl_L_69, wi_yX4_runs, wx_yX4_runs, wn_X4, wc_yX4_runs⟩ wy_yX4_runs hce (by decide) ⟨rfl, rfl⟩ rfl rfl (Nat.le_of_ble_eq_true rfl) dL_law_542 rfl ?_
        refine ry_aload_n (i := 2) C dL_law_545 rfl rfl rfl ?_
        refine ry_aload_n (i := 0) C dL_law_546 rfl rfl rfl ?_
        refine ry_iload_n (i := 3) C dL_law_547 rfl rfl rfl ?_
        refine ry_iconst (v := 1) C dL_law_548 (by decide) rfl ?_
        refine ry_iadd C dL_law_549 rfl ?_
        refine ry_sld C hX hbl hbA (rl_ix 1 rfl hj hL (by decide)) dL_law_550 rfl ?_
        refine ry_aload_n (i := 0) C dL_law_551 rfl rfl rfl ?_
        refine ry_iload_n (i := 3) C dL_law_552 rfl rfl rfl ?_
        refine ry_iconst (v := 2) C dL_law_553 (by decide) rfl ?_
        refine ry_iadd C dL_law_554 rfl ?_
        refine ry_sld C hX hbl hbA (rl_ix 2 rfl hj hL (by decide)) dL_law_555 rfl ?_
        refine ry_callVi (r0 := r) (S0 := S2) C (rs_kd_lt kk_91 (by decide)) (rs_e5 kk_91) rfl (c_X5_runs l G hG S (xs (nI j + 1).toNatClampNeg) (xs (nI j + 2).toNatClampNeg) _ h2) ⟨wl_L_72, wi_yX5_runs, wx_yX5_runs, wn_X5, wc_yX5_runs⟩ wy_yX5_runs hce (by decide) ⟨rfl, rfl⟩ rfl rfl (Nat.le_of_ble_eq_true rfl) dL_law_556 rfl ?_
        refine ry_icmp_eq (tgt := 1302) C dL_law_559 (by decide) rfl (fun _ => ?_) (fun z => absurd rfl z)
        exact rs_K S2 hI
      · obtain ⟨r, S2, h1, h2, hI⟩ := PT.2.2.2.2.2.2.2.2.2.2.2.2.2.2.1 S (xs (nI j + 1).toNatClampNeg) (xs (nI j + 2).toNatClampNeg) hI
        refine ry_tabIn (tgt := 564) C (532) dL_law_32 14 rfl (by decide) (by decide) rfl (by decide) ?_
        refine ry_aload_n (i := 1) C dL_law_564 rfl rfl rfl ?_
        refine ry_aload_n (i := 0) C dL_law_565 rfl rfl rfl ?_
        refine ry_iload_n (i := 3) C dL_law_566 rfl rfl rfl ?_
        refine ry_iconst (v := 1) C dL_law_567 (by decide) rfl ?_
        refine ry_iadd C dL_law_568 rfl ?_
        refine ry_sld C hX hbl hbA (rl_ix 1 rfl hj hL (by decide)) dL_law_569 rfl ?_
        refine ry_aload_n (i := 0) C dL_law_570 rfl rfl rfl ?_
        refine ry_iload_n (i := 3) C dL_law_571 rfl rfl rfl ?_
        refine ry_iconst (v := 2) C dL_law_572 (by decide) rfl ?_
        refine ry_iadd C dL_law_573 rfl ?_
        refine ry_sld C hX hbl hbA (rl_ix 2 rfl hj hL (by decide)) dL_law_574 rfl ?_
        refine ry_callVi (r0 := r) (S0 := S) C (rs_kd_lt kk_76 (by decide)) (rs_e4 kk_76) rfl (c_X4_ahead l G hG S (xs (nI j + 1).toNatClampNeg) (xs (nI j + 2).toNatClampNeg) _ h1) ⟨wl_L_73, wi_yX4_ahead, wx_yX4_ahead, wn_X4, wc_yX4_ahead⟩ wy_yX4_ahead hce (by decide) ⟨rfl, rfl⟩ rfl rfl (Nat.le_of_ble_eq_true rfl) dL_law_575 rfl ?_
        refine ry_aload_n (i := 2) C dL_law_578 rfl rfl rfl ?_
        refine ry_aload_n (i := 0) C dL_law_579 rfl rfl rfl ?_
        refine ry_iload_n (i := 3) C dL_law_580 rfl rfl rfl ?_
        refine ry_iconst (v := 1) C dL_law_581 (by decide) rfl ?_
        refine ry_iadd C dL_law_582 rfl ?_
        refine ry_sld C hX hbl hbA (rl_ix 1 rfl hj hL (by decide)) dL_law_583 rfl ?_
        refine ry_aload_n (i := 0) C dL_law_584 rfl rfl rfl ?_
        refine ry_iload_n (i := 3) C dL_law_585 rfl rfl rfl ?_
        refine ry_iconst (v := 2) C dL_law_586 (by decide) rfl ?_
        refine ry_iadd C dL_law_587 rfl ?_
        refine ry_sld C hX hbl hbA (rl_ix 2 rfl hj hL (by decide)) dL_law_588 rfl ?_
        refine ry_callVi (r0 := r) (S0 := S2) C (rs_kd_lt kk_91 (by decide)) (rs_e5 kk_91) rfl (c_X5_ahead l G hG S (xs (nI j + 1).toNatClampNeg) (xs (nI j + 2).toNatClampNeg) _ h2) ⟨wl_L_76, wi_yX5_ahead, wx_yX5_ahead, wn_X5, wc_yX5_ahead⟩ wy_yX5_ahead hce (by decide) ⟨rfl, rfl⟩ rfl rfl (Nat.le_of_ble_eq_true rfl) dL_law_589 rfl ?_
        refine ry_icmp_eq (tgt := 1302) C dL_law_592 (by decide) rfl (fun _ => ?_) (fun z => absurd rfl z)
        exact rs_K S2 hI
      · obtain ⟨r, S2, h1, h2, hI⟩ := PT.2.2.2.2.2.2.2.2.2.2.2.2.2.2.2.1 S (xs (nI j + 1).toNatClampNeg) hI
        refine ry_tabIn (tgt := 597) C (565) dL_law_32 15 rfl (by decide) (by decide) rfl (by decide) ?_
        refine ry_aload_n (i := 1) C dL_law_597 rfl rfl rfl ?_
        refine ry_aload_n (i := 0) C dL_law_598 rfl rfl rfl ?_
        refine ry_iload_n (i := 3) C dL_law_599 rfl rfl rfl ?_
        refine ry_iconst (v := 1) C dL_law_600 (by decide) rfl ?_
        refine ry_iadd C dL_law_601 rfl ?_
        refine ry_sld C hX hbl hbA (rl_ix 1 rfl hj hL (by decide)) dL_law_602 rfl ?_
        refine ry_callVi (r0 := r) (S0 := S) C (rs_kd_lt kk_76 (by decide)) (rs_e4 kk_76) rfl (c_X4_when l G hG S (xs (nI j + 1).toNatClampNeg) _ h1) ⟨wl_L_77, wi_yX4_when, wx_yX4_when, wn_X4, wc_yX4_when⟩ wy_yX4_when hce (by decide) ⟨rfl, rfl⟩ rfl rfl (Nat.le_of_ble_eq_true rfl) dL_law_603 rfl ?_
        refine ry_aload_n (i := 2) C dL_law_606 rfl rfl rfl ?_
        refine ry_aload_n (i := 0) C dL_law_607 rfl rfl rfl ?_
        refine ry_iload_n (i := 3) C dL_law_608 rfl rfl rfl ?_
        refine ry_iconst (v := 1) C dL_law_609 (by decide) rfl ?_
        refine ry_iadd C dL_law_610 rfl ?_
        refine ry_sld C hX hbl hbA (rl_ix 1 rfl hj hL (by decide)) dL_law_611 rfl ?_
        refine ry_callVi (r0 := r) (S0 := S2) C (rs_kd_lt kk_91 (by decide)) (rs_e5 kk_91) rfl (c_X5_when l G hG S (xs (nI j + 1).toNatClampNeg) _ h2) ⟨wl_L_80, wi_yX5_when, wx_yX5_when, wn_X5, wc_yX5_when⟩ wy_yX5_when hce (by decide) ⟨rfl, rfl⟩ rfl rfl (Nat.le_of_ble_eq_true rfl) dL_law_612 rfl ?_
        refine ry_icmp_eq (tgt := 1302) C dL_law_615 (by decide) rfl (fun _ => ?_) (fun z => absurd rfl z)
        exact rs_K S2 hI
      · obtain ⟨r, S2, h1, h2, hI⟩ := PT.2.2.2.2.2.2.2.2.2.2.2.2.2.2.2.2.1 S hI
        refine ry_tabIn (tgt := 620) C (588) dL_law_32 16 rfl (by decide) (by decide) rfl (by decide) ?_
        refine ry_aload_n (i := 1) C dL_law_620 rfl rfl rfl ?_
        refine ry_callVi (r0 := r) (S0 := S) C (rs_kd_lt kk_76 (by decide)) (rs_e4 kk_76) rfl (c_X4_again l G hG S _ h1) ⟨wl_L_81, wi_yX4_again, wx_yX4_again, wn_X4, wc_yX4_again⟩ wy_yX4_again hce (by decide) ⟨rfl, rfl⟩ rfl rfl (Nat.le_of_ble_eq_true rfl) dL_law_621 rfl ?_
        refine ry_aload_n (i := 2) C dL_law_624 rfl rfl rfl ?_
        refine ry_callVi (r0 := r) (S0 := S2) C (rs_kd_lt kk_91 (by decide)) (rs_e5 kk_91) rfl (c_X5_again l G hG S _ h2) ⟨wl_L_84, wi_yX5_again, wx_yX5_again, wn_X5, wc_yX5_again⟩ wy_yX5_again hce (by decide) ⟨rfl, rfl⟩ rfl rfl (Nat.le_of_ble_eq_true rfl) dL_law_625 rfl ?_
        refine ry_icmp_eq (tgt := 1302) C dL_law_628 (by decide) rfl (fun _ => ?_) (fun z => absurd rfl z)
        exact rs_K S2 hI
      · obtain ⟨r, S1, S2, h1, h2, hI⟩ := PT.2.2.2.2.2.2.2.2.2.2.2.2.2.2.2.2.2.1 S (xs (nI j + 1).toNatClampNeg) (xs (nI j + 2).toNatClampNeg) (xs (nI j + 3).toNatClampNeg) hI
        refine ry_tabIn (tgt := 633) C (601) dL_law_32 17 rfl (by decide) (by decide) rfl (by decide) ?_
        refine ry_aload_n (i := 1) C dL_law_633 rfl rfl rfl ?_
        refine ry_aload_n (i := 0) C dL_law_634 rfl rfl rfl ?_
        refine ry_iload_n (i := 3) C dL_law_635 rfl rfl rfl ?_
        refine ry_iconst (v := 1) C dL_law_636 (by decide) rfl ?_
        refine ry_iadd C dL_law_637 rfl ?_
        refine ry_sld C hX hbl hbA (rl_ix 1 rfl hj hL (by decide)) dL_law_638 rfl ?_
        refine ry_aload_n (i := 0) C dL_law_639 rfl rfl rfl ?_
        refine ry_iload_n (i := 3) C dL_law_640 rfl rfl rfl ?_
        refine ry_iconst (v := 2) C dL_law_641 (by decide) rfl ?_
        refine ry_iadd C dL_law_642 rfl ?_
        refine ry_sld C hX hbl hbA (rl_ix 2 rfl hj hL (by decide)) dL_law_643 rfl ?_
        refine ry_aload_n (i := 0) C dL_law_644 rfl rfl rfl ?_
        refine ry_iload_n (i := 3) C dL_law_645 rfl rfl rfl ?_
        refine ry_iconst (v := 3) C dL_law_646 (by decide) rfl ?_
        refine ry_iadd C dL_law_647 rfl ?_
        refine ry_sld C hX hbl hbA (rl_ix 3 rfl hj hL (by decide)) dL_law_648 rfl ?_
        refine ry_callVi (r0 := r) (S0 := S1) C (rs_kd_lt kk_76 (by decide)) (rs_e4 kk_76) rfl (c_X4_best l G hG S (xs (nI j + 1).toNatClampNeg) (xs (nI j + 2).toNatClampNeg) (xs (nI j + 3).toNatClampNeg) _ h1) ⟨wl_L_85, wi_yX4_best, wx_yX4_best, wn_X4, wc_yX4_best⟩ wy_yX4_best hce (by decide) ⟨rfl, rfl⟩ rfl rfl (Nat.le_of_ble_eq_true rfl) dL_law_649 rfl ?_
        refine ry_aload_n (i := 2) C dL_law_652 rfl rfl rfl ?_
        refine ry_aload_n (i := 0) C dL_law_653 rfl rfl rfl ?_
        refine ry_iload_n (i := 3) C dL_law_654 rfl rfl rfl ?_
        refine ry_iconst (v := 1) C dL_law_655 (by decide) rfl ?_
        refine ry_iadd C dL_law_656 rfl ?_
        refine ry_sld C hX hbl hbA (rl_ix 1 rfl hj hL (by decide)) dL_law_657 rfl ?_
        refine ry_aload_n (i := 0) C dL_law_658 rfl rfl rfl ?_
        refine ry_iload_n (i := 3) C dL_law_659 rfl rfl rfl ?_
        refine ry_iconst (v := 2) C dL_law_660 (by decide) rfl ?_
        refine ry_iadd C dL_law_661 rfl ?_
        refine ry_sld C hX hbl hbA (rl_ix 2 rfl hj hL (by decide)) dL_law_662 rfl ?_
        refine ry_aload_n (i := 0) C dL_law_663 rfl rfl rfl ?_
        refine ry_iload_n (i := 3) C dL_law_664 rfl rfl rfl ?_
        refine ry_iconst (v := 3) C dL_law_665 (by decide) rfl ?_
        refine ry_iadd C dL_law_666 rfl ?_
        refine ry_sld C hX hbl hbA (rl_ix 3 rfl hj hL (by decide)) dL_law_667 rfl ?_
        refine ry_callVi (r0 := r) (S0 := S2) C (rs_kd_lt kk_91 (by decide)) (rs_e5 kk_91) rfl (c_X5_best l G hG S1 (xs (nI j + 1).toNatClampNeg) (xs (nI j + 2).toNatClampNeg) (xs (nI j + 3).toNatClampNeg) _ h2) ⟨wl_L_88, wi_yX5_best, wx_yX5_best, wn_X5, wc_yX5_best⟩ wy_yX5_best hce (by decide) ⟨rfl, rfl⟩ rfl rfl (Nat.le_of_ble_eq_true rfl) dL_law_668 rfl ?_
        refine ry_icmp_eq (tgt := 1302) C dL_law_671 (by decide) rfl (fun _ => ?_) (fun z => absurd rfl z)
        exact rs_K S2 hI
      · obtain ⟨r, S1, S2, h1, h2, hI⟩ := PT.2.2.2.2.2.2.2.2.2.2.2.2.2.2.2.2.2.2.1 S (xs (nI j + 1).toNatClampNeg) (xs (nI j + 2).toNatClampNeg) (xs (nI j + 3).toNatClampNeg) hI
        refine ry_tabIn (tgt := 676) C (644) dL_law_32 18 rfl (by decide) (by decide) rfl (by decide) ?_
        refine ry_aload_n (i := 1) C dL_law_676 rfl rfl rfl ?_
        refine ry_aload_n (i := 0) C dL_law_677 rfl rfl rfl ?_
        refine ry_iload_n (i := 3) C dL_law_678 rfl rfl rfl ?_
        refine ry_iconst (v := 1) C dL_law_679 (by decide) rfl ?_
        refine ry_iadd C dL_law_680 rfl ?_
        refine ry_sld C hX hbl hbA (rl_ix 1 rfl hj hL (by decide)) dL_law_681 rfl ?_
        refine ry_aload_n (i := 0) C dL_law_682 rfl rfl rfl ?_
        refine ry_iload_n (i := 3) C dL_law_683 rfl rfl rfl ?_
        refine ry_iconst (v := 2) C dL_law_684 (by decide) rfl ?_
        refine ry_iadd C dL_law_685 rfl ?_
        refine ry_sld C hX hbl hbA (rl_ix 2 rfl hj hL (by decide)) dL_law_686 rfl ?_
        refine ry_aload_n (i := 0) C dL_law_687 rfl rfl rfl ?_
        refine ry_iload_n (i := 3) C dL_law_688 rfl rfl rfl ?_
        refine ry_iconst (v := 3) C dL_law_689 (by decide) rfl ?_
        refine ry_iadd C dL_law_690 rfl ?_
        refine ry_sld C hX hbl hbA (rl_ix 3 rfl hj hL (by decide)) dL_law_691 rfl ?_
        refine ry_callVi (r0 := r) (S0 := S1) C (rs_kd_lt kk_76 (by decide)) (rs_e4 kk_76) rfl (c_X4_kind l G hG S (xs (nI j + 1).toNatClampNeg) (xs (nI j + 2).toNatClampNeg) (xs (nI j + 3).toNatClampNeg) _ h1) ⟨wl_L_89, wi_yX4_kind, wx_yX4_kind, wn_X4, wc_yX4_kind⟩ wy_yX4_kind hce (by decide) ⟨rfl, rfl⟩ rfl rfl (Nat.le_of_ble_eq_true rfl) dL_law_692 rfl ?_
        refine ry_aload_n (i := 2) C dL_law_695 rfl rfl rfl ?_
        refine ry_aload_n (i := 0) C dL_law_696 rfl rfl rfl ?_
        refine ry_iload_n (i := 3) C dL_law_697 rfl rfl rfl ?_
        refine ry_iconst (v := 1) C dL_law_698 (by decide) rfl ?_
        refine ry_iadd C dL_law_699 rfl ?_
        refine ry_sld C hX hbl hbA (rl_ix 1 rfl hj hL (by decide)) dL_law_700 rfl ?_
        refine ry_aload_n (i := 0) C dL_law_701 rfl rfl rfl ?_
        refine ry_iload_n (i := 3) C dL_law_702 rfl rfl rfl ?_
        refine ry_iconst (v := 2) C dL_law_703 (by decide) rfl ?_
        refine ry_iadd C dL_law_704 rfl ?_
        refine ry_sld C hX hbl hbA (rl_ix 2 rfl hj hL (by decide)) dL_law_705 rfl ?_
        refine ry_aload_n (i := 0) C dL_law_706 rfl rfl rfl ?_
        refine ry_iload_n (i := 3) C dL_law_707 rfl rfl rfl ?_
        refine ry_iconst (v := 3) C dL_law_708 (by decide) rfl ?_
        refine ry_iadd C dL_law_709 rfl ?_
        refine ry_sld C hX hbl hbA (rl_ix 3 rfl hj hL (by decide)) dL_law_710 rfl ?_
        refine ry_callVi (r0 := r) (S0 := S2) C (rs_kd_lt kk_91 (by decide)) (rs_e5 kk_91) rfl (c_X5_kind l G hG S1 (xs (nI j + 1).toNatClampNeg) (xs (nI j + 2).toNatClampNeg) (xs (nI j + 3).toNatClampNeg) _ h2) ⟨wl_L_92, wi_yX5_kind, wx_yX5_kind, wn_X5, wc_yX5_kind⟩ wy_yX5_kind hce (by decide) ⟨rfl, rfl⟩ rfl rfl (Nat.le_of_ble_eq_true rfl) dL_law_711 rfl ?_
        refine ry_icmp_eq (tgt := 1302) C dL_law_714 (by decide) rfl (fun _ => ?_) (fun z => absurd rfl z)
        exact rs_K S2 hI
      · obtain ⟨r, S1, S2, h1, h2, hI⟩ := PT.2.2.2.2.2.2.2.2.2.2.2.2.2.2.2.2.2.2.2.1 S (xs (nI j + 1).toNatClampNeg) (xs (nI j + 2).toNatClampNeg) (xs (nI j + 3).toNatClampNeg) hI
        refine ry_tabIn (tgt := 719) C (687) dL_law_32 19 rfl (by decide) (by decide) rfl (by decide) ?_
        refine ry_aload_n (i := 1) C dL_law_719 rfl rfl rfl ?_
        refine ry_aload_n (i := 0) C dL_law_720 rfl rfl rfl ?_
        refine ry_iload_n (i := 3) C dL_law_721 rfl rfl rfl ?_
        refine ry_iconst (v := 1) C dL_law_722 (by decide) rfl ?_
        refine ry_iadd C dL_law_723 rfl ?_
        refine ry_sld C hX hbl hbA (rl_ix 1 rfl hj hL (by decide)) dL_law_724 rfl ?_
        refine ry_aload_n (i := 0) C dL_law_725 rfl rfl rfl ?_
        refine ry_iload_n (i := 3) C dL_law_726 rfl rfl rfl ?_
        refine ry_iconst (v := 2) C dL_law_727 (by decide) rfl ?_
        refine ry_iadd C dL_law_728 rfl ?_
        refine ry_sld C hX hbl hbA (rl_ix 2 rfl hj hL (by decide)) dL_law_729 rfl ?_
        refine ry_aload_n (i := 0) C dL_law_730 rfl rfl rfl ?_
        refine ry_iload_n (i := 3) C dL_law_731 rfl rfl rfl ?_
        refine ry_iconst (v := 3) C dL_law_732 (by decide) rfl ?_
        refine ry_iadd C dL_law_733 rfl ?_
        refine ry_sld C hX hbl hbA (rl_ix 3 rfl hj hL (by decide)) dL_law_734 rfl ?_
        refine ry_callVi (r0 := r) (S0 := S1) C (rs_kd_lt kk_76 (by decide)) (rs_e4 kk_76) rfl (c_X4_phase l G hG S (xs (nI j + 1).toNatClampNeg) (xs (nI j + 2).toNatClampNeg) (xs (nI j + 3).toNatClampNeg) _ h1) ⟨wl_L_93, wi_yX4_phase, wx_yX4_phase, wn_X4, wc_yX4_phase⟩ wy_yX4_phase hce (by decide) ⟨rfl, rfl⟩ rfl rfl (Nat.le_of_ble_eq_true rfl) dL_law_735 rfl ?_
        refine ry_aload_n (i := 2) C dL_law_738 rfl rfl rfl ?_
        refine ry_aload_n (i := 0) C dL_law_739 rfl rfl rfl ?_
        refine ry_iload_n (i := 3) C dL_law_740 rfl rfl rfl ?_
        refine ry_iconst (v := 1) C dL_law_741 (by decide) rfl ?_
        refine ry_iadd C dL_law_742 rfl ?_
        refine ry_sld C hX hbl hbA (rl_ix 1 rfl hj hL (by decide)) dL_law_743 rfl ?_
        refine ry_aload_n (i := 0) C dL_law_744 rfl rfl rfl ?_
        refine ry_iload_n (i := 3) C dL_law_745 rfl rfl rfl ?_
        refine ry_iconst (v := 2) C dL_law_746 (by decide) rfl ?_
        refine ry_iadd C dL_law_747 rfl ?_
        refine ry_sld C hX hbl hbA (rl_ix 2 rfl hj hL (by decide)) dL_law_748 rfl ?_
        refine ry_aload_n (i := 0) C dL_law_749 rfl rfl rfl ?_
        refine ry_iload_n (i := 3) C dL_law_750 rfl rfl rfl ?_
        refine ry_iconst (v := 3) C dL_law_751 (by decide) rfl ?_
        refine ry_iadd C dL_law_752 rfl ?_
        refine ry_sld C hX hbl hbA (rl_ix 3 rfl hj hL (by decide)) dL_law_753 rfl ?_
        refine ry_callVi (r0 := r) (S0 := S2) C (rs_kd_lt kk_91 (by decide)) (rs_e5 kk_91) rfl (c_X5_phase l G hG S1 (xs (nI j + 1).toNatClampNeg) (xs (nI j + 2).toNatClampNeg) (xs (nI j + 3).toNatClampNeg) _ h2) ⟨wl_L_96, wi_yX5_phase, wx_yX5_phase, wn_X5, wc_yX5_phase⟩ wy_yX5_phase hce (by decide) ⟨rfl, rfl⟩ rfl rfl (Nat.le_of_ble_eq_true rfl) dL_law_754 rfl ?_
        refine ry_icmp_eq (tgt := 1302) C dL_law_757 (by decide) rfl (fun _ => ?_) (fun z => absurd rfl z)
        exact rs_K S2 hI
      · obtain ⟨r, S1, S2, h1, h2, hI⟩ := PT.2.2.2.2.2.2.2.2.2.2.2.2.2.2.2.2.2.2.2.2.1 S (xs (nI j + 1).toNatClampNeg) (xs (nI j + 2).toNatClampNeg) hI
        refine ry_tabIn (tgt := 762) C (730) dL_law_32 20 rfl (by decide) (by decide) rfl (by decide) ?_
        refine ry_aload_n (i := 1) C dL_law_762 rfl rfl rfl ?_
        refine ry_aload_n (i := 0) C dL_law_763 rfl rfl rfl ?_
        refine ry_iload_n (i := 3) C dL_law_764 rfl rfl rfl ?_
        refine ry_iconst (v := 1) C dL_law_765 (by decide) rfl ?_
        refine ry_iadd C dL_law_766 rfl ?_
        refine ry_sld C hX hbl hbA (rl_ix 1 rfl hj hL (by decide)) dL_law_767 rfl ?_
        refine ry_aload_n (i := 0) C dL_law_768 rfl rfl rfl ?_
        refine ry_iload_n (i := 3) C dL_law_769 rfl rfl rfl ?_
        refine ry_iconst (v := 2) C dL_law_770 (by decide) rfl ?_
        refine ry_iadd C dL_law_771 rfl ?_
        refine ry_sld C hX hbl hbA (rl_ix 2 rfl hj hL (by decide)) dL_law_772 rfl ?_
        refine ry_callVi (r0 := r) (S0 := S1) C (rs_kd_lt kk_76 (by decide)) (rs_e4 kk_76) rfl (c_X4_out l G hG S (xs (nI j + 1).toNatClampNeg) (xs (nI j + 2).toNatClampNeg) _ h1) ⟨wl_L_97, wi_yX4_out, wx_yX4_out, wn_X4, wc_yX4_out⟩ wy_yX4_out hce (by decide) ⟨rfl, rfl⟩ rfl rfl (Nat.le_of_ble_eq_true rfl) dL_law_773 rfl ?_
        refine ry_aload_n (i := 2) C dL_law_776 rfl rfl rfl ?_
        refine ry_aload_n (i := 0) C dL_law_777 rfl rfl rfl ?_
        refine ry_iload_n (i := 3) C dL_law_778 rfl rfl rfl ?_
        refine ry_iconst (v := 1) C dL_law_779 (by decide) rfl ?_
        refine ry_iadd C dL_law_780 rfl ?_
        refine ry_sld C hX hbl hbA (rl_ix 1 rfl hj hL (by decide)) dL_law_781 rfl ?_
        refine ry_aload_n (i := 0) C dL_law_782 rfl rfl rfl ?_
        refine ry_iload_n (i := 3) C dL_law_783 rfl rfl rfl ?_
        refine ry_iconst (v := 2) C dL_law_784 (by decide) rfl ?_
        refine ry_iadd C dL_law_785 rfl ?_
        refine ry_sld C hX hbl hbA (rl_ix 2 rfl hj hL (by decide)) dL_law_786 rfl ?_
        refine ry_callVi (r0 := r) (S0 := S2) C (rs_kd_lt kk_91 (by decide)) (rs_e5 kk_91) rfl (c_X5_out l G hG S1 (xs (nI j + 1).toNatClampNeg) (xs (nI j + 2).toNatClampNeg) _ h2) ⟨wl_L_100, wi_yX5_out, wx_yX5_out, wn_X5, wc_yX5_out⟩ wy_yX5_out hce (by decide) ⟨rfl, rfl⟩ rfl rfl (Nat.le_of_ble_eq_true rfl) dL_law_787 rfl ?_
        refine ry_icmp_eq (tgt := 1302) C dL_law_790 (by decide) rfl (fun _ => ?_) (fun z => absurd rfl z)
        exact rs_K S2 hI
      · obtain ⟨r, S1, S2, h1, h2, hI⟩ := PT.2.2.2.2.2.2.2.2.2.2.2.2.2.2.2.2.2.2.2.2.2.1 S (xs (nI j + 1).toNatClampNeg) (xs (nI j + 2).toNatClampNeg) (xs (nI j + 3).toNatClampNeg) (xs (nI j + 4).toNatClampNeg) hI
        refine ry_tabIn (tgt := 795) C (763) dL_law_32 21 rfl (by decide) (by decide) rfl (by decide) ?_
        refine ry_aload_n (i := 1) C dL_law_795 rfl rfl rfl ?_
        refine ry_aload_n (i := 0) C dL_law_796 rfl rfl rfl ?_
        refine ry_iload_n (i := 3) C dL_law_797 rfl rfl rfl ?_
        refine ry_iconst (v := 1) C dL_law_798 (by decide) rfl ?_
        refine ry_iadd C dL_law_799 rfl ?_
        refine ry_sld C hX hbl hbA (rl_ix 1 rfl hj hL (by decide)) dL_law_800 rfl ?_
        refine ry_aload_n (i := 0) C dL_law_801 rfl rfl rfl ?_
        refine ry_iload_n (i := 3) C dL_law_802 rfl rfl rfl ?_
        refine ry_iconst (v := 2) C dL_law_803 (by decide) rfl ?_
        refine ry_iadd C dL_law_804 rfl ?_
        refine ry_sld C hX hbl hbA (rl_ix 2 rfl hj hL (by decide)) dL_law_805 rfl ?_
        refine ry_aload_n (i := 0) C dL_law_806 rfl rfl rfl ?_
        refine ry_iload_n (i := 3) C dL_law_807 rfl rfl rfl ?_
        refine ry_iconst (v := 3) C dL_law_808 (by decide) rfl ?_
        refine ry_iadd C dL_law_809 rfl ?_
        refine ry_sld C hX hbl hbA (rl_ix 3 rfl hj hL (by decide)) dL_law_810 rfl ?_
        refine ry_aload_n (i := 0) C dL_law_811 rfl rfl rfl ?_
        refine ry_iload_n (i := 3) C dL_law_812 rfl rfl rfl ?_
        refine ry_iconst (v := 4) C dL_law_813 (by decide) rfl ?_
        refine ry_iadd C dL_law_814 rfl ?_
        refine ry_sld C hX hbl hbA (rl_ix 4 rfl hj hL (by decide)) dL_law_815 rfl ?_
        refine ry_callVl (r0 := r) (S0 := S1) C (rs_kd_lt kk_76 (by decide)) (rs_e4 kk_76) rfl (c_X4_luck l G hG S (xs (nI j + 1).toNatClampNeg) (xs (nI j + 2).toNatClampNeg) (xs (nI j + 3).toNatClampNeg) (xs (nI j + 4).toNatClampNeg) _ h1) ⟨wl_L_101, wi_yX4_luck, wx_yX4_luck, wn_X4, wc_yX4_luck⟩ wy_yX4_luck hce (by decide) ⟨rfl, rfl⟩ rfl rfl (Nat.le_of_ble_eq_true rfl) dL_law_816 rfl ?_
        refine ry_aload_n (i := 2) C dL_law_819 rfl rfl rfl ?_
        refine ry_aload_n (i := 0) C dL_law_820 rfl rfl rfl ?_
        refine ry_iload_n (i := 3) C dL_law_821 rfl rfl rfl ?_
        refine ry_iconst (v := 1) C dL_law_822 (by decide) rfl ?_
        refine ry_iadd C dL_law_823 rfl ?_
        refine ry_sld C hX hbl hbA (rl_ix 1 rfl hj hL (by decide)) dL_law_824 rfl ?_
        refine ry_aload_n (i := 0) C dL_law_825 rfl rfl rfl ?_
        refine ry_iload_n (i := 3) C dL_law_826 rfl rfl rfl ?_
        refine ry_iconst (v := 2) C dL_law_827 (by decide) rfl ?_
        refine ry_iadd C dL_law_828 rfl ?_
        refine ry_sld C hX hbl hbA (rl_ix 2 rfl hj hL (by decide)) dL_law_829 rfl ?_
        refine ry_aload_n (i := 0) C dL_law_830 rfl rfl rfl ?_
        refine ry_iload_n (i := 3) C dL_law_831 rfl rfl rfl ?_
        refine ry_iconst (v := 3) C dL_law_832 (by decide) rfl ?_
        refine ry_iadd C dL_law_833 rfl ?_
        refine ry_sld C hX hbl hbA (rl_ix 3 rfl hj hL (by decide)) dL_law_834 rfl ?_
        refine ry_aload_n (i := 0) C dL_law_835 rfl rfl rfl ?_
        refine ry_iload_n (i := 3) C dL_law_836 rfl rfl rfl ?_
        refine ry_iconst (v := 4) C dL_law_837 (by decide) rfl ?_
        refine ry_iadd C dL_law_838 rfl ?_
        refine ry_sld C hX hbl hbA (rl_ix 4 rfl hj hL (by decide)) dL_law_839 rfl ?_
        refine ry_callVl (r0 := r) (S0 := S2) C (rs_kd_lt kk_91 (by decide)) (rs_e5 kk_91) rfl (c_X5_luck l G hG S1 (xs (nI j + 1).toNatClampNeg) (xs (nI j + 2).toNatClampNeg) (xs (nI j + 3).toNatClampNeg) (xs (nI j + 4).toNatClampNeg) _ h2) ⟨wl_L_105, wi_yX5_luck, wx_yX5_luck, wn_X5, wc_yX5_luck⟩ wy_yX5_luck hce (by decide) ⟨rfl, rfl⟩ rfl rfl (Nat.le_of_ble_eq_true rfl) dL_law_840 rfl ?_
        refine ry_lcmp C dL_law_843 rfl ?_
        refine ry_if_eq (tgt := 1302) C dL_law_844 (by decide) rfl (fun _ => ?_) (fun z => absurd rl_cmp z)
        exact rs_K S2 hI
      · obtain ⟨r, S1, S2, h1, h2, hI⟩ := PT.2.2.2.2.2.2.2.2.2.2.2.2.2.2.2.2.2.2.2.2.2.2.1 S (xs (nI j + 1).toNatClampNeg) (xs (nI j + 2).toNatClampNeg) (xs (nI j + 3).toNatClampNeg) hI
        refine ry_tabIn (tgt := 849) C (817) dL_law_32 22 rfl (by decide) (by decide) rfl (by decide) ?_
        refine ry_aload_n (i := 1) C dL_law_849 rfl rfl rfl ?_
        refine ry_aload_n (i := 0) C dL_law_850 rfl rfl rfl ?_
        refine ry_iload_n (i := 3) C dL_law_851 rfl rfl rfl ?_
        refine ry_iconst (v := 1) C dL_law_852 (by decide) rfl ?_
        refine ry_iadd C dL_law_853 rfl ?_
        refine ry_sld C hX hbl hbA (rl_ix 1 rfl hj hL (by decide)) dL_law_854 rfl ?_
        refine ry_aload_n (i := 0) C dL_law_855 rfl rfl rfl ?_
        refine ry_iload_n (i := 3) C dL_law_856 rfl rfl rfl ?_
        refine ry_iconst (v := 2) C dL_law_857 (by decide) rfl ?_
        refine ry_iadd C dL_law_858 rfl ?_
        refine ry_sld C hX hbl hbA (rl_ix 2 rfl hj hL (by decide)) dL_law_859 rfl ?_
        refine ry_aload_n (i := 0) C dL_law_860 rfl rfl rfl ?_
        refine ry_iload_n (i := 3) C dL_law_861 rfl rfl rfl ?_
        refine ry_iconst (v := 3) C dL_law_862 (by decide) rfl ?_
        refine ry_iadd C dL_law_863 rfl ?_
        refine ry_sld C hX hbl hbA (rl_ix 3 rfl hj hL (by decide)) dL_law_864 rfl ?_
        refine ry_callVl (r0 := r) (S0 := S1) C (rs_kd_lt kk_76 (by decide)) (rs_e4 kk_76) rfl (c_X4_mean l G hG S (xs (nI j + 1).toNatClampNeg) (xs (nI j + 2).toNatClampNeg) (xs (nI j + 3).toNatClampNeg) _ h1) ⟨wl_L_106, wi_yX4_mean, wx_yX4_mean, wn_X4, wc_yX4_mean⟩ wy_yX4_mean hce (by decide) ⟨rfl, rfl⟩ rfl rfl (Nat.le_of_ble_eq_true rfl) dL_law_865 rfl ?_
        refine ry_aload_n (i := 2) C dL_law_868 rfl rfl rfl ?_
        refine ry_aload_n (i := 0) C dL_law_869 rfl rfl rfl ?_
        refine ry_iload_n (i := 3) C dL_law_870 rfl rfl rfl ?_
        refine ry_iconst (v := 1) C dL_law_871 (by decide) rfl ?_
        refine ry_iadd C dL_law_872 rfl ?_
        refine ry_sld C hX hbl hbA (rl_ix 1 rfl hj hL (by decide)) dL_law_873 rfl ?_
        refine ry_aload_n (i := 0) C dL_law_874 rfl rfl rfl ?_
        refine ry_iload_n (i := 3) C dL_law_875 rfl rfl rfl ?_
        refine ry_iconst (v := 2) C dL_law_876 (by decide) rfl ?_
        refine ry_iadd C dL_law_877 rfl ?_
        refine ry_sld C hX hbl hbA (rl_ix 2 rfl hj hL (by decide)) dL_law_878 rfl ?_
        refine ry_aload_n (i := 0) C dL_law_879 rfl rfl rfl ?_
        refine ry_iload_n (i := 3) C dL_law_880 rfl rfl rfl ?_
        refine ry_iconst (v := 3) C dL_law_881 (by decide) rfl ?_
        refine ry_iadd C dL_law_882 rfl ?_
        refine ry_sld C hX hbl hbA (rl_ix 3 rfl hj hL (by decide)) dL_law_883 rfl ?_
        refine ry_callVl (r0 := r) (S0 := S2) C (rs_kd_lt kk_91 (by decide)) (rs_e5 kk_91) rfl (c_X5_mean l G hG S1 (xs (nI j + 1).toNatClampNeg) (xs (nI j + 2).toNatClampNeg) (xs (nI j + 3).toNatClampNeg) _ h2) ⟨wl_L_110, wi_yX5_mean, wx_yX5_mean, wn_X5, wc_yX5_mean⟩ wy_yX5_mean hce (by decide) ⟨rfl, rfl⟩ rfl rfl (Nat.le_of_ble_eq_true rfl) dL_law_884 rfl ?_
        refine ry_lcmp C dL_law_887 rfl ?_
        refine ry_if_eq (tgt := 1302) C dL_law_888 (by decide) rfl (fun _ => ?_) (fun z => absurd rl_cmp z)
        exact rs_K S2 hI
      · obtain ⟨r, S1, S2, h1, h2, hI⟩ := PT.2.2.2.2.2.2.2.2.2.2.2.2.2.2.2.2.2.2.2.2.2.2.2.1 S (xs (nI j + 1).toNatClampNeg) (xs (nI j + 2).toNatClampNeg) (xs (nI j + 3).toNatClampNeg) hI
        refine ry_tabIn (tgt := 893) C (861) dL_law_32 23 rfl (by decide) (by decide) rfl (by decide) ?_
        refine ry_aload_n (i := 1) C dL_law_893 rfl rfl rfl ?_
        refine ry_aload_n (i := 0) C dL_law_894 rfl rfl rfl ?_
        refine ry_iload_n (i := 3) C dL_law_895 rfl rfl rfl ?_
        refine ry_iconst (v := 1) C dL_law_896 (by decide) rfl ?_
        refine ry_iadd C dL_law_897 rfl ?_
        refine ry_sld C hX hbl hbA (rl_ix 1 rfl hj hL (by decide)) dL_law_898 rfl ?_
        refine ry_aload_n (i := 0) C dL_law_899 rfl rfl rfl ?_
        refine ry_iload_n (i := 3) C dL_law_900 rfl rfl rfl ?_
        refine ry_iconst (v := 2) C dL_law_901 (by decide) rfl ?_
        refine ry_iadd C dL_law_902 rfl ?_
        refine ry_sld C hX hbl hbA (rl_ix 2 rfl hj hL (by decide)) dL_law_903 rfl ?_
        refine ry_aload_n (i := 0) C dL_law_904 rfl rfl rfl ?_
        refine ry_iload_n (i := 3) C dL_law_905 rfl rfl rfl ?_
        refine ry_iconst (v := 3) C dL_law_906 (by decide) rfl ?_
        refine ry_iadd C dL_law_907 rfl ?_
        refine ry_sld C hX hbl hbA (rl_ix 3 rfl hj hL (by decide)) dL_law_908 rfl ?_
        refine ry_callVi (r0 := r) (S0 := S1) C (rs_kd_lt kk_76 (by decide)) (rs_e4 kk_76) rfl (c_X4_see l G hG S (xs (nI j + 1).toNatClampNeg) (xs (nI j + 2).toNatClampNeg) (xs (nI j + 3).toNatClampNeg) _ h1) ⟨wl_L_111, wi_yX4_see, wx_yX4_see, wn_X4, wc_yX4_see⟩ wy_yX4_see hce (by decide) ⟨rfl, rfl⟩ rfl rfl (Nat.le_of_ble_eq_true rfl) dL_law_909 rfl ?_
        refine ry_aload_n (i := 2) C dL_law_912 rfl rfl rfl ?_
        refine ry_aload_n (i := 0) C dL_law_913 rfl rfl rfl ?_
        refine ry_iload_n (i := 3) C dL_law_914 rfl rfl rfl ?_
        refine ry_iconst (v := 1) C dL_law_915 (by decide) rfl ?_
        refine ry_iadd C dL_law_916 rfl ?_
        refine ry_sld C hX hbl hbA (rl_ix 1 rfl hj hL (by decide)) dL_law_917 rfl ?_
        refine ry_aload_n (i := 0) C dL_law_918 rfl rfl rfl ?_
        refine ry_iload_n (i := 3) C dL_law_919 rfl rfl rfl ?_
        refine ry_iconst (v := 2) C dL_law_920 (by decide) rfl ?_
        refine ry_iadd C dL_law_921 rfl ?_
        refine ry_sld C hX hbl hbA (rl_ix 2 rfl hj hL (by decide)) dL_law_922 rfl ?_
        refine ry_aload_n (i := 0) C dL_law_923 rfl rfl rfl ?_
        refine ry_iload_n (i := 3) C dL_law_924 rfl rfl rfl ?_
        refine ry_iconst (v := 3) C dL_law_925 (by decide) rfl ?_
        refine ry_iadd C dL_law_926 rfl ?_
        refine ry_sld C hX hbl hbA (rl_ix 3 rfl hj hL (by decide)) dL_law_927 rfl ?_
        refine ry_callVi (r0 := r) (S0 := S2) C (rs_kd_lt kk_91 (by decide)) (rs_e5 kk_91) rfl (c_X5_see l G hG S1 (xs (nI j + 1).toNatClampNeg) (xs (nI j + 2).toNatClampNeg) (xs (nI j + 3).toNatClampNeg) _ h2) ⟨wl_L_114, wi_yX5_see, wx_yX5_see, wn_X5, wc_yX5_see⟩ wy_yX5_see hce (by decide) ⟨rfl, rfl⟩ rfl rfl (Nat.le_of_ble_eq_true rfl) dL_law_928 rfl ?_
        refine ry_icmp_eq (tgt := 1302) C dL_law_931 (by decide) rfl (fun _ => ?_) (fun z => absurd rfl z)
        exact rs_K S2 hI
      · obtain ⟨r, S1, S2, h1, h2, hI⟩ := PT.2.2.2.2.2.2.2.2.2.2.2.2.2.2.2.2.2.2.2.2.2.2.2.2.1 S (xs (nI j + 1).toNatClampNeg) hI
        refine ry_tabIn (tgt := 936) C (904) dL_law_32 24 rfl (by decide) (by decide) rfl (by decide) ?_
        refine ry_aload_n (i := 1) C dL_law_936 rfl rfl rfl ?_
        refine ry_aload_n (i := 0) C dL_law_937 rfl rfl rfl ?_
        refine ry_iload_n (i := 3) C dL_law_938 rfl rfl rfl ?_
        refine ry_iconst (v := 1) C dL_law_939 (by decide) rfl ?_
        refine ry_iadd C dL_law_940 rfl ?_
        refine ry_sld C hX hbl hbA (rl_ix 1 rfl hj hL (by decide)) dL_law_941 rfl ?_
        refine ry_callVi (r0 := r) (S0 := S1) C (rs_kd_lt kk_76 (by decide)) (rs_e4 kk_76) rfl (c_X4_forget l G hG S (xs (nI j + 1).toNatClampNeg) _ h1) ⟨wl_L_115, wi_yX4_forget, wx_yX4_forget, wn_X4, wc_yX4_forget⟩ wy_yX4_forget hce (by decide) ⟨rfl, rfl⟩ rfl rfl (Nat.le_of_ble_eq_true rfl) dL_law_942 rfl ?_
        refine ry_aload_n (i := 2) C dL_law_945 rfl rfl rfl ?_
        refine ry_aload_n (i := 0) C dL_law_946 rfl rfl rfl ?_
        refine ry_iload_n (i := 3) C dL_law_947 rfl rfl rfl ?_
        refine ry_iconst (v := 1) C dL_law_948 (by decide) rfl ?_
        refine ry_iadd C dL_law_949 rfl ?_
        refine ry_sld C hX hbl hbA (rl_ix 1 rfl hj hL (by decide)) dL_law_950 rfl ?_
        refine ry_callVi (r0 := r) (S0 := S2) C (rs_kd_lt kk_91 (by decide)) (rs_e5 kk_91) rfl (c_X5_forget l G hG S1 (xs (nI j + 1).toNatClampNeg) _ h2) ⟨wl_L_118, wi_yX5_forget, wx_yX5_forget, wn_X5, wc_yX5_forget⟩ wy_yX5_forget hce (by decide) ⟨rfl, rfl⟩ rfl rfl (Nat.le_of_ble_eq_true rfl) dL_law_951 rfl ?_
        refine ry_icmp_eq (tgt := 1302) C dL_law_954 (by decide) rfl (fun _ => ?_) (fun z => absurd rfl z)
        exact rs_K S2 hI
      · obtain ⟨r, S1, S2, h1, h2, hI⟩ := PT.2.2.2.2.2.2.2.2.2.2.2.2.2.2.2.2.2.2.2.2.2.2.2.2.2.1 S (xs (nI j + 1).toNatClampNeg) hI
        refine ry_tabIn (tgt := 959) C (927) dL_law_32 25 rfl (by decide) (by decide) rfl (by decide) ?_
        refine ry_aload_n (i := 1) C dL_law_959 rfl rfl rfl ?_
        refine ry_aload_n (i := 0) C dL_law_960 rfl rfl rfl ?_
        refine ry_iload_n (i := 3) C dL_law_961 rfl rfl rfl ?_
        refine ry_iconst (v := 1) C dL_law_962 (by decide) rfl ?_
        refine ry_iadd C dL_law_963 rfl ?_
        refine ry_sld C hX hbl hbA (rl_ix 1 rfl hj hL (by decide)) dL_law_964 rfl ?_
        refine ry_callVi (r0 := r) (S0 := S1) C (rs_kd_lt kk_76 (by decide)) (rs_e4 kk_76) rfl (c_X4_kinds l G hG S (xs (nI j + 1).toNatClampNeg) _ h1) ⟨wl_L_119, wi_yX4_kinds, wx_yX4_kinds, wn_X4, wc_yX4_kinds⟩ wy_yX4_kinds hce (by decide) ⟨rfl, rfl⟩ rfl rfl (Nat.le_of_ble_eq_true rfl) dL_law_965 rfl ?_
        refine ry_aload_n (i := 2) C dL_law_968 rfl rfl rfl ?_
        refine ry_aload_n (i := 0) C dL_law_969 rfl rfl rfl ?_
        refine ry_iload_n (i := 3) C dL_law_970 rfl rfl rfl ?_
        refine ry_iconst (v := 1) C dL_law_971 (by decide) rfl ?_
        refine ry_iadd C dL_law_972 rfl ?_
        refine ry_sld C hX hbl hbA (rl_ix 1 rfl hj hL (by decide)) dL_law_973 rfl ?_
        refine ry_callVi (r0 := r) (S0 := S2) C (rs_kd_lt kk_91 (by decide)) (rs_e5 kk_91) rfl (c_X5_kinds l G hG S1 (xs (nI j + 1).toNatClampNeg) _ h2) ⟨wl_L_122, wi_yX5_kinds, wx_yX5_kinds, wn_X5, wc_yX5_kinds⟩ wy_yX5_kinds hce (by decide) ⟨rfl, rfl⟩ rfl rfl (Nat.le_of_ble_eq_true rfl) dL_law_974 rfl ?_
        refine ry_icmp_eq (tgt := 1302) C dL_law_977 (by decide) rfl (fun _ => ?_) (fun z => absurd rfl z)
        exact rs_K S2 hI
      · obtain ⟨r, S1, S2, h1, h2, hI⟩ := PT.2.2.2.2.2.2.2.2.2.2.2.2.2.2.2.2.2.2.2.2.2.2.2.2.2.2.1 S (xs (nI j + 1).toNatClampNeg) hI
        refine ry_tabIn (tgt := 982) C (950) dL_law_32 26 rfl (by decide) (by decide) rfl (by decide) ?_
        refine ry_aload_n (i := 1) C dL_law_982 rfl rfl rfl ?_
        refine ry_aload_n (i := 0) C dL_law_983 rfl rfl rfl ?_
        refine ry_iload_n (i := 3) C dL_law_984 rfl rfl rfl ?_
        refine ry_iconst (v := 1) C dL_law_985 (by decide) rfl ?_
        refine ry_iadd C dL_law_986 rfl ?_
        refine ry_sld C hX hbl hbA (rl_ix 1 rfl hj hL (by decide)) dL_law_987 rfl ?_
        refine ry_callVi (r0 := r) (S0 := S1) C (rs_kd_lt kk_76 (by decide)) (rs_e4 kk_76) rfl (c_X4_phases l G hG S (xs (nI j + 1).toNatClampNeg) _ h1) ⟨wl_L_123, wi_yX4_phases, wx_yX4_phases, wn_X4, wc_yX4_phases⟩ wy_yX4_phases hce (by decide) ⟨rfl, rfl⟩ rfl rfl (Nat.le_of_ble_eq_true rfl) dL_law_988 rfl ?_
        refine ry_aload_n (i := 2) C dL_law_991 rfl rfl rfl ?_
        refine ry_aload_n (i := 0) C dL_law_992 rfl rfl rfl ?_
        refine ry_iload_n (i := 3) C dL_law_993 rfl rfl rfl ?_
        refine ry_iconst (v := 1) C dL_law_994 (by decide) rfl ?_
        refine ry_iadd C dL_law_995 rfl ?_
        refine ry_sld C hX hbl hbA (rl_ix 1 rfl hj hL (by decide)) dL_law_996 rfl ?_
        refine ry_callVi (r0 := r) (S0 := S2) C (rs_kd_lt kk_91 (by decide)) (rs_e5 kk_91) rfl (c_X5_phases l G hG S1 (xs (nI j + 1).toNatClampNeg) _ h2) ⟨wl_L_126, wi_yX5_phases, wx_yX5_phases, wn_X5, wc_yX5_phases⟩ wy_yX5_phases hce (by decide) ⟨rfl, rfl⟩ rfl rfl (Nat.le_of_ble_eq_true rfl) dL_law_997 rfl ?_
        refine ry_icmp_eq (tgt := 1302) C dL_law_1000 (by decide) rfl (fun _ => ?_) (fun z => absurd rfl z)
        exact rs_K S2 hI
      · obtain ⟨r, S1, S2, h1, h2, hI⟩ := PT.2.2.2.2.2.2.2.2.2.2.2.2.2.2.2.2.2.2.2.2.2.2.2.2.2.2.2.1 S (xs (nI j + 1).toNatClampNeg) (xs (nI j + 2).toNatClampNeg) hI
        refine ry_tabIn (tgt := 1005) C (973) dL_law_32 27 rfl (by decide) (by decide) rfl (by decide) ?_
        refine ry_aload_n (i := 1) C dL_law_1005 rfl rfl rfl ?_
        refine ry_aload_n (i := 0) C dL_law_1006 rfl rfl rfl ?_
        refine ry_iload_n (i := 3) C dL_law_1007 rfl rfl rfl ?_
        refine ry_iconst (v := 1) C dL_law_1008 (by decide) rfl ?_
        refine ry_iadd C dL_law_1009 rfl ?_
        refine ry_sld C hX hbl hbA (rl_ix 1 rfl hj hL (by decide)) dL_law_1010 rfl ?_
        refine ry_aload_n (i := 0) C dL_law_1011 rfl rfl rfl ?_
        refine ry_iload_n (i := 3) C dL_law_1012 rfl rfl rfl ?_
        refine ry_iconst (v := 2) C dL_law_1013 (by decide) rfl ?_
        refine ry_iadd C dL_law_1014 rfl ?_
        refine ry_sld C hX hbl hbA (rl_ix 2 rfl hj hL (by decide)) dL_law_1015 rfl ?_
        refine ry_callVi (r0 := r) (S0 := S1) C (rs_kd_lt kk_76 (by decide)) (rs_e4 kk_76) rfl (c_X4_ask l G hG S (xs (nI j + 1).toNatClampNeg) (xs (nI j + 2).toNatClampNeg) _ h1) ⟨wl_L_127, wi_yX4_ask, wx_yX4_ask, wn_X4, wc_yX4_ask⟩ wy_yX4_ask hce (by decide) ⟨rfl, rfl⟩ rfl rfl (Nat.le_of_ble_eq_true rfl) dL_law_1016 rfl ?_
        refine ry_aload_n (i := 2) C dL_law_1019 rfl rfl rfl ?_
        refine ry_aload_n (i := 0) C dL_law_1020 rfl rfl rfl ?_
        refine ry_iload_n (i := 3) C dL_law_1021 rfl rfl rfl ?_
        refine ry_iconst (v := 1) C dL_law_1022 (by decide) rfl ?_
        refine ry_iadd C dL_law_1023 rfl ?_
        refine ry_sld C hX hbl hbA (rl_ix 1 rfl hj hL (by decide)) dL_law_1024 rfl ?_
        refine ry_aload_n (i := 0) C dL_law_1025 rfl rfl rfl ?_
        refine ry_iload_n (i := 3) C dL_law_1026 rfl rfl rfl ?_
        refine ry_iconst (v := 2) C dL_law_1027 (by decide) rfl ?_
        refine ry_iadd C dL_law_1028 rfl ?_
        refine ry_sld C hX hbl hbA (rl_ix 2 rfl hj hL (by decide)) dL_law_1029 rfl ?_
        refine ry_callVi (r0 := r) (S0 := S2) C (rs_kd_lt kk_91 (by decide)) (rs_e5 kk_91) rfl (c_X5_ask l G hG S1 (xs (nI j + 1).toNatClampNeg) (xs (nI j + 2).toNatClampNeg) _ h2) ⟨wl_L_130, wi_yX5_ask, wx_yX5_ask, wn_X5, wc_yX5_ask⟩ wy_yX5_ask hce (by decide) ⟨rfl, rfl⟩ rfl rfl (Nat.le_of_ble_eq_true rfl) dL_law_1030 rfl ?_
        refine ry_icmp_eq (tgt := 1302) C dL_law_1033 (by decide) rfl (fun _ => ?_) (fun z => absurd rfl z)
        exact rs_K S2 hI
      · obtain ⟨r, S1, S2, h1, h2, hI⟩ := PT.2.2.2.2.2.2.2.2.2.2.2.2.2.2.2.2.2.2.2.2.2.2.2.2.2.2.2.2.1 S (xs (nI j + 1).toNatClampNeg) (xs (nI j + 2).toNatClampNeg) (xs (nI j + 3).toNatClampNeg) hI
        refine ry_tabIn (tgt := 1038) C (1006) dL_law_32 28 rfl (by decide) (by decide) rfl (by decide) ?_
        refine ry_aload_n (i := 1) C dL_law_1038 rfl rfl rfl ?_
        refine ry_aload_n (i := 0) C dL_law_1039 rfl rfl rfl ?_
        refine ry_iload_n (i := 3) C dL_law_1040 rfl rfl rfl ?_
        refine ry_iconst (v := 1) C dL_law_1041 (by decide) rfl ?_
        refine ry_iadd C dL_law_1042 rfl ?_
        refine ry_sld C hX hbl hbA (rl_ix 1 rfl hj hL (by decide)) dL_law_1043 rfl ?_
        refine ry_aload_n (i := 0) C dL_law_1044 rfl rfl rfl ?_
        refine ry_iload_n (i := 3) C dL_law_1045 rfl rfl rfl ?_
        refine ry_iconst (v := 2) C dL_law_1046 (by decide) rfl ?_
        refine ry_iadd C dL_law_1047 rfl ?_
        refine ry_sld C hX hbl hbA (rl_ix 2 rfl hj hL (by decide)) dL_law_1048 rfl ?_
        refine ry_aload_n (i := 0) C dL_law_1049 rfl rfl rfl ?_
        refine ry_iload_n (i := 3) C dL_law_1050 rfl rfl rfl ?_
        refine ry_iconst (v := 3) C dL_law_1051 (by decide) rfl ?_
        refine ry_iadd C dL_law_1052 rfl ?_
        refine ry_sld C hX hbl hbA (rl_ix 3 rfl hj hL (by decide)) dL_law_1053 rfl ?_
        refine ry_callVi (r0 := r) (S0 := S1) C (rs_kd_lt kk_76 (by decide)) (rs_e4 kk_76) rfl (c_X4_drift l G hG S (xs (nI j + 1).toNatClampNeg) (xs (nI j + 2).toNatClampNeg) (xs (nI j + 3).toNatClampNeg) _ h1) ⟨wl_L_131, wi_yX4_drift, wx_yX4_drift, wn_X4, wc_yX4_drift⟩ wy_yX4_drift hce (by decide) ⟨rfl, rfl⟩ rfl rfl (Nat.le_of_ble_eq_true rfl) dL_law_1054 rfl ?_
        refine ry_aload_n (i := 2) C dL_law_1057 rfl rfl rfl ?_
        refine ry_aload_n (i := 0) C dL_law_1058 rfl rfl rfl ?_
        refine ry_iload_n (i := 3) C dL_law_1059 rfl rfl rfl ?_
        refine ry_iconst (v := 1) C dL_law_1060 (by decide) rfl ?_
        refine ry_iadd C dL_law_1061 rfl ?_
        refine ry_sld C hX hbl hbA (rl_ix 1 rfl hj hL (by decide)) dL_law_1062 rfl ?_
        refine ry_aload_n (i := 0) C dL_law_1063 rfl rfl rfl ?_
        refine ry_iload_n (i := 3) C dL_law_1064 rfl rfl rfl ?_
        refine ry_iconst (v := 2) C dL_law_1065 (by decide) rfl ?_
        refine ry_iadd C dL_law_1066 rfl ?_
        refine ry_sld C hX hbl hbA (rl_ix 2 rfl hj hL (by decide)) dL_law_1067 rfl ?_
        refine ry_aload_n (i := 0) C dL_law_1068 rfl rfl rfl ?_
        refine ry_iload_n (i := 3) C dL_law_1069 rfl rfl rfl ?_
        refine ry_iconst (v := 3) C dL_law_1070 (by decide) rfl ?_
        refine ry_iadd C dL_law_1071 rfl ?_
        refine ry_sld C hX hbl hbA (rl_ix 3 rfl hj hL (by decide)) dL_law_1072 rfl ?_
        refine ry_callVi (r0 := r) (S0 := S2) C (rs_kd_lt kk_91 (by decide)) (rs_e5 kk_91) rfl (c_X5_drift l G hG S1 (xs (nI j + 1).toNatClampNeg) (xs (nI j + 2).toNatClampNeg) (xs (nI j + 3).toNatClampNeg) _ h2) ⟨wl_L_134, wi_yX5_drift, wx_yX5_drift, wn_X5, wc_yX5_drift⟩ wy_yX5_drift hce (by decide) ⟨rfl, rfl⟩ rfl rfl (Nat.le_of_ble_eq_true rfl) dL_law_1073 rfl ?_
        refine ry_icmp_eq (tgt := 1302) C dL_law_1076 (by decide) rfl (fun _ => ?_) (fun z => absurd rfl z)
        exact rs_K S2 hI
      · obtain ⟨r, S1, S2, h1, h2, hI⟩ := PT.2.2.2.2.2.2.2.2.2.2.2.2.2.2.2.2.2.2.2.2.2.2.2.2.2.2.2.2.2.1 S (xs (nI j + 1).toNatClampNeg) hI
        refine ry_tabIn (tgt := 1081) C (1049) dL_law_32 29 rfl (by decide) (by decide) rfl (by decide) ?_
        refine ry_aload_n (i := 1) C dL_law_1081 rfl rfl rfl ?_
        refine ry_aload_n (i := 0) C dL_law_1082 rfl rfl rfl ?_
        refine ry_iload_n (i := 3) C dL_law_1083 rfl rfl rfl ?_
        refine ry_iconst (v := 1) C dL_law_1084 (by decide) rfl ?_
        refine ry_iadd C dL_law_1085 rfl ?_
        refine ry_sld C hX hbl hbA (rl_ix 1 rfl hj hL (by decide)) dL_law_1086 rfl ?_
        refine ry_callVi (r0 := r) (S0 := S1) C (rs_kd_lt kk_76 (by decide)) (rs_e4 kk_76) rfl (c_X4_keep l G hG S (xs (nI j + 1).toNatClampNeg) _ h1) ⟨wl_L_135, wi_yX4_keep, wx_yX4_keep, wn_X4, wc_yX4_keep⟩ wy_yX4_keep hce (by decide) ⟨rfl, rfl⟩ rfl rfl (Nat.le_of_ble_eq_true rfl) dL_law_1087 rfl ?_
        refine ry_aload_n (i := 2) C dL_law_1090 rfl rfl rfl ?_
        refine ry_aload_n (i := 0) C dL_law_1091 rfl rfl rfl ?_
        refine ry_iload_n (i := 3) C dL_law_1092 rfl rfl rfl ?_
        refine ry_iconst (v := 1) C dL_law_1093 (by decide) rfl ?_
        refine ry_iadd C dL_law_1094 rfl ?_
        refine ry_sld C hX hbl hbA (rl_ix 1 rfl hj hL (by decide)) dL_law_1095 rfl ?_
        refine ry_callVi (r0 := r) (S0 := S2) C (rs_kd_lt kk_91 (by decide)) (rs_e5 kk_91) rfl (c_X5_keep l G hG S1 (xs (nI j + 1).toNatClampNeg) _ h2) ⟨wl_L_138, wi_yX5_keep, wx_yX5_keep, wn_X5, wc_yX5_keep⟩ wy_yX5_keep hce (by decide) ⟨rfl, rfl⟩ rfl rfl (Nat.le_of_ble_eq_true rfl) dL_law_1096 rfl ?_
        refine ry_icmp_eq (tgt := 1302) C dL_law_1099 (by decide) rfl (fun _ => ?_) (fun z => absurd rfl z)
        exact rs_K S2 hI
      · obtain ⟨r, S1, S2, h1, h2, hI⟩ := PT.2.2.2.2.2.2.2.2.2.2.2.2.2.2.2.2.2.2.2.2.2.2.2.2.2.2.2.2.2.2.1 S (xs (nI j + 1).toNatClampNeg) hI
        refine ry_tabIn (tgt := 1104) C (1072) dL_law_32 30 rfl (by decide) (by decide) rfl (by decide) ?_
        refine ry_aload_n (i := 1) C dL_law_1104 rfl rfl rfl ?_
        refine ry_aload_n (i := 0) C dL_law_1105 rfl rfl rfl ?_
        refine ry_iload_n (i := 3) C dL_law_1106 rfl rfl rfl ?_
        refine ry_iconst (v := 1) C dL_law_1107 (by decide) rfl ?_
        refine ry_iadd C dL_law_1108 rfl ?_
        refine ry_sld C hX hbl hbA (rl_ix 1 rfl hj hL (by decide)) dL_law_1109 rfl ?_
        refine ry_callVi (r0 := r) (S0 := S1) C (rs_kd_lt kk_76 (by decide)) (rs_e4 kk_76) rfl (c_X4_back l G hG S (xs (nI j + 1).toNatClampNeg) _ h1) ⟨wl_L_139, wi_yX4_back, wx_yX4_back, wn_X4, wc_yX4_back⟩ wy_yX4_back hce (by decide) ⟨rfl, rfl⟩ rfl rfl (Nat.le_of_ble_eq_true rfl) dL_law_1110 rfl ?_
        refine ry_aload_n (i := 2) C dL_law_1113 rfl rfl rfl ?_
        refine ry_aload_n (i := 0) C dL_law_1114 rfl rfl rfl ?_
        refine ry_iload_n (i := 3) C dL_law_1115 rfl rfl rfl ?_
        refine ry_iconst (v := 1) C dL_law_1116 (by decide) rfl ?_
        refine ry_iadd C dL_law_1117 rfl ?_
        refine ry_sld C hX hbl hbA (rl_ix 1 rfl hj hL (by decide)) dL_law_1118 rfl ?_
        refine ry_callVi (r0 := r) (S0 := S2) C (rs_kd_lt kk_91 (by decide)) (rs_e5 kk_91) rfl (c_X5_back l G hG S1 (xs (nI j + 1).toNatClampNeg) _ h2) ⟨wl_L_142, wi_yX5_back, wx_yX5_back, wn_X5, wc_yX5_back⟩ wy_yX5_back hce (by decide) ⟨rfl, rfl⟩ rfl rfl (Nat.le_of_ble_eq_true rfl) dL_law_1119 rfl ?_
        refine ry_icmp_eq (tgt := 1302) C dL_law_1122 (by decide) rfl (fun _ => ?_) (fun z => absurd rfl z)
        exact rs_K S2 hI
      · obtain ⟨r, S1, S2, h1, h2, hI⟩ := PT.2.2.2.2.2.2.2.2.2.2.2.2.2.2.2.2.2.2.2.2.2.2.2.2.2.2.2.2.2.2.2.1 S (xs (nI j + 1).toNatClampNeg) (xs (nI j + 2).toNatClampNeg) (xs (nI j + 3).toNatClampNeg) hI
        refine ry_tabIn (tgt := 1127) C (1095) dL_law_32 31 rfl (by decide) (by decide) rfl (by decide) ?_
        refine ry_aload_n (i := 1) C dL_law_1127 rfl rfl rfl ?_
        refine ry_aload_n (i := 0) C dL_law_1128 rfl rfl rfl ?_
        refine ry_iload_n (i := 3) C dL_law_1129 rfl rfl rfl ?_
        refine ry_iconst (v := 1) C dL_law_1130 (by decide) rfl ?_
        refine ry_iadd C dL_law_1131 rfl ?_
        refine ry_sld C hX hbl hbA (rl_ix 1 rfl hj hL (by decide)) dL_law_1132 rfl ?_
        refine ry_aload_n (i := 0) C dL_law_1133 rfl rfl rfl ?_
        refine ry_iload_n (i := 3) C dL_law_1134 rfl rfl rfl ?_
        refine ry_iconst (v := 2) C dL_law_1135 (by decide) rfl ?_
        refine ry_iadd C dL_law_1136 rfl ?_
        refine ry_sld C hX hbl hbA (rl_ix 2 rfl hj hL (by decide)) dL_law_1137 rfl ?_
        refine ry_aload_n (i := 0) C dL_law_1138 rfl rfl rfl ?_
        refine ry_iload_n (i := 3) C dL_law_1139 rfl rfl rfl ?_
        refine ry_iconst (v := 3) C dL_law_1140 (by decide) rfl ?_
        refine ry_iadd C dL_law_1141 rfl ?_
        refine ry_sld C hX hbl hbA (rl_ix 3 rfl hj hL (by decide)) dL_law_1142 rfl ?_
        refine ry_callVi (r0 := r) (S0 := S1) C (rs_kd_lt kk_76 (by decide)) (rs_e4 kk_76) rfl (c_X4_sheet l G hG S (xs (nI j + 1).toNatClampNeg) (xs (nI j + 2).toNatClampNeg) (xs (nI j + 3).toNatClampNeg) _ h1) ⟨wl_L_143, wi_yX4_sheet, wx_yX4_sheet, wn_X4, wc_yX4_sheet⟩ wy_yX4_sheet hce (by decide) ⟨rfl, rfl⟩ rfl rfl (Nat.le_of_ble_eq_true rfl) dL_law_1143 rfl ?_
        refine ry_aload_n (i := 2) C dL_law_1146 rfl rfl rfl ?_
        refine ry_aload_n (i := 0) C dL_law_1147 rfl rfl rfl ?_
        refine ry_iload_n (i := 3) C dL_law_1148 rfl rfl rfl ?_
        refine ry_iconst (v := 1) C dL_law_1149 (by decide) rfl ?_
        refine ry_iadd C dL_law_1150 rfl ?_
        refine ry_sld C hX hbl hbA (rl_ix 1 rfl hj hL (by decide)) dL_law_1151 rfl ?_
        refine ry_aload_n (i := 0) C dL_law_1152 rfl rfl rfl ?_
        refine ry_iload_n (i := 3) C dL_law_1153 rfl rfl rfl ?_
        refine ry_iconst (v := 2) C dL_law_1154 (by decide) rfl ?_
        refine ry_iadd C dL_law_1155 rfl ?_
        refine ry_sld C hX hbl hbA (rl_ix 2 rfl hj hL (by decide)) dL_law_1156 rfl ?_
        refine ry_aload_n (i := 0) C dL_law_1157 rfl rfl rfl ?_
        refine ry_iload_n (i := 3) C dL_law_1158 rfl rfl rfl ?_
        refine ry_iconst (v := 3) C dL_law_1159 (by decide) rfl ?_
        refine ry_iadd C dL_law_1160 rfl ?_
        refine ry_sld C hX hbl hbA (rl_ix 3 rfl hj hL (by decide)) dL_law_1161 rfl ?_
        refine ry_callVi (r0 := r) (S0 := S2) C (rs_kd_lt kk_91 (by decide)) (rs_e5 kk_91) rfl (c_X5_sheet l G hG S1 (xs (nI j + 1).toNatClampNeg) (xs (nI j + 2).toNatClampNeg) (xs (nI j + 3).toNatClampNeg) _ h2) ⟨wl_L_146, wi_yX5_sheet, wx_yX5_sheet, wn_X5, wc_yX5_sheet⟩ wy_yX5_sheet hce (by decide) ⟨rfl, rfl⟩ rfl rfl (Nat.le_of_ble_eq_true rfl) dL_law_1162 rfl ?_
        refine ry_icmp_eq (tgt := 1302) C dL_law_1165 (by decide) rfl (fun _ => ?_) (fun z => absurd rfl z)
        exact rs_K S2 hI
      · obtain ⟨r, S1, S2, h1, h2, hI⟩ := PT.2.2.2.2.2.2.2.2.2.2.2.2.2.2.2.2.2.2.2.2.2.2.2.2.2.2.2.2.2.2.2.2.1 S (xs (nI j + 1).toNatClampNeg) (xs (nI j + 2).toNatClampNeg) (xs (nI j + 3).toNatClampNeg) hI
        refine ry_tabIn (tgt := 1170) C (1138) dL_law_32 32 rfl (by decide) (by decide) rfl (by decide) ?_
        refine ry_aload_n (i := 1) C dL_law_1170 rfl rfl rfl ?_
        refine ry_aload_n (i := 0) C dL_law_1171 rfl rfl rfl ?_
        refine ry_iload_n (i := 3) C dL_law_1172 rfl rfl rfl ?_
        refine ry_iconst (v := 1) C dL_law_1173 (by decide) rfl ?_
        refine ry_iadd C dL_law_1174 rfl ?_
        refine ry_sld C hX hbl hbA (rl_ix 1 rfl hj hL (by decide)) dL_law_1175 rfl ?_
        refine ry_aload_n (i := 0) C dL_law_1176 rfl rfl rfl ?_
        refine ry_iload_n (i := 3) C dL_law_1177 rfl rfl rfl ?_
        refine ry_iconst (v := 2) C dL_law_1178 (by decide) rfl ?_
        refine ry_iadd C dL_law_1179 rfl ?_
        refine ry_sld C hX hbl hbA (rl_ix 2 rfl hj hL (by decide)) dL_law_1180 rfl ?_
        refine ry_aload_n (i := 0) C dL_law_1181 rfl rfl rfl ?_
        refine ry_iload_n (i := 3) C dL_law_1182 rfl rfl rfl ?_
        refine ry_iconst (v := 3) C dL_law_1183 (by decide) rfl ?_
        refine ry_iadd C dL_law_1184 rfl ?_
        refine ry_sld C hX hbl hbA (rl_ix 3 rfl hj hL (by decide)) dL_law_1185 rfl ?_
        refine ry_callVi (r0 := r) (S0 := S1) C (rs_kd_lt kk_76 (by decide)) (rs_e4 kk_76) rfl (c_X4_lay l G hG S (xs (nI j + 1).toNatClampNeg) (xs (nI j + 2).toNatClampNeg) (xs (nI j + 3).toNatClampNeg) _ h1) ⟨wl_L_147, wi_yX4_lay, wx_yX4_lay, wn_X4, wc_yX4_lay⟩ wy_yX4_lay hce (by decide) ⟨rfl, rfl⟩ rfl rfl (Nat.le_of_ble_eq_true rfl) dL_law_1186 rfl ?_
        refine ry_aload_n (i := 2) C dL_law_1189 rfl rfl rfl ?_
        refine ry_aload_n (i := 0) C dL_law_1190 rfl rfl rfl ?_
        refine ry_iload_n (i := 3) C dL_law_1191 rfl rfl rfl ?_
        refine ry_iconst (v := 1) C dL_law_1192 (by decide) rfl ?_
        refine ry_iadd C dL_law_1193 rfl ?_
        refine ry_sld C hX hbl hbA (rl_ix 1 rfl hj hL (by decide)) dL_law_1194 rfl ?_
        refine ry_aload_n (i := 0) C dL_law_1195 rfl rfl rfl ?_
        refine ry_iload_n (i := 3) C dL_law_1196 rfl rfl rfl ?_
        refine ry_iconst (v := 2) C dL_law_1197 (by decide) rfl ?_
        refine ry_iadd C dL_law_1198 rfl ?_
        refine ry_sld C hX hbl hbA (rl_ix 2 rfl hj hL (by decide)) dL_law_1199 rfl ?_
        refine ry_aload_n (i := 0) C dL_law_1200 rfl rfl rfl ?_
        refine ry_iload_n (i := 3) C dL_law_1201 rfl rfl rfl ?_
        refine ry_iconst (v := 3) C dL_law_1202 (by decide) rfl ?_
        refine ry_iadd C dL_law_1203 rfl ?_
        refine ry_sld C hX hbl hbA (rl_ix 3 rfl hj hL (by decide)) dL_law_1204 rfl ?_
        refine ry_callVi (r0 := r) (S0 := S2) C (rs_kd_lt kk_91 (by decide)) (rs_e5 kk_91) rfl (c_X5_lay l G hG S1 (xs (nI j + 1).toNatClampNeg) (xs (nI j + 2).toNatClampNeg) (xs (nI j + 3).toNatClampNeg) _ h2) ⟨wl_L_150, wi_yX5_lay, wx_yX5_lay, wn_X5, wc_yX5_lay⟩ wy_yX5_lay hce (by decide) ⟨rfl, rfl⟩ rfl rfl (Nat.le_of_ble_eq_true rfl) dL_law_1205 rfl ?_
        refine ry_icmp_eq (tgt := 1302) C dL_law_1208 (by decide) rfl (fun _ => ?_) (fun z => absurd rfl z)
        exact rs_K S2 hI
      · obtain ⟨r, S1, S2, h1, h2, hI⟩ := PT.2.2.2.2.2.2.2.2.2.2.2.2.2.2.2.2.2.2.2.2.2.2.2.2.2.2.2.2.2.2.2.2.2.1 S (xs (nI j + 1).toNatClampNeg) (xs (nI j + 2).toNatClampNeg) (xs (nI j + 3).toNatClampNeg) (xs (nI j + 4).toNatClampNeg) hI
        refine ry_tabIn (tgt := 1213) C (1181) dL_law_32 33 rfl (by decide) (by decide) rfl (by decide) ?_
        refine ry_aload_n (i := 1) C dL_law_1213 rfl rfl rfl ?_
        refine ry_aload_n (i := 0) C dL_law_1214 rfl rfl rfl ?_
        refine ry_iload_n (i := 3) C dL_law_1215 rfl rfl rfl ?_
        refine ry_iconst (v := 1) C dL_law_1216 (by decide) rfl ?_
        refine ry_iadd C dL_law_1217 rfl ?_
        refine ry_sld C hX hbl hbA (rl_ix 1 rfl hj hL (by decide)) dL_law_1218 rfl ?_
        refine ry_aload_n (i := 0) C dL_law_1219 rfl rfl rfl ?_
        refine ry_iload_n (i := 3) C dL_law_1220 rfl rfl rfl ?_
        refine ry_iconst (v := 2) C dL_law_1221 (by decide) rfl ?_
        refine ry_iadd C dL_law_1222 rfl ?_
        refine ry_sld C hX hbl hbA (rl_ix 2 rfl hj hL (by decide)) dL_law_1223 rfl ?_
        refine ry_aload_n (i := 0) C dL_law_1224 rfl rfl rfl ?_
        refine ry_iload_n (i := 3) C dL_law_1225 rfl rfl rfl ?_
        refine ry_iconst (v := 3) C dL_law_1226 (by decide) rfl ?_
        refine ry_iadd C dL_law_1227 rfl ?_
        refine ry_sld C hX hbl hbA (rl_ix 3 rfl hj hL (by decide)) dL_law_1228 rfl ?_
        refine ry_aload_n (i := 0) C dL_law_1229 rfl rfl rfl ?_
        refine ry_iload_n (i := 3) C dL_law_1230 rfl rfl rfl ?_
        refine ry_iconst (v := 4) C dL_law_1231 (by decide) rfl ?_
        refine ry_iadd C dL_law_1232 rfl ?_
        refine ry_sld C hX hbl hbA (rl_ix 4 rfl hj hL (by decide)) dL_law_1233 rfl ?_
        refine ry_callVi (r0 := r) (S0 := S1) C (rs_kd_lt kk_76 (by decide)) (rs_e4 kk_76) rfl (c_X4_read l G hG S (xs (nI j + 1).toNatClampNeg) (xs (nI j + 2).toNatClampNeg) (xs (nI j + 3).toNatClampNeg) (xs (nI j + 4).toNatClampNeg) _ h1) ⟨wl_L_151, wi_yX4_read, wx_yX4_read, wn_X4, wc_yX4_read⟩ wy_yX4_read hce (by decide) ⟨rfl, rfl⟩ rfl rfl (Nat.le_of_ble_eq_true rfl) dL_law_1234 rfl ?_
        refine ry_aload_n (i := 2) C dL_law_1237 rfl rfl rfl ?_
        refine ry_aload_n (i := 0) C dL_law_1238 rfl rfl rfl ?_
        refine ry_iload_n (i := 3) C dL_law_1239 rfl rfl rfl ?_
        refine ry_iconst (v := 1) C dL_law_1240 (by decide) rfl ?_
        refine ry_iadd C dL_law_1241 rfl ?_
        refine ry_sld C hX hbl hbA (rl_ix 1 rfl hj hL (by decide)) dL_law_1242 rfl ?_
        refine ry_aload_n (i := 0) C dL_law_1243 rfl rfl rfl ?_
        refine ry_iload_n (i := 3) C dL_law_1244 rfl rfl rfl ?_
        refine ry_iconst (v := 2) C dL_law_1245 (by decide) rfl ?_
        refine ry_iadd C dL_law_1246 rfl ?_
        refine ry_sld C hX hbl hbA (rl_ix 2 rfl hj hL (by decide)) dL_law_1247 rfl ?_
        refine ry_aload_n (i := 0) C dL_law_1248 rfl rfl rfl ?_
        refine ry_iload_n (i := 3) C dL_law_1249 rfl rfl rfl ?_
        refine ry_iconst (v := 3) C dL_law_1250 (by decide) rfl ?_
        refine ry_iadd C dL_law_1251 rfl ?_
        refine ry_sld C hX hbl hbA (rl_ix 3 rfl hj hL (by decide)) dL_law_1252 rfl ?_
        refine ry_aload_n (i := 0) C dL_law_1253 rfl rfl rfl ?_
        refine ry_iload_n (i := 3) C dL_law_1254 rfl rfl rfl ?_
        refine ry_iconst (v := 4) C dL_law_1255 (by decide) rfl ?_
        refine ry_iadd C dL_law_1256 rfl ?_
        refine ry_sld C hX hbl hbA (rl_ix 4 rfl hj hL (by decide)) dL_law_1257 rfl ?_
        refine ry_callVi (r0 := r) (S0 := S2) C (rs_kd_lt kk_91 (by decide)) (rs_e5 kk_91) rfl (c_X5_read l G hG S1 (xs (nI j + 1).toNatClampNeg) (xs (nI j + 2).toNatClampNeg) (xs (nI j + 3).toNatClampNeg) (xs (nI j + 4).toNatClampNeg) _ h2) ⟨wl_L_155, wi_yX5_read, wx_yX5_read, wn_X5, wc_yX5_read⟩ wy_yX5_read hce (by decide) ⟨rfl, rfl⟩ rfl rfl (Nat.le_of_ble_eq_true rfl) dL_law_1258 rfl ?_
        refine ry_icmp_eq (tgt := 1302) C dL_law_1261 (by decide) rfl (fun _ => ?_) (fun z => absurd rfl z)
        exact rs_K S2 hI
      · obtain ⟨r, h1, h2, hI⟩ := PT.2.2.2.2.2.2.2.2.2.2.2.2.2.2.2.2.2.2.2.2.2.2.2.2.2.2.2.2.2.2.2.2.2.2.1 S hI
        refine ry_tabIn (tgt := 1266) C (1234) dL_law_32 34 rfl (by decide) (by decide) rfl (by decide) ?_
        refine ry_aload_n (i := 1) C dL_law_1266 rfl rfl rfl ?_
        refine ry_callVi (r0 := r) (S0 := S) C (rs_kd_lt kk_76 (by decide)) (rs_e4 kk_76) rfl (c_X4_torn l G hG S _ h1) ⟨wl_L_156, wi_yX4_torn, wx_yX4_torn, wn_X4, wc_yX4_torn⟩ wy_yX4_torn hce (by decide) ⟨rfl, rfl⟩ rfl rfl (Nat.le_of_ble_eq_true rfl) dL_law_1267 rfl ?_
        refine ry_aload_n (i := 2) C dL_law_1270 rfl rfl rfl ?_
        refine ry_callVi (r0 := r) (S0 := S) C (rs_kd_lt kk_91 (by decide)) (rs_e5 kk_91) rfl (c_X5_torn l G hG S _ h2) ⟨wl_L_159, wi_yX5_torn, wx_yX5_torn, wn_X5, wc_yX5_torn⟩ wy_yX5_torn hce (by decide) ⟨rfl, rfl⟩ rfl rfl (Nat.le_of_ble_eq_true rfl) dL_law_1271 rfl ?_
        refine ry_icmp_eq (tgt := 1302) C dL_law_1274 (by decide) rfl (fun _ => ?_) (fun z => absurd rfl z)
        exact rs_K S hI
      · obtain ⟨r, h1, h2, hI⟩ := PT.2.2.2.2.2.2.2.2.2.2.2.2.2.2.2.2.2.2.2.2.2.2.2.2.2.2.2.2.2.2.2.2.2.2.2 S (xs (nI j + 1).toNatClampNeg) hI
        refine ry_tabIn (tgt := 1279) C (1247) dL_law_32 35 rfl (by decide) (by decide) rfl (by decide) ?_
        refine ry_aload_n (i := 1) C dL_law_1279 rfl rfl rfl ?_
        refine ry_aload_n (i := 0) C dL_law_1280 rfl rfl rfl ?_
        refine ry_iload_n (i := 3) C dL_law_1281 rfl rfl rfl ?_
        refine ry_iconst (v := 1) C dL_law_1282 (by decide) rfl ?_
        refine ry_iadd C dL_law_1283 rfl ?_
        refine ry_sld C hX hbl hbA (rl_ix 1 rfl hj hL (by decide)) dL_law_1284 rfl ?_
        refine ry_callVi (r0 := r) (S0 := S) C (rs_kd_lt kk_76 (by decide)) (rs_e4 kk_76) rfl (c_X4_count l G hG S (xs (nI j + 1).toNatClampNeg) _ h1) ⟨wl_L_160, wi_yX4_count, wx_yX4_count, wn_X4, wc_yX4_count⟩ wy_yX4_count hce (by decide) ⟨rfl, rfl⟩ rfl rfl (Nat.le_of_ble_eq_true rfl) dL_law_1285 rfl ?_
        refine ry_aload_n (i := 2) C dL_law_1288 rfl rfl rfl ?_
        refine ry_aload_n (i := 0) C dL_law_1289 rfl rfl rfl ?_
        refine ry_iload_n (i := 3) C dL_law_1290 rfl rfl rfl ?_
        refine ry_iconst (v := 1) C dL_law_1291 (by decide) rfl ?_
        refine ry_iadd C dL_law_1292 rfl ?_
        refine ry_sld C hX hbl hbA (rl_ix 1 rfl hj hL (by decide)) dL_law_1293 rfl ?_
        refine ry_callVi (r0 := r) (S0 := S) C (rs_kd_lt kk_91 (by decide)) (rs_e5 kk_91) rfl (c_X5_count l G hG S (xs (nI j + 1).toNatClampNeg) _ h2) ⟨wl_L_163, wi_yX5_count, wx_yX5_count, wn_X5, wc_yX5_count⟩ wy_yX5_count hce (by decide) ⟨rfl, rfl⟩ rfl rfl (Nat.le_of_ble_eq_true rfl) dL_law_1294 rfl ?_
        refine ry_icmp_eq (tgt := 1302) C dL_law_1297 (by decide) rfl (fun _ => ?_) (fun z => absurd rfl z)
        exact rs_K S hI
