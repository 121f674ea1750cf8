def R_law : String := "RowShutterLaw"
def lw_P (b : Addr) (xs : List Int32) (args : Array Value) (s : State) : Prop := args = #[.ref b] ∧ s.IntsAt b xs ∧ xs.length ≤ 2560 ∧ (Jvm.Cond.and given_1 narrow_1).before args s = true
def lw_Q (_ : Array Value) (s : State) (o : Outcome) (t : State) : Prop := o = .returned (some (.int 1)) ∧ Framed s o t [] 600000 7302250
def lw_Z (below : List Frame) (a : Array Value) (s : State) : State → Prop := fun t => ∃ o, t.status = .running ∧ Ended t below o ∧ lw_Q a s o t
/-- the law's own end, with 1 on the stack, nothing written that was there before, its room as the claim has it -/
theorem lw_ret {p : Program} {l : Launch} {e : Env} {s : State} {m : MethodId} {below : List Frame} {meth : Method} {c : Code} {b : Nat} (hx : p.tables.exec = Jvm.exec) (hb : c.code = code) (hr : meth.sig.returnType = ret) (hlocks : meth.locks = false) {pc : Nat} {H : Heap} {ls : Array Slot} (hdg : decode code pc = .ok (.ireturn, 1)) : W p l e room_1 s m #[Value.ref b] below meth c H [] 600000 7302250 (lw_Z below #[Value.ref b] s) (F0 m pc ls [.int 1]) := by
  intro T hT X
  obtain ⟨fs, hret, hrun, hended, hW, hframe⟩ := X.leave (v := some (.int 1)) (hlocks := hlocks) (fun h => by rw [hr] at h; cases h)
  have hmeth' : T.vm.method? m = some meth := X.method'
  refine ⟨T.setFrames fs, ?_, .returned (some (.int 1)), hrun, hended, rfl, ⟨_, rfl⟩, hW, hframe⟩
  jvm_step X.here [X.here.top, hx, hb, hdg, hmeth', hr, ret, narrow_b1]
  (try refine ⟨rfl, ?_⟩); (try refine ⟨rfl, ?_⟩)
  first | (intro acts; rw [hret _ acts rfl rfl rfl]) | rw [hret _ _ rfl rfl rfl]
  exact Steps.refl _
/-- what holds at the law's entry: the machine, the code, the tables' words (any of lw_tbl by 'hts w (by decide +kernel)'), the script of L ints xs at the cell b, what the Statement gives of the start (any of its parts by flat_of_before) -/
def lw_At (p : Program) (s : State) (m : MethodId) (meth : Method) (c : Code) (b L : Nat) (xs : Nat → Int32) : Prop :=
  p.tables.exec = Jvm.exec ∧ c.code = code ∧ meth.sig.returnType = ret ∧ c.maxLocals = 4 ∧ s.vm.findClass R_law = some m.cls ∧ (∀ w ∈ lw_tbl, w.before #[Value.ref b] s = true) ∧ va_X b L xs s s.heap ∧ b < s.heap.size ∧ meth.locks = false ∧ (Jvm.Cond.and given_1 narrow_1).before #[Value.ref b] s = true
theorem rz_callM {G : rs_G} {cc : ByteArray} {nL : Nat} {own : String} {p : Program} {l : Launch} {e : Env} {R : Room} {s : State} {m : MethodId} {args : Array Value} {below : List Frame} {meth : Method} {c : Code} {Q : State → Prop} {ce sl : Nat} {pc pd index q : Nat} {b : Nat → Nat} {Sb : rs_St} {lv : List (Nat × Value)} {rest : List Value} (C : rs_CZ G (rs_A G) cc nL own p s m args c) (hM : Met l yX5_init (rs_wz yX5_init cX5_init 2 none) { frames := 5, cells := 14, slots := 2840, locals := 36 * 5 } (va_Pc [.ref q] (rs_mp G b q)) (va_Qv (fun b2 : Nat → Nat => b2 76 = b 76 ∧ b2 91 = q ∧ rs_ok (rs_wa G b2)) (fun b2 t => va_P (rs_D0 G) rs_cl (rs_ww (rs_wa G b2) Sb) t.heap) (rs_A G)) 14 2840 (rs_A G)) (hl0 : Cond.methodLink own index yX5_init ∈ rs_wg) (hR : 5 + 1 ≤ R.frames ∧ 8 + (2 + 11) + 36 * 5 ≤ R.locals) (hsp : ce + 14 ≤ R.cells ∧ sl + 2840 ≤ R.slots) (hst : (rest.map fun v => v.category).sum ≤ 8) (hd : decode cc pc = .ok (.invokespecial index, 3)) (hn : pc + 3 = pd) (k : ∀ b2 : Nat → Nat, b2 76 = b 76 → b2 91 = q → rs_ok (rs_wa G b2) → rs_Y (rs_wa G b2) nL p l e R s m args below meth c Q (ce + 14) (sl + 2840) Sb pd lv rest) : rs_Z G (rs_A G) nL p l e R s m args below meth c Q ce sl (rs_p91 G b ++ [(q, .inr (5, [.null, .null, .null, .null, .null, .null, .int 0, .int 0, .int 0, .int 0, .int 0, .int 0, .int 0, .int 0, .int 0, .int 0, .int 0, .int 0, .int 0, .int 0, .null, .null, .int 0, .int 0, .long 0, .long 0, .long 0, .null, .null, .null, .null, .null, .int 0, .null]))]) pc lv (.ref q :: rest) := by
  subst hn
  intro H locs ls hP hD hS hl
  refine va_callv (va_runI (As := []) (rest := rest) ⟨C.1, C.2.1, C.2.2.1, C.2.2.2.1, C.2.2.2.2.1⟩ hM (cwI 0 C.2.2.2.2.1 (rs_goodz wc_yX5_init) rfl rfl rfl (C.2.2.2.2.1 _ wn_X5) (C.2.2.2.2.1 _ hl0) (C.2.2.2.2.1 _ wi_yX5_init) rfl (by decide +kernel) hR) ⟨rs_mblind G b q _, fun U hU hW => ⟨rfl, by rw [hU]; exact hP, hD, rs_kc_to C.2.2.2.2.2.1 C.2.2.2.2.2.2.2 hS hU hW⟩⟩ rfl rfl hl.1 rfl (lv_room hst) hd hsp) hS (fun z _ h => h) (fun z h => h) (fun u t H1 locs1 ht hvm hw hB hz1 hk1 hS1 => ?_)
  obtain ⟨h1, h2, h3⟩ := hw
  have hB : va_P (rs_D0 G) rs_cl (rs_ww (rs_wa G u) Sb) t.heap := hB
  rw [ht] at hB
  exact k u h1 h2 h3 H1 locs1 ls hB hS1 hl
set_option maxHeartbeats 4000000 in
set_option maxRecDepth 100000 in
theorem rs_start (Inv : rs_St → Prop) (PT : pt_all Inv) (Sa Sb : rs_St) (hSa : xf_X5_firstDraft rs_S0 = some Sa) (hSb : xf_X5_keepDraft Sa = some Sb) (hI : Inv Sb) {p : Program} {e : Env} {s : State} {m : MethodId} {below : List Frame} {meth : Method} {c : Code} (l : Launch) {b L : Nat} {xs : Nat → Int32} (hL : L ≤ 2560) (C0 : lw_At p s m meth c b L xs) : W p l e room_1 s m #[Value.ref b] below meth c s.heap [] 0 0 (lw_Z below #[Value.ref b] s) (entryFrame m ([Value.ref b] : List Value).toArray 4) := by
  obtain ⟨hx, hb, hr, hml, hown, hts, hX, hbl, hlocks, hgv⟩ := C0
  obtain ⟨G, hs0, hK⟩ := rs_begin hts hgv
  have C : rs_CZ G (rs_A G) code 4 RL p s m #[Value.ref b] c := ⟨hx, hb, hml, hown, fun w hw => hts w (rs_wgl w hw), hK, fun q h => (by show rs_s0 G ≤ q; rw [hs0]; exact h), fun _ h => h⟩
  have hl := lv_entry [Value.ref b] (n := 4) (Nat.le_of_ble_eq_true rfl)
  rw [lg_entry_eq]
  suffices hZ : rs_Z G (rs_A G) 4 p l e room_1 s m #[Value.ref b] below meth c (lw_Z below #[Value.ref b] s) 0 0 [] 0 [(0, .ref b)] [] from hZ s.heap [] _ (fun k q h => by simp at h) ⟨fun i j p q h => by simp at h, fun k q h => by simp at h⟩ va_S.rf hl
  refine rz_new (ci := 4) (fs := [.null, .null, .null, .null, .null, .null, .null, .int 0]) C wu_X4 tyX4 tyX4_ok wq_L_7 wj_X4 wn_X4 rfl (fun j hj => by rcases (show j = 0 ∨ j = 1 ∨ j = 2 ∨ j = 3 ∨ j = 4 ∨ j = 5 ∨ j = 6 ∨ j = 7 by omega) with rfl | rfl | rfl | rfl | rfl | rfl | rfl | rfl <;> rfl) (Nat.le_of_ble_eq_true rfl) (Nat.le_of_ble_eq_true rfl) dL_law_0 rfl (fun q1 => ?_)
  refine rz_dup C dL_law_3 rfl rfl ?_
  refine rz_callI C (i_X4 l G q1) wl_L_9 wc_yX4_init wn_X4 wi_yX4_init rfl (by decide +kernel) (by decide) (by decide) (Nat.le_of_ble_eq_true rfl) dL_law_4 rfl (fun b1 hb1 => ?_)
  refine rz_eq (w2 := rs_p91 G b1) rfl ?_
  refine rz_astore_n (i := 1) C dL_law_7 rfl (by decide) rfl ?_
  refine rz_new (ci := 5) (fs := [.null, .null, .null, .null, .null, .null, .int 0, .int 0, .int 0, .int 0, .int 0, .int 0, .int 0, .int 0, .int 0, .int 0, .int 0, .int 0, .int 0, .int 0, .null, .null, .int 0, .int 0, .long 0, .long 0, .long 0, .null, .null, .null, .null, .null, .int 0, .null]) C wu_X5 tyX5 tyX5_ok wq_L_10 wj_X5 wn_X5 rfl (fun j hj => by rcases (show j = 0 ∨ j = 1 ∨ j = 2 ∨ j = 3 ∨ j = 4 ∨ j = 5 ∨ j = 6 ∨ j = 7 ∨ j = 8 ∨ j = 9 ∨ j = 10 ∨ j = 11 ∨ j = 12 ∨ j = 13 ∨ j = 14 ∨ j = 15 ∨ j = 16 ∨ j = 17 ∨ j = 18 ∨ j = 19 ∨ j = 20 ∨ j = 21 ∨ j = 22 ∨ j = 23 ∨ j = 24 ∨ j = 25 ∨ j = 26 ∨ j = 27 ∨ j = 28 ∨ j = 29 ∨ j = 30 ∨ j = 31 ∨ j = 32 ∨ j = 33 by omega) with rfl | rfl | rfl | rfl | rfl | rfl | rfl | rfl | rfl | rfl | rfl | rfl | rfl | rfl | rfl | rfl | rfl | rfl | rfl | rfl | rfl | rfl | rfl | rfl | rfl | rfl | rfl | rfl | rfl | rfl | rfl | rfl | rfl | rfl <;> rfl) (Nat.le_of_ble_eq_true rfl) (Nat.le_of_ble_eq_true rfl) dL_law_8 rfl (fun q2 => ?_)
  refine rz_dup C dL_law_11 rfl rfl ?_
  refine rz_callM C (i_X5 l G b1 q2 Sa Sb hSa hSb) wl_L_12 (by decide) (by decide) (Nat.le_of_ble_eq_true rfl) dL_law_12 rfl (fun b2 h76 h91 hok => ?_)
  have C2 : rs_C (rs_wa G b2) code 4 RL p s m #[Value.ref b] c := ⟨C.1, C.2.1, C.2.2.1, C.2.2.2.1, C.2.2.2.2.1, C.2.2.2.2.2.1.1, hok⟩
  refine ry_astore_n (i := 2) C2 dL_law_15 rfl (by decide) rfl ?_
  refine ry_iconst (v := 0) C2 dL_law_16 (by decide) rfl ?_
  refine ry_istore_n (i := 3) C2 dL_law_17 rfl (by decide) rfl ?_
  have e76 : q1 = rs_ad (rs_wa G b2) 76 := (hb1.symm.trans h76.symm)
  have e91 : q2 = rs_ad (rs_wa G b2) 91 := h91.symm
  have hbA : ¬ rs_A (rs_wa G b2) b := by
    show ¬ rs_s0 G ≤ b
    rw [hs0]
    exact Nat.not_le.mpr hbl
  have hfin : ∀ (S : rs_St) (lv : List (Nat × Value)), rs_Y (rs_wa G b2) 4 p l e room_1 s m #[Value.ref b] below meth c (lw_Z below #[Value.ref b] s) 106 3725 S 1309 lv [.int 1] := by
    intro S lv H locs ls hP hS hl
    refine va_forget (fun q hq => ?_) ?_
    · have h3 : rs_s0 G ≤ q.base := hS.2.2 q hq
      rw [hs0] at h3
      exact h3
    · refine W.widen (k := 600000) (n := 7302250) (Nat.le_of_ble_eq_true rfl) (Nat.le_of_ble_eq_true rfl) ?_
      exact lw_ret hx hb hr hlocks dL_law_1309
  rw [e76, e91]
  exact ry_subk (rl_loop hok Inv PT C2 ⟨Nat.le_of_ble_eq_true rfl, Nat.le_of_ble_eq_true rfl⟩ hL hX hbl hbA hfin (L + 1) 0 Sb (Nat.zero_le _) (by omega) hI) (rs_ac rfl (rs_ac rfl (rs_ac rfl (rs_ac rfl rs_a0))))
