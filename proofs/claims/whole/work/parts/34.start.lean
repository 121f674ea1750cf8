theorem rs_kx0 : ∀ k, k < 91 → (rs_kd k = 0 → k + 2 < 91) ∧ (rs_kd k = 1 → k + 6 < 91) ∧ (rs_kd k = 2 → k + 1 < 91) ∧ (rs_kd k = 3 → k + 1 < 91) ∧ (rs_kd k ≠ 5) ∧ (rs_kd k = 9 → k + 15 < 91) := by decide +kernel
theorem rs_kx1 : ∀ k, k < 91 → rs_kd k < 12 := by decide +kernel
theorem rs_at_cong {D : va_G} {G : rs_G} {b b2 : Nat → Nat} {S : rs_St} {H : Heap} {k : Nat} (hk : k < 91) (hb : ∀ j, j < 91 → b2 j = b j) (h : va_at D rs_cl (b k, rs_ee (rs_wa G b) S k) H) : va_at D rs_cl (b2 k, rs_ee (rs_wa G b2) S k) H := by
  obtain ⟨x0, x1, x2, x3, x5, x9⟩ := rs_kx0 k hk
  have hlt := rs_kx1 k hk
  have eb : ∀ j, j < 91 → rs_ad (rs_wa G b2) j = rs_ad (rs_wa G b) j := hb
  rw [hb k hk]
  rcases (show rs_kd k = 0 ∨ rs_kd k = 1 ∨ rs_kd k = 2 ∨ rs_kd k = 3 ∨ rs_kd k = 4 ∨ rs_kd k = 6 ∨ rs_kd k = 7 ∨ rs_kd k = 8 ∨ rs_kd k = 9 ∨ rs_kd k = 10 ∨ rs_kd k = 11 by omega) with z | z | z | z | z | z | z | z | z | z | z
  · rw [rs_e0 z] at h ⊢
    have q := x0 z
    rw [rs_o0, eb _ (by omega), eb _ (by omega)]
    exact h
  · rw [rs_e1 z] at h ⊢
    have q := x1 z
    rw [rs_o1, eb _ (by omega), eb _ (by omega), eb _ (by omega), eb _ (by omega), eb _ (by omega), eb _ (by omega)]
    exact h
  · rw [rs_e2 z] at h ⊢
    have q := x2 z
    rw [rs_o2, eb _ (by omega)]
    exact h
  · rw [rs_e3 z] at h ⊢
    have q := x3 z
    rw [rs_o3, eb _ (by omega)]
    exact h
  · rw [rs_e4 z] at h ⊢
    rw [rs_o4, eb _ (by omega), eb _ (by omega), eb _ (by omega), eb _ (by omega), eb _ (by omega), eb _ (by omega), eb _ (by omega)]
    exact h
  · rw [rs_e6 z] at h ⊢
    exact h
  · rw [rs_e7 z] at h ⊢
    exact h
  · rw [rs_e8 z] at h ⊢
    exact h
  · rw [rs_e9 z] at h ⊢
    have q := x9 z
    have h2 : H[b k]? = some (vp_cell (rs_cy (rs_wa G b) 3) (4, .inr (.inr (.inr (.inr (fun j => some (rs_ad (rs_wa G b) (k + 6 + 3 * j)))))))) := h
    rw [rs_arrc (g := fun j => some (rs_ad (rs_wa G b2) (k + 6 + 3 * j))) (fun j hj => by rw [eb _ (by omega)])] at h2
    exact h2
  · rw [rs_e10 z] at h ⊢
    have h2 : H[b k]? = some (vp_cell (rs_cy (rs_wa G b) 4) (2, .inr (.inr (.inr (.inr (fun j => some (rs_ad (rs_wa G b) (38 + 19 * j)))))))) := h
    rw [rs_arrc (g := fun j => some (rs_ad (rs_wa G b2) (38 + 19 * j))) (fun j hj => by rw [eb _ (by omega)])] at h2
    exact h2
  · rw [rs_e11 z] at h ⊢
    have h2 : H[b k]? = some (vp_cell (rs_cy (rs_wa G b) 5) (4, .inr (.inr (.inr (.inr (fun j => some (rs_ad (rs_wa G b) (83 + 2 * j)))))))) := h
    rw [rs_arrc (g := fun j => some (rs_ad (rs_wa G b2) (83 + 2 * j))) (fun j hj => by rw [eb _ (by omega)])] at h2
    exact h2
theorem rs_ok_of {G : rs_G} {S : rs_St} (h : va_D (rs_A G) (rs_ww G S)) : rs_ok G := ⟨fun i j hi hj e => h.1 i j _ _ (rs_ww_get G S hi) (rs_ww_get G S hj) e, fun i hi => h.2 i _ (rs_ww_get G S hi)⟩
theorem rz_toY {G : rs_G} {nL : Nat} {p : Program} {l : Launch} {e : Env} {R : Room} {s : State} {m : MethodId} {args : Array Value} {below : List Frame} {meth : Method} {c : Code} {Q : State → Prop} {ce sl : Nat} {ws : va_W} {pc : Nat} {lv : List (Nat × Value)} {st : List Value} (b : Nat → Nat) (S : rs_St) (hw : ∀ H, va_P (rs_D0 G) rs_cl ws H → va_P (rs_D0 G) rs_cl (rs_ww (rs_wa G b) S) H) (hw2 : va_D (rs_A G) ws → va_D (rs_A G) (rs_ww (rs_wa G b) S)) (k : rs_ok (rs_wa G b) → rs_Y (rs_wa G b) nL p l e R s m args below meth c Q ce sl S pc lv st) : rs_Z G (rs_A G) nL p l e R s m args below meth c Q ce sl ws pc lv st := fun H locs ls hP hD hS hl => k (rs_ok_of (hw2 hD)) H locs ls (hw H hP) hS hl
def rs_mp (G : rs_G) (b : Nat → Nat) (q : Nat) (U : State) : Prop := va_P (rs_D0 G) rs_cl (rs_p91 G b ++ [(q, .inr (5, [.null, .null, .null, .null, .null, .null, .int 0, .int 0, .int 0, .int 0, .int 0, .int 0, .int 0, .int 0, .int 0, .int 0, .int 0, .int 0, .int 0, .int 0, .null, .null, .int 0, .int 0, .long 0, .long 0, .long 0, .null, .null, .null, .null, .null, .int 0, .null]))]) U.heap ∧ va_D (rs_A G) (rs_p91 G b ++ [(q, .inr (5, [.null, .null, .null, .null, .null, .null, .int 0, .int 0, .int 0, .int 0, .int 0, .int 0, .int 0, .int 0, .int 0, .int 0, .int 0, .int 0, .int 0, .int 0, .null, .null, .int 0, .int 0, .long 0, .long 0, .long 0, .null, .null, .null, .null, .null, .int 0, .null]))]) ∧ rs_kc G U
theorem rs_mblind (G : rs_G) (b : Nat → Nat) (q : Nat) (av : List Value) : FrameBlind (va_Pc av (rs_mp G b q)) := fun _ _ _ _ z => ⟨z.1, z.2.1, z.2.2.1, rs_kc_blind z.2.2.2⟩
def rs_bq (b : Nat → Nat) (q q1 q2 q3 q4 q5 q6 q7 q8 q9 q10 q11 q12 q13 q14 : Nat) : Nat → Nat := fun k => if k < 91 then b k else if k = 91 then q else if k = 92 then q1 else if k = 93 then q2 else if k = 94 then q3 else if k = 95 then q4 else if k = 96 then q5 else if k = 97 then q6 else if k = 98 then q7 else if k = 99 then q8 else if k = 100 then q9 else if k = 101 then q10 else if k = 102 then q11 else if k = 103 then q12 else if k = 104 then q13 else q14
set_option maxHeartbeats 4000000 in
set_option maxRecDepth 100000 in
theorem i_X5 (l : Launch) (G : rs_G) (b : Nat → Nat) (q : Nat) (Sa Sb : rs_St) (hSa : xf_X5_firstDraft rs_S0 = some Sa) (hSb : xf_X5_keepDraft Sa = some Sb) : Met l yX5_init (rs_wz yX5_init cX5_init 2 none) { frames := 5, cells := 14, slots := 2840, locals := 36 * 5 } (va_Pc [.ref q] (rs_mp G b q)) (va_Qv (fun b2 : Nat → Nat => b2 76 = b 76 ∧ b2 91 = q ∧ rs_ok (rs_wa G b2)) (fun b2 t => va_P (rs_D0 G) rs_cl (rs_ww (rs_wa G b2) Sb) t.heap) (rs_A G)) 14 2840 (rs_A G) := by
  refine Met.ofW (cc := cX5_init) (maxL := 2) (ret := none) (by decide) rfl ?_
  intro p e s m args below meth c s₁ B hml hv
  obtain ⟨rfl, hP0, hD0, hK⟩ := hv
  have hts := atoms_spec (ws := rs_wz yX5_init cX5_init 2 none) B.pre
  have hl0 := lv_entry [Value.ref q] (n := 2) (Nat.le_of_ble_eq_true rfl)
  rw [lg_entry_eq]
  have hr := B.returns
  have hlk := B.notSynchronized
  have hi : meth.name = "<init>" := (name_of_methodNamed B.named B.method).1
  have C : rs_CZ G (rs_A G) cX5_init 2 RX5 p s m #[Value.ref q] c := ⟨B.exec, B.bytes, hml, findClass_of_methodNamed B.named, fun w hw => hts w (List.mem_cons_of_mem _ hw), hK, fun z hz => Nat.le_trans hK.1.2.1 hz, fun _ h => h⟩
  suffices hZ : rs_Z G (rs_A G) 2 p l e { frames := 5, cells := 14, slots := 2840, locals := 36 * 5 } s m #[Value.ref q] below meth c (MQ below (va_Qv (fun b2 : Nat → Nat => b2 76 = b 76 ∧ b2 91 = q ∧ rs_ok (rs_wa G b2)) (fun b2 t => va_P (rs_D0 G) rs_cl (rs_ww (rs_wa G b2) Sb) t.heap) (rs_A G)) #[Value.ref q] s 14 2840 (rs_A G)) 0 0 (rs_p91 G b ++ [(q, .inr (5, [.null, .null, .null, .null, .null, .null, .int 0, .int 0, .int 0, .int 0, .int 0, .int 0, .int 0, .int 0, .int 0, .int 0, .int 0, .int 0, .int 0, .int 0, .null, .null, .int 0, .int 0, .long 0, .long 0, .long 0, .null, .null, .null, .null, .null, .int 0, .null]))]) 0 [(0, .ref q)] [] from hZ s.heap [] _ hP0 hD0 va_S.rf hl0
  refine rz_perm List.perm_append_comm ?_
  refine rz_eq (w2 := [(q, .inr (5, [.null, .null, .null, .null, .null, .null, .int 0, .int 0, .int 0, .int 0, .int 0, .int 0, .int 0, .int 0, .int 0, .int 0, .int 0, .int 0, .int 0, .int 0, .null, .null, .int 0, .int 0, .long 0, .long 0, .long 0, .null, .null, .null, .null, .null, .int 0, .null]))] ++ rs_p91 G b) (rfl) ?_
  refine rz_aload_n (i := 0) C dX5_init_0 rfl rfl rfl ?_
  refine rz_obj C wl_X5_1 (by decide) (Nat.le_of_ble_eq_true rfl) dX5_init_1 rfl ?_
  refine rz_aload_n (i := 0) C dX5_init_4 rfl rfl rfl ?_
  refine rz_sipush (v := 153) C dX5_init_5 (by decide) rfl ?_
  refine rz_newi (N := 153) C (by decide) (by decide) (Nat.le_of_ble_eq_true rfl) (Nat.le_of_ble_eq_true rfl) (Nat.le_of_ble_eq_true rfl) dX5_init_8 rfl (fun q1 => ?_)
  refine rz_perm (rs_pm1 _ _ _) ?_
  refine rz_eq (w2 := [(q, .inr (5, [.null, .null, .null, .null, .null, .null, .int 0, .int 0, .int 0, .int 0, .int 0, .int 0, .int 0, .int 0, .int 0, .int 0, .int 0, .int 0, .int 0, .int 0, .null, .null, .int 0, .int 0, .long 0, .long 0, .long 0, .null, .null, .null, .null, .null, .int 0, .null])), (q1, .inl (rs_cy G 0, 153, .inl (fun _ => 0)))] ++ rs_p91 G b) (rfl) ?_
  refine rz_putF C 0 rfl rfl wu_X5 tyX5 tyX5_ok nmX5 0 (by decide) wl_X5_7 rfl rfl hi rfl (ty := .array .int) (by decide +kernel) rfl rfl (Nat.le_of_ble_eq_true rfl) dX5_init_10 rfl ?_
  refine rz_eq (w2 := [(q, .inr (5, [.ref (q1), .null, .null, .null, .null, .null, .int 0, .int 0, .int 0, .int 0, .int 0, .int 0, .int 0, .int 0, .int 0, .int 0, .int 0, .int 0, .int 0, .int 0, .null, .null, .int 0, .int 0, .long 0, .long 0, .long 0, .null, .null, .null, .null, .null, .int 0, .null])), (q1, .inl (rs_cy G 0, 153, .inl (fun _ => 0)))] ++ rs_p91 G b) (rfl) ?_
  refine rz_aload_n (i := 0) C dX5_init_13 rfl rfl rfl ?_
  refine rz_bipush (v := 51) C dX5_init_14 (by decide) rfl ?_
  refine rz_newi (N := 51) C (by decide) (by decide) (Nat.le_of_ble_eq_true rfl) (Nat.le_of_ble_eq_true rfl) (Nat.le_of_ble_eq_true rfl) dX5_init_16 rfl (fun q2 => ?_)
  refine rz_perm (rs_pm1 _ _ _) ?_
  refine rz_eq (w2 := [(q, .inr (5, [.ref (q1), .null, .null, .null, .null, .null, .int 0, .int 0, .int 0, .int 0, .int 0, .int 0, .int 0, .int 0, .int 0, .int 0, .int 0, .int 0, .int 0, .int 0, .null, .null, .int 0, .int 0, .long 0, .long 0, .long 0, .null, .null, .null, .null, .null, .int 0, .null])), (q1, .inl (rs_cy G 0, 153, .inl (fun _ => 0))), (q2, .inl (rs_cy G 0, 51, .inl (fun _ => 0)))] ++ rs_p91 G b) (rfl) ?_
  refine rz_putF C 0 rfl rfl wu_X5 tyX5 tyX5_ok nmX5 1 (by decide) wl_X5_13 rfl rfl hi rfl (ty := .array .int) (by decide +kernel) rfl rfl (Nat.le_of_ble_eq_true rfl) dX5_init_18 rfl ?_
  refine rz_eq (w2 := [(q, .inr (5, [.ref (q1), .ref (q2), .null, .null, .null, .null, .int 0, .int 0, .int 0, .int 0, .int 0, .int 0, .int 0, .int 0, .int 0, .int 0, .int 0, .int 0, .int 0, .int 0, .null, .null, .int 0, .int 0, .long 0, .long 0, .long 0, .null, .null, .null, .null, .null, .int 0, .null])), (q1, .inl (rs_cy G 0, 153, .inl (fun _ => 0))), (q2, .inl (rs_cy G 0, 51, .inl (fun _ => 0)))] ++ rs_p91 G b) (rfl) ?_
  refine rz_aload_n (i := 0) C dX5_init_21 rfl rfl rfl ?_
  refine rz_iconst (v := 2) C dX5_init_22 (by decide) rfl ?_
  refine rz_newz (N := 2) C (by decide) (by decide) (Nat.le_of_ble_eq_true rfl) (Nat.le_of_ble_eq_true rfl) (Nat.le_of_ble_eq_true rfl) dX5_init_23 rfl (fun q3 => ?_)
  refine rz_perm (rs_pm1 _ _ _) ?_
  refine rz_eq (w2 := [(q, .inr (5, [.ref (q1), .ref (q2), .null, .null, .null, .null, .int 0, .int 0, .int 0, .int 0, .int 0, .int 0, .int 0, .int 0, .int 0, .int 0, .int 0, .int 0, .int 0, .int 0, .null, .null, .int 0, .int 0, .long 0, .long 0, .long 0, .null, .null, .null, .null, .null, .int 0, .null])), (q1, .inl (rs_cy G 0, 153, .inl (fun _ => 0))), (q2, .inl (rs_cy G 0, 51, .inl (fun _ => 0))), (q3, .inl (rs_cy G 2, 2, .inl (fun _ => 0)))] ++ rs_p91 G b) (rfl) ?_
  refine rz_putF C 0 rfl rfl wu_X5 tyX5 tyX5_ok nmX5 2 (by decide) wl_X5_16 rfl rfl hi rfl (ty := .array .boolean) (by decide +kernel) rfl rfl (Nat.le_of_ble_eq_true rfl) dX5_init_25 rfl ?_
  refine rz_eq (w2 := [(q, .inr (5, [.ref (q1), .ref (q2), .ref (q3), .null, .null, .null, .int 0, .int 0, .int 0, .int 0, .int 0, .int 0, .int 0, .int 0, .int 0, .int 0, .int 0, .int 0, .int 0, .int 0, .null, .null, .int 0, .int 0, .long 0, .long 0, .long 0, .null, .null, .null, .null, .null, .int 0, .null])), (q1, .inl (rs_cy G 0, 153, .inl (fun _ => 0))), (q2, .inl (rs_cy G 0, 51, .inl (fun _ => 0))), (q3, .inl (rs_cy G 2, 2, .inl (fun _ => 0)))] ++ rs_p91 G b) (rfl) ?_
  refine rz_aload_n (i := 0) C dX5_init_28 rfl rfl rfl ?_
  refine rz_bipush (v := 51) C dX5_init_29 (by decide) rfl ?_
  refine rz_newi (N := 51) C (by decide) (by decide) (Nat.le_of_ble_eq_true rfl) (Nat.le_of_ble_eq_true rfl) (Nat.le_of_ble_eq_true rfl) dX5_init_31 rfl (fun q4 => ?_)
  refine rz_perm (rs_pm1 _ _ _) ?_
  refine rz_eq (w2 := [(q, .inr (5, [.ref (q1), .ref (q2), .ref (q3), .null, .null, .null, .int 0, .int 0, .int 0, .int 0, .int 0, .int 0, .int 0, .int 0, .int 0, .int 0, .int 0, .int 0, .int 0, .int 0, .null, .null, .int 0, .int 0, .long 0, .long 0, .long 0, .null, .null, .null, .null, .null, .int 0, .null])), (q1, .inl (rs_cy G 0, 153, .inl (fun _ => 0))), (q2, .inl (rs_cy G 0, 51, .inl (fun _ => 0))), (q3, .inl (rs_cy G 2, 2, .inl (fun _ => 0))), (q4, .inl (rs_cy G 0, 51, .inl (fun _ => 0)))] ++ rs_p91 G b) (rfl) ?_
  refine rz_putF C 0 rfl rfl wu_X5 tyX5 tyX5_ok nmX5 3 (by decide) wl_X5_20 rfl rfl hi rfl (ty := .array .int) (by decide +kernel) rfl rfl (Nat.le_of_ble_eq_true rfl) dX5_init_33 rfl ?_
  refine rz_eq (w2 := [(q, .inr (5, [.ref (q1), .ref (q2), .ref (q3), .ref (q4), .null, .null, .int 0, .int 0, .int 0, .int 0, .int 0, .int 0, .int 0, .int 0, .int 0, .int 0, .int 0, .int 0, .int 0, .int 0, .null, .null, .int 0, .int 0, .long 0, .long 0, .long 0, .null, .null, .null, .null, .null, .int 0, .null])), (q1, .inl (rs_cy G 0, 153, .inl (fun _ => 0))), (q2, .inl (rs_cy G 0, 51, .inl (fun _ => 0))), (q3, .inl (rs_cy G 2, 2, .inl (fun _ => 0))), (q4, .inl (rs_cy G 0, 51, .inl (fun _ => 0)))] ++ rs_p91 G b) (rfl) ?_
  refine rz_aload_n (i := 0) C dX5_init_36 rfl rfl rfl ?_
  refine rz_iconst (v := 4) C dX5_init_37 (by decide) rfl ?_
  refine rz_newz (N := 4) C (by decide) (by decide) (Nat.le_of_ble_eq_true rfl) (Nat.le_of_ble_eq_true rfl) (Nat.le_of_ble_eq_true rfl) dX5_init_38 rfl (fun q5 => ?_)
  refine rz_perm (rs_pm1 _ _ _) ?_
  refine rz_eq (w2 := [(q, .inr (5, [.ref (q1), .ref (q2), .ref (q3), .ref (q4), .null, .null, .int 0, .int 0, .int 0, .int 0, .int 0, .int 0, .int 0, .int 0, .int 0, .int 0, .int 0, .int 0, .int 0, .int 0, .null, .null, .int 0, .int 0, .long 0, .long 0, .long 0, .null, .null, .null, .null, .null, .int 0, .null])), (q1, .inl (rs_cy G 0, 153, .inl (fun _ => 0))), (q2, .inl (rs_cy G 0, 51, .inl (fun _ => 0))), (q3, .inl (rs_cy G 2, 2, .inl (fun _ => 0))), (q4, .inl (rs_cy G 0, 51, .inl (fun _ => 0))), (q5, .inl (rs_cy G 2, 4, .inl (fun _ => 0)))] ++ rs_p91 G b) (rfl) ?_
  refine rz_putF C 0 rfl rfl wu_X5 tyX5 tyX5_ok nmX5 4 (by decide) wl_X5_23 rfl rfl hi rfl (ty := .array .boolean) (by decide +kernel) rfl rfl (Nat.le_of_ble_eq_true rfl) dX5_init_40 rfl ?_
  refine rz_eq (w2 := [(q, .inr (5, [.ref (q1), .ref (q2), .ref (q3), .ref (q4), .ref (q5), .null, .int 0, .int 0, .int 0, .int 0, .int 0, .int 0, .int 0, .int 0, .int 0, .int 0, .int 0, .int 0, .int 0, .int 0, .null, .null, .int 0, .int 0, .long 0, .long 0, .long 0, .null, .null, .null, .null, .null, .int 0, .null])), (q1, .inl (rs_cy G 0, 153, .inl (fun _ => 0))), (q2, .inl (rs_cy G 0, 51, .inl (fun _ => 0))), (q3, .inl (rs_cy G 2, 2, .inl (fun _ => 0))), (q4, .inl (rs_cy G 0, 51, .inl (fun _ => 0))), (q5, .inl (rs_cy G 2, 4, .inl (fun _ => 0)))] ++ rs_p91 G b) (rfl) ?_
  refine rz_aload_n (i := 0) C dX5_init_43 rfl rfl rfl ?_
  refine rz_sipush (v := 160) C dX5_init_44 (by decide) rfl ?_
  refine rz_newi (N := 160) C (by decide) (by decide) (Nat.le_of_ble_eq_true rfl) (Nat.le_of_ble_eq_true rfl) (Nat.le_of_ble_eq_true rfl) dX5_init_47 rfl (fun q6 => ?_)
  refine rz_perm (rs_pm1 _ _ _) ?_
  refine rz_eq (w2 := [(q, .inr (5, [.ref (q1), .ref (q2), .ref (q3), .ref (q4), .ref (q5), .null, .int 0, .int 0, .int 0, .int 0, .int 0, .int 0, .int 0, .int 0, .int 0, .int 0, .int 0, .int 0, .int 0, .int 0, .null, .null, .int 0, .int 0, .long 0, .long 0, .long 0, .null, .null, .null, .null, .null, .int 0, .null])), (q1, .inl (rs_cy G 0, 153, .inl (fun _ => 0))), (q2, .inl (rs_cy G 0, 51, .inl (fun _ => 0))), (q3, .inl (rs_cy G 2, 2, .inl (fun _ => 0))), (q4, .inl (rs_cy G 0, 51, .inl (fun _ => 0))), (q5, .inl (rs_cy G 2, 4, .inl (fun _ => 0))), (q6, .inl (rs_cy G 0, 160, .inl (fun _ => 0)))] ++ rs_p91 G b) (rfl) ?_
  refine rz_putF C 0 rfl rfl wu_X5 tyX5 tyX5_ok nmX5 5 (by decide) wl_X5_26 rfl rfl hi rfl (ty := .array .int) (by decide +kernel) rfl rfl (Nat.le_of_ble_eq_true rfl) dX5_init_49 rfl ?_
  refine rz_eq (w2 := [(q, .inr (5, [.ref (q1), .ref (q2), .ref (q3), .ref (q4), .ref (q5), .ref (q6), .int 0, .int 0, .int 0, .int 0, .int 0, .int 0, .int 0, .int 0, .int 0, .int 0, .int 0, .int 0, .int 0, .int 0, .null, .null, .int 0, .int 0, .long 0, .long 0, .long 0, .null, .null, .null, .null, .null, .int 0, .null])), (q1, .inl (rs_cy G 0, 153, .inl (fun _ => 0))), (q2, .inl (rs_cy G 0, 51, .inl (fun _ => 0))), (q3, .inl (rs_cy G 2, 2, .inl (fun _ => 0))), (q4, .inl (rs_cy G 0, 51, .inl (fun _ => 0))), (q5, .inl (rs_cy G 2, 4, .inl (fun _ => 0))), (q6, .inl (rs_cy G 0, 160, .inl (fun _ => 0)))] ++ rs_p91 G b) (rfl) ?_
  refine rz_aload_n (i := 0) C dX5_init_52 rfl rfl rfl ?_
  refine rz_bipush (v := 8) C dX5_init_53 (by decide) rfl ?_
  refine rz_newi (N := 8) C (by decide) (by decide) (Nat.le_of_ble_eq_true rfl) (Nat.le_of_ble_eq_true rfl) (Nat.le_of_ble_eq_true rfl) dX5_init_55 rfl (fun q7 => ?_)
  refine rz_perm (rs_pm1 _ _ _) ?_
  refine rz_eq (w2 := [(q, .inr (5, [.ref (q1), .ref (q2), .ref (q3), .ref (q4), .ref (q5), .ref (q6), .int 0, .int 0, .int 0, .int 0, .int 0, .int 0, .int 0, .int 0, .int 0, .int 0, .int 0, .int 0, .int 0, .int 0, .null, .null, .int 0, .int 0, .long 0, .long 0, .long 0, .null, .null, .null, .null, .null, .int 0, .null])), (q1, .inl (rs_cy G 0, 153, .inl (fun _ => 0))), (q2, .inl (rs_cy G 0, 51, .inl (fun _ => 0))), (q3, .inl (rs_cy G 2, 2, .inl (fun _ => 0))), (q4, .inl (rs_cy G 0, 51, .inl (fun _ => 0))), (q5, .inl (rs_cy G 2, 4, .inl (fun _ => 0))), (q6, .inl (rs_cy G 0, 160, .inl (fun _ => 0))), (q7, .inl (rs_cy G 0, 8, .inl (fun _ => 0)))] ++ rs_p91 G b) (rfl) ?_
  refine rz_putF C 0 rfl rfl wu_X5 tyX5 tyX5_ok nmX5 20 (by decide) wl_X5_29 rfl rfl hi rfl (ty := .array .int) (by decide +kernel) rfl rfl (Nat.le_of_ble_eq_true rfl) dX5_init_57 rfl ?_
  refine rz_eq (w2 := [(q, .inr (5, [.ref (q1), .ref (q2), .ref (q3), .ref (q4), .ref (q5), .ref (q6), .int 0, .int 0, .int 0, .int 0, .int 0, .int 0, .int 0, .int 0, .int 0, .int 0, .int 0, .int 0, .int 0, .int 0, .ref (q7), .null, .int 0, .int 0, .long 0, .long 0, .long 0, .null, .null, .null, .null, .null, .int 0, .null])), (q1, .inl (rs_cy G 0, 153, .inl (fun _ => 0))), (q2, .inl (rs_cy G 0, 51, .inl (fun _ => 0))), (q3, .inl (rs_cy G 2, 2, .inl (fun _ => 0))), (q4, .inl (rs_cy G 0, 51, .inl (fun _ => 0))), (q5, .inl (rs_cy G 2, 4, .inl (fun _ => 0))), (q6, .inl (rs_cy G 0, 160, .inl (fun _ => 0))), (q7, .inl (rs_cy G 0, 8, .inl (fun _ => 0)))] ++ rs_p91 G b) (rfl) ?_
  refine rz_aload_n (i := 0) C dX5_init_60 rfl rfl rfl ?_
  refine rz_bipush (v := 8) C dX5_init_61 (by decide) rfl ?_
  refine rz_newi (N := 8) C (by decide) (by decide) (Nat.le_of_ble_eq_true rfl) (Nat.le_of_ble_eq_true rfl) (Nat.le_of_ble_eq_true rfl) dX5_init_63 rfl (fun q8 => ?_)
  refine rz_perm (rs_pm1 _ _ _) ?_
  refine rz_eq (w2 := [(q, .inr (5, [.ref (q1), .ref (q2), .ref (q3), .ref (q4), .ref (q5), .ref (q6), .int 0, .int 0, .int 0, .int 0, .int 0, .int 0, .int 0, .int 0, .int 0, .int 0, .int 0, .int 0, .int 0, .int 0, .ref (q7), .null, .int 0, .int 0, .long 0, .long 0, .long 0, .null, .null, .null, .null, .null, .int 0, .null])), (q1, .inl (rs_cy G 0, 153, .inl (fun _ => 0))), (q2, .inl (rs_cy G 0, 51, .inl (fun _ => 0))), (q3, .inl (rs_cy G 2, 2, .inl (fun _ => 0))), (q4, .inl (rs_cy G 0, 51, .inl (fun _ => 0))), (q5, .inl (rs_cy G 2, 4, .inl (fun _ => 0))), (q6, .inl (rs_cy G 0, 160, .inl (fun _ => 0))), (q7, .inl (rs_cy G 0, 8, .inl (fun _ => 0))), (q8, .inl (rs_cy G 0, 8, .inl (fun _ => 0)))] ++ rs_p91 G b) (rfl) ?_
  refine rz_putF C 0 rfl rfl wu_X5 tyX5 tyX5_ok nmX5 21 (by decide) wl_X5_32 rfl rfl hi rfl (ty := .array .int) (by decide +kernel) rfl rfl (Nat.le_of_ble_eq_true rfl) dX5_init_65 rfl ?_
  refine rz_eq (w2 := [(q, .inr (5, [.ref (q1), .ref (q2), .ref (q3), .ref (q4), .ref (q5), .ref (q6), .int 0, .int 0, .int 0, .int 0, .int 0, .int 0, .int 0, .int 0, .int 0, .int 0, .int 0, .int 0, .int 0, .int 0, .ref (q7), .ref (q8), .int 0, .int 0, .long 0, .long 0, .long 0, .null, .null, .null, .null, .null, .int 0, .null])), (q1, .inl (rs_cy G 0, 153, .inl (fun _ => 0))), (q2, .inl (rs_cy G 0, 51, .inl (fun _ => 0))), (q3, .inl (rs_cy G 2, 2, .inl (fun _ => 0))), (q4, .inl (rs_cy G 0, 51, .inl (fun _ => 0))), (q5, .inl (rs_cy G 2, 4, .inl (fun _ => 0))), (q6, .inl (rs_cy G 0, 160, .inl (fun _ => 0))), (q7, .inl (rs_cy G 0, 8, .inl (fun _ => 0))), (q8, .inl (rs_cy G 0, 8, .inl (fun _ => 0)))] ++ rs_p91 G b) (rfl) ?_
  refine rz_aload_n (i := 0) C dX5_init_68 rfl rfl rfl ?_
  refine rz_sipush (v := 168) C dX5_init_69 (by decide) rfl ?_
  refine rz_newi (N := 168) C (by decide) (by decide) (Nat.le_of_ble_eq_true rfl) (Nat.le_of_ble_eq_true rfl) (Nat.le_of_ble_eq_true rfl) dX5_init_72 rfl (fun q9 => ?_)
  refine rz_perm (rs_pm1 _ _ _) ?_
  refine rz_eq (w2 := [(q, .inr (5, [.ref (q1), .ref (q2), .ref (q3), .ref (q4), .ref (q5), .ref (q6), .int 0, .int 0, .int 0, .int 0, .int 0, .int 0, .int 0, .int 0, .int 0, .int 0, .int 0, .int 0, .int 0, .int 0, .ref (q7), .ref (q8), .int 0, .int 0, .long 0, .long 0, .long 0, .null, .null, .null, .null, .null, .int 0, .null])), (q1, .inl (rs_cy G 0, 153, .inl (fun _ => 0))), (q2, .inl (rs_cy G 0, 51, .inl (fun _ => 0))), (q3, .inl (rs_cy G 2, 2, .inl (fun _ => 0))), (q4, .inl (rs_cy G 0, 51, .inl (fun _ => 0))), (q5, .inl (rs_cy G 2, 4, .inl (fun _ => 0))), (q6, .inl (rs_cy G 0, 160, .inl (fun _ => 0))), (q7, .inl (rs_cy G 0, 8, .inl (fun _ => 0))), (q8, .inl (rs_cy G 0, 8, .inl (fun _ => 0))), (q9, .inl (rs_cy G 0, 168, .inl (fun _ => 0)))] ++ rs_p91 G b) (rfl) ?_
  refine rz_putF C 0 rfl rfl wu_X5 tyX5 tyX5_ok nmX5 27 (by decide) wl_X5_35 rfl rfl hi rfl (ty := .array .int) (by decide +kernel) rfl rfl (Nat.le_of_ble_eq_true rfl) dX5_init_74 rfl ?_
  refine rz_eq (w2 := [(q, .inr (5, [.ref (q1), .ref (q2), .ref (q3), .ref (q4), .ref (q5), .ref (q6), .int 0, .int 0, .int 0, .int 0, .int 0, .int 0, .int 0, .int 0, .int 0, .int 0, .int 0, .int 0, .int 0, .int 0, .ref (q7), .ref (q8), .int 0, .int 0, .long 0, .long 0, .long 0, .ref (q9), .null, .null, .null, .null, .int 0, .null])), (q1, .inl (rs_cy G 0, 153, .inl (fun _ => 0))), (q2, .inl (rs_cy G 0, 51, .inl (fun _ => 0))), (q3, .inl (rs_cy G 2, 2, .inl (fun _ => 0))), (q4, .inl (rs_cy G 0, 51, .inl (fun _ => 0))), (q5, .inl (rs_cy G 2, 4, .inl (fun _ => 0))), (q6, .inl (rs_cy G 0, 160, .inl (fun _ => 0))), (q7, .inl (rs_cy G 0, 8, .inl (fun _ => 0))), (q8, .inl (rs_cy G 0, 8, .inl (fun _ => 0))), (q9, .inl (rs_cy G 0, 168, .inl (fun _ => 0)))] ++ rs_p91 G b) (rfl) ?_
  refine rz_aload_n (i := 0) C dX5_init_77 rfl rfl rfl ?_
  refine rz_sipush (v := 2016) C dX5_init_78 (by decide) rfl ?_
  refine rz_newi (N := 2016) C (by decide) (by decide) (Nat.le_of_ble_eq_true rfl) (Nat.le_of_ble_eq_true rfl) (Nat.le_of_ble_eq_true rfl) dX5_init_81 rfl (fun q10 => ?_)
  refine rz_perm (rs_pm1 _ _ _) ?_
  refine rz_eq (w2 := [(q, .inr (5, [.ref (q1), .ref (q2), .ref (q3), .ref (q4), .ref (q5), .ref (q6), .int 0, .int 0, .int 0, .int 0, .int 0, .int 0, .int 0, .int 0, .int 0, .int 0, .int 0, .int 0, .int 0, .int 0, .ref (q7), .ref (q8), .int 0, .int 0, .long 0, .long 0, .long 0, .ref (q9), .null, .null, .null, .null, .int 0, .null])), (q1, .inl (rs_cy G 0, 153, .inl (fun _ => 0))), (q2, .inl (rs_cy G 0, 51, .inl (fun _ => 0))), (q3, .inl (rs_cy G 2, 2, .inl (fun _ => 0))), (q4, .inl (rs_cy G 0, 51, .inl (fun _ => 0))), (q5, .inl (rs_cy G 2, 4, .inl (fun _ => 0))), (q6, .inl (rs_cy G 0, 160, .inl (fun _ => 0))), (q7, .inl (rs_cy G 0, 8, .inl (fun _ => 0))), (q8, .inl (rs_cy G 0, 8, .inl (fun _ => 0))), (q9, .inl (rs_cy G 0, 168, .inl (fun _ => 0))), (q10, .inl (rs_cy G 0, 2016, .inl (fun _ => 0)))] ++ rs_p91 G b) (rfl) ?_
  refine rz_putF C 0 rfl rfl wu_X5 tyX5 tyX5_ok nmX5 28 (by decide) wl_X5_38 rfl rfl hi rfl (ty := .array .int) (by decide +kernel) rfl rfl (Nat.le_of_ble_eq_true rfl) dX5_init_83 rfl ?_
  refine rz_eq (w2 := [(q, .inr (5, [.ref (q1), .ref (q2), .ref (q3), .ref (q4), .ref (q5), .ref (q6), .int 0, .int 0, .int 0, .int 0, .int 0, .int 0, .int 0, .int 0, .int 0, .int 0, .int 0, .int 0, .int 0, .int 0, .ref (q7), .ref (q8), .int 0, .int 0, .long 0, .long 0, .long 0, .ref (q9), .ref (q10), .null, .null, .null, .int 0, .null])), (q1, .inl (rs_cy G 0, 153, .inl (fun _ => 0))), (q2, .inl (rs_cy G 0, 51, .inl (fun _ => 0))), (q3, .inl (rs_cy G 2, 2, .inl (fun _ => 0))), (q4, .inl (rs_cy G 0, 51, .inl (fun _ => 0))), (q5, .inl (rs_cy G 2, 4, .inl (fun _ => 0))), (q6, .inl (rs_cy G 0, 160, .inl (fun _ => 0))), (q7, .inl (rs_cy G 0, 8, .inl (fun _ => 0))), (q8, .inl (rs_cy G 0, 8, .inl (fun _ => 0))), (q9, .inl (rs_cy G 0, 168, .inl (fun _ => 0))), (q10, .inl (rs_cy G 0, 2016, .inl (fun _ => 0)))] ++ rs_p91 G b) (rfl) ?_
  refine rz_aload_n (i := 0) C dX5_init_86 rfl rfl rfl ?_
  refine rz_iconst (v := 4) C dX5_init_87 (by decide) rfl ?_
  refine rz_newi (N := 4) C (by decide) (by decide) (Nat.le_of_ble_eq_true rfl) (Nat.le_of_ble_eq_true rfl) (Nat.le_of_ble_eq_true rfl) dX5_init_88 rfl (fun q11 => ?_)
  refine rz_perm (rs_pm1 _ _ _) ?_
  refine rz_eq (w2 := [(q, .inr (5, [.ref (q1), .ref (q2), .ref (q3), .ref (q4), .ref (q5), .ref (q6), .int 0, .int 0, .int 0, .int 0, .int 0, .int 0, .int 0, .int 0, .int 0, .int 0, .int 0, .int 0, .int 0, .int 0, .ref (q7), .ref (q8), .int 0, .int 0, .long 0, .long 0, .long 0, .ref (q9), .ref (q10), .null, .null, .null, .int 0, .null])), (q1, .inl (rs_cy G 0, 153, .inl (fun _ => 0))), (q2, .inl (rs_cy G 0, 51, .inl (fun _ => 0))), (q3, .inl (rs_cy G 2, 2, .inl (fun _ => 0))), (q4, .inl (rs_cy G 0, 51, .inl (fun _ => 0))), (q5, .inl (rs_cy G 2, 4, .inl (fun _ => 0))), (q6, .inl (rs_cy G 0, 160, .inl (fun _ => 0))), (q7, .inl (rs_cy G 0, 8, .inl (fun _ => 0))), (q8, .inl (rs_cy G 0, 8, .inl (fun _ => 0))), (q9, .inl (rs_cy G 0, 168, .inl (fun _ => 0))), (q10, .inl (rs_cy G 0, 2016, .inl (fun _ => 0))), (q11, .inl (rs_cy G 0, 4, .inl (fun _ => 0)))] ++ rs_p91 G b) (rfl) ?_
  refine rz_putF C 0 rfl rfl wu_X5 tyX5 tyX5_ok nmX5 29 (by decide) wl_X5_41 rfl rfl hi rfl (ty := .array .int) (by decide +kernel) rfl rfl (Nat.le_of_ble_eq_true rfl) dX5_init_90 rfl ?_
  refine rz_eq (w2 := [(q, .inr (5, [.ref (q1), .ref (q2), .ref (q3), .ref (q4), .ref (q5), .ref (q6), .int 0, .int 0, .int 0, .int 0, .int 0, .int 0, .int 0, .int 0, .int 0, .int 0, .int 0, .int 0, .int 0, .int 0, .ref (q7), .ref (q8), .int 0, .int 0, .long 0, .long 0, .long 0, .ref (q9), .ref (q10), .ref (q11), .null, .null, .int 0, .null])), (q1, .inl (rs_cy G 0, 153, .inl (fun _ => 0))), (q2, .inl (rs_cy G 0, 51, .inl (fun _ => 0))), (q3, .inl (rs_cy G 2, 2, .inl (fun _ => 0))), (q4, .inl (rs_cy G 0, 51, .inl (fun _ => 0))), (q5, .inl (rs_cy G 2, 4, .inl (fun _ => 0))), (q6, .inl (rs_cy G 0, 160, .inl (fun _ => 0))), (q7, .inl (rs_cy G 0, 8, .inl (fun _ => 0))), (q8, .inl (rs_cy G 0, 8, .inl (fun _ => 0))), (q9, .inl (rs_cy G 0, 168, .inl (fun _ => 0))), (q10, .inl (rs_cy G 0, 2016, .inl (fun _ => 0))), (q11, .inl (rs_cy G 0, 4, .inl (fun _ => 0)))] ++ rs_p91 G b) (rfl) ?_
  refine rz_aload_n (i := 0) C dX5_init_93 rfl rfl rfl ?_
  refine rz_iconst (v := 4) C dX5_init_94 (by decide) rfl ?_
  refine rz_newi (N := 4) C (by decide) (by decide) (Nat.le_of_ble_eq_true rfl) (Nat.le_of_ble_eq_true rfl) (Nat.le_of_ble_eq_true rfl) dX5_init_95 rfl (fun q12 => ?_)
  refine rz_perm (rs_pm1 _ _ _) ?_
  refine rz_eq (w2 := [(q, .inr (5, [.ref (q1), .ref (q2), .ref (q3), .ref (q4), .ref (q5), .ref (q6), .int 0, .int 0, .int 0, .int 0, .int 0, .int 0, .int 0, .int 0, .int 0, .int 0, .int 0, .int 0, .int 0, .int 0, .ref (q7), .ref (q8), .int 0, .int 0, .long 0, .long 0, .long 0, .ref (q9), .ref (q10), .ref (q11), .null, .null, .int 0, .null])), (q1, .inl (rs_cy G 0, 153, .inl (fun _ => 0))), (q2, .inl (rs_cy G 0, 51, .inl (fun _ => 0))), (q3, .inl (rs_cy G 2, 2, .inl (fun _ => 0))), (q4, .inl (rs_cy G 0, 51, .inl (fun _ => 0))), (q5, .inl (rs_cy G 2, 4, .inl (fun _ => 0))), (q6, .inl (rs_cy G 0, 160, .inl (fun _ => 0))), (q7, .inl (rs_cy G 0, 8, .inl (fun _ => 0))), (q8, .inl (rs_cy G 0, 8, .inl (fun _ => 0))), (q9, .inl (rs_cy G 0, 168, .inl (fun _ => 0))), (q10, .inl (rs_cy G 0, 2016, .inl (fun _ => 0))), (q11, .inl (rs_cy G 0, 4, .inl (fun _ => 0))), (q12, .inl (rs_cy G 0, 4, .inl (fun _ => 0)))] ++ rs_p91 G b) (rfl) ?_
  refine rz_putF C 0 rfl rfl wu_X5 tyX5 tyX5_ok nmX5 30 (by decide) wl_X5_44 rfl rfl hi rfl (ty := .array .int) (by decide +kernel) rfl rfl (Nat.le_of_ble_eq_true rfl) dX5_init_97 rfl ?_
  refine rz_eq (w2 := [(q, .inr (5, [.ref (q1), .ref (q2), .ref (q3), .ref (q4), .ref (q5), .ref (q6), .int 0, .int 0, .int 0, .int 0, .int 0, .int 0, .int 0, .int 0, .int 0, .int 0, .int 0, .int 0, .int 0, .int 0, .ref (q7), .ref (q8), .int 0, .int 0, .long 0, .long 0, .long 0, .ref (q9), .ref (q10), .ref (q11), .ref (q12), .null, .int 0, .null])), (q1, .inl (rs_cy G 0, 153, .inl (fun _ => 0))), (q2, .inl (rs_cy G 0, 51, .inl (fun _ => 0))), (q3, .inl (rs_cy G 2, 2, .inl (fun _ => 0))), (q4, .inl (rs_cy G 0, 51, .inl (fun _ => 0))), (q5, .inl (rs_cy G 2, 4, .inl (fun _ => 0))), (q6, .inl (rs_cy G 0, 160, .inl (fun _ => 0))), (q7, .inl (rs_cy G 0, 8, .inl (fun _ => 0))), (q8, .inl (rs_cy G 0, 8, .inl (fun _ => 0))), (q9, .inl (rs_cy G 0, 168, .inl (fun _ => 0))), (q10, .inl (rs_cy G 0, 2016, .inl (fun _ => 0))), (q11, .inl (rs_cy G 0, 4, .inl (fun _ => 0))), (q12, .inl (rs_cy G 0, 4, .inl (fun _ => 0)))] ++ rs_p91 G b) (rfl) ?_
  refine rz_aload_n (i := 0) C dX5_init_100 rfl rfl rfl ?_
  refine rz_sipush (v := 160) C dX5_init_101 (by decide) rfl ?_
  refine rz_newi (N := 160) C (by decide) (by decide) (Nat.le_of_ble_eq_true rfl) (Nat.le_of_ble_eq_true rfl) (Nat.le_of_ble_eq_true rfl) dX5_init_104 rfl (fun q13 => ?_)
  refine rz_perm (rs_pm1 _ _ _) ?_
  refine rz_eq (w2 := [(q, .inr (5, [.ref (q1), .ref (q2), .ref (q3), .ref (q4), .ref (q5), .ref (q6), .int 0, .int 0, .int 0, .int 0, .int 0, .int 0, .int 0, .int 0, .int 0, .int 0, .int 0, .int 0, .int 0, .int 0, .ref (q7), .ref (q8), .int 0, .int 0, .long 0, .long 0, .long 0, .ref (q9), .ref (q10), .ref (q11), .ref (q12), .null, .int 0, .null])), (q1, .inl (rs_cy G 0, 153, .inl (fun _ => 0))), (q2, .inl (rs_cy G 0, 51, .inl (fun _ => 0))), (q3, .inl (rs_cy G 2, 2, .inl (fun _ => 0))), (q4, .inl (rs_cy G 0, 51, .inl (fun _ => 0))), (q5, .inl (rs_cy G 2, 4, .inl (fun _ => 0))), (q6, .inl (rs_cy G 0, 160, .inl (fun _ => 0))), (q7, .inl (rs_cy G 0, 8, .inl (fun _ => 0))), (q8, .inl (rs_cy G 0, 8, .inl (fun _ => 0))), (q9, .inl (rs_cy G 0, 168, .inl (fun _ => 0))), (q10, .inl (rs_cy G 0, 2016, .inl (fun _ => 0))), (q11, .inl (rs_cy G 0, 4, .inl (fun _ => 0))), (q12, .inl (rs_cy G 0, 4, .inl (fun _ => 0))), (q13, .inl (rs_cy G 0, 160, .inl (fun _ => 0)))] ++ rs_p91 G b) (rfl) ?_
  refine rz_putF C 0 rfl rfl wu_X5 tyX5 tyX5_ok nmX5 31 (by decide) wl_X5_47 rfl rfl hi rfl (ty := .array .int) (by decide +kernel) rfl rfl (Nat.le_of_ble_eq_true rfl) dX5_init_106 rfl ?_
  refine rz_eq (w2 := [(q, .inr (5, [.ref (q1), .ref (q2), .ref (q3), .ref (q4), .ref (q5), .ref (q6), .int 0, .int 0, .int 0, .int 0, .int 0, .int 0, .int 0, .int 0, .int 0, .int 0, .int 0, .int 0, .int 0, .int 0, .ref (q7), .ref (q8), .int 0, .int 0, .long 0, .long 0, .long 0, .ref (q9), .ref (q10), .ref (q11), .ref (q12), .ref (q13), .int 0, .null])), (q1, .inl (rs_cy G 0, 153, .inl (fun _ => 0))), (q2, .inl (rs_cy G 0, 51, .inl (fun _ => 0))), (q3, .inl (rs_cy G 2, 2, .inl (fun _ => 0))), (q4, .inl (rs_cy G 0, 51, .inl (fun _ => 0))), (q5, .inl (rs_cy G 2, 4, .inl (fun _ => 0))), (q6, .inl (rs_cy G 0, 160, .inl (fun _ => 0))), (q7, .inl (rs_cy G 0, 8, .inl (fun _ => 0))), (q8, .inl (rs_cy G 0, 8, .inl (fun _ => 0))), (q9, .inl (rs_cy G 0, 168, .inl (fun _ => 0))), (q10, .inl (rs_cy G 0, 2016, .inl (fun _ => 0))), (q11, .inl (rs_cy G 0, 4, .inl (fun _ => 0))), (q12, .inl (rs_cy G 0, 4, .inl (fun _ => 0))), (q13, .inl (rs_cy G 0, 160, .inl (fun _ => 0)))] ++ rs_p91 G b) (rfl) ?_
  refine rz_aload_n (i := 0) C dX5_init_109 rfl rfl rfl ?_
  refine rz_bipush (v := 51) C dX5_init_110 (by decide) rfl ?_
  refine rz_newi (N := 51) C (by decide) (by decide) (Nat.le_of_ble_eq_true rfl) (Nat.le_of_ble_eq_true rfl) (Nat.le_of_ble_eq_true rfl) dX5_init_112 rfl (fun q14 => ?_)
  refine rz_perm (rs_pm1 _ _ _) ?_
  refine rz_eq (w2 := [(q, .inr (5, [.ref (q1), .ref (q2), .ref (q3), .ref (q4), .ref (q5), .ref (q6), .int 0, .int 0, .int 0, .int 0, .int 0, .int 0, .int 0, .int 0, .int 0, .int 0, .int 0, .int 0, .int 0, .int 0, .ref (q7), .ref (q8), .int 0, .int 0, .long 0, .long 0, .long 0, .ref (q9), .ref (q10), .ref (q11), .ref (q12), .ref (q13), .int 0, .null])), (q1, .inl (rs_cy G 0, 153, .inl (fun _ => 0))), (q2, .inl (rs_cy G 0, 51, .inl (fun _ => 0))), (q3, .inl (rs_cy G 2, 2, .inl (fun _ => 0))), (q4, .inl (rs_cy G 0, 51, .inl (fun _ => 0))), (q5, .inl (rs_cy G 2, 4, .inl (fun _ => 0))), (q6, .inl (rs_cy G 0, 160, .inl (fun _ => 0))), (q7, .inl (rs_cy G 0, 8, .inl (fun _ => 0))), (q8, .inl (rs_cy G 0, 8, .inl (fun _ => 0))), (q9, .inl (rs_cy G 0, 168, .inl (fun _ => 0))), (q10, .inl (rs_cy G 0, 2016, .inl (fun _ => 0))), (q11, .inl (rs_cy G 0, 4, .inl (fun _ => 0))), (q12, .inl (rs_cy G 0, 4, .inl (fun _ => 0))), (q13, .inl (rs_cy G 0, 160, .inl (fun _ => 0))), (q14, .inl (rs_cy G 0, 51, .inl (fun _ => 0)))] ++ rs_p91 G b) (rfl) ?_
  refine rz_putF C 0 rfl rfl wu_X5 tyX5 tyX5_ok nmX5 33 (by decide) wl_X5_50 rfl rfl hi rfl (ty := .array .int) (by decide +kernel) rfl rfl (Nat.le_of_ble_eq_true rfl) dX5_init_114 rfl ?_
  refine rz_eq (w2 := [(q, .inr (5, [.ref (q1), .ref (q2), .ref (q3), .ref (q4), .ref (q5), .ref (q6), .int 0, .int 0, .int 0, .int 0, .int 0, .int 0, .int 0, .int 0, .int 0, .int 0, .int 0, .int 0, .int 0, .int 0, .ref (q7), .ref (q8), .int 0, .int 0, .long 0, .long 0, .long 0, .ref (q9), .ref (q10), .ref (q11), .ref (q12), .ref (q13), .int 0, .ref (q14)])), (q1, .inl (rs_cy G 0, 153, .inl (fun _ => 0))), (q2, .inl (rs_cy G 0, 51, .inl (fun _ => 0))), (q3, .inl (rs_cy G 2, 2, .inl (fun _ => 0))), (q4, .inl (rs_cy G 0, 51, .inl (fun _ => 0))), (q5, .inl (rs_cy G 2, 4, .inl (fun _ => 0))), (q6, .inl (rs_cy G 0, 160, .inl (fun _ => 0))), (q7, .inl (rs_cy G 0, 8, .inl (fun _ => 0))), (q8, .inl (rs_cy G 0, 8, .inl (fun _ => 0))), (q9, .inl (rs_cy G 0, 168, .inl (fun _ => 0))), (q10, .inl (rs_cy G 0, 2016, .inl (fun _ => 0))), (q11, .inl (rs_cy G 0, 4, .inl (fun _ => 0))), (q12, .inl (rs_cy G 0, 4, .inl (fun _ => 0))), (q13, .inl (rs_cy G 0, 160, .inl (fun _ => 0))), (q14, .inl (rs_cy G 0, 51, .inl (fun _ => 0)))] ++ rs_p91 G b) (rfl) ?_
  refine rz_iconst (v := 0) C dX5_init_117 (by decide) rfl ?_
  refine rz_istore_n (i := 1) C dX5_init_118 rfl (by decide) rfl ?_
  refine rz_iload_n (i := 1) C dX5_init_119 rfl rfl rfl ?_
  refine rz_iconst (v := 4) C dX5_init_120 (by decide) rfl ?_
  refine rz_icmp_ge (tgt := 138) C dX5_init_121 (by decide) rfl (fun z => absurd z (by decide)) (fun _ => ?_)
  refine rz_aload_n (i := 0) C dX5_init_124 rfl rfl rfl ?_
  refine rz_get C 0 rfl rfl wu_X5 29 (by decide) wl_X5_41 rfl rfl dX5_init_125 rfl ?_
  refine rz_iload_n (i := 1) C dX5_init_128 rfl rfl rfl ?_
  refine rz_bipush (v := (-4)) C dX5_init_129 (by decide) rfl ?_
  refine rz_iast C 11 rfl 0 (by decide) (vp_in_nI (n := 0) (by decide) (by decide)) dX5_init_131 rfl ?_
  refine rz_eq (w2 := [(q, .inr (5, [.ref (q1), .ref (q2), .ref (q3), .ref (q4), .ref (q5), .ref (q6), .int 0, .int 0, .int 0, .int 0, .int 0, .int 0, .int 0, .int 0, .int 0, .int 0, .int 0, .int 0, .int 0, .int 0, .ref (q7), .ref (q8), .int 0, .int 0, .long 0, .long 0, .long 0, .ref (q9), .ref (q10), .ref (q11), .ref (q12), .ref (q13), .int 0, .ref (q14)])), (q1, .inl (rs_cy G 0, 153, .inl (fun _ => 0))), (q2, .inl (rs_cy G 0, 51, .inl (fun _ => 0))), (q3, .inl (rs_cy G 2, 2, .inl (fun _ => 0))), (q4, .inl (rs_cy G 0, 51, .inl (fun _ => 0))), (q5, .inl (rs_cy G 2, 4, .inl (fun _ => 0))), (q6, .inl (rs_cy G 0, 160, .inl (fun _ => 0))), (q7, .inl (rs_cy G 0, 8, .inl (fun _ => 0))), (q8, .inl (rs_cy G 0, 8, .inl (fun _ => 0))), (q9, .inl (rs_cy G 0, 168, .inl (fun _ => 0))), (q10, .inl (rs_cy G 0, 2016, .inl (fun _ => 0))), (q11, .inl (rs_cy G 0, 4, .inl (upd (fun _ => 0) 0 (-4)))), (q12, .inl (rs_cy G 0, 4, .inl (fun _ => 0))), (q13, .inl (rs_cy G 0, 160, .inl (fun _ => 0))), (q14, .inl (rs_cy G 0, 51, .inl (fun _ => 0)))] ++ rs_p91 G b) (rfl) ?_
  refine rz_iinc (v := 1) C dX5_init_132 rfl (by decide) (by decide) rfl ?_
  refine rz_subk (l2 := [(0, .ref (q)), (1, .int 1)]) ?_ (rs_ac rfl (rs_ac rfl rs_a0))
  refine rz_goto (tgt := 119) C dX5_init_135 (by decide) ?_
  refine rz_iload_n (i := 1) C dX5_init_119 rfl rfl rfl ?_
  refine rz_iconst (v := 4) C dX5_init_120 (by decide) rfl ?_
  refine rz_icmp_ge (tgt := 138) C dX5_init_121 (by decide) rfl (fun z => absurd z (by decide)) (fun _ => ?_)
  refine rz_aload_n (i := 0) C dX5_init_124 rfl rfl rfl ?_
  refine rz_get C 0 rfl rfl wu_X5 29 (by decide) wl_X5_41 rfl rfl dX5_init_125 rfl ?_
  refine rz_iload_n (i := 1) C dX5_init_128 rfl rfl rfl ?_
  refine rz_bipush (v := (-4)) C dX5_init_129 (by decide) rfl ?_
  refine rz_iast C 11 rfl 1 (by decide) (vp_in_nI (n := 1) (by decide) (by decide)) dX5_init_131 rfl ?_
  refine rz_eq (w2 := [(q, .inr (5, [.ref (q1), .ref (q2), .ref (q3), .ref (q4), .ref (q5), .ref (q6), .int 0, .int 0, .int 0, .int 0, .int 0, .int 0, .int 0, .int 0, .int 0, .int 0, .int 0, .int 0, .int 0, .int 0, .ref (q7), .ref (q8), .int 0, .int 0, .long 0, .long 0, .long 0, .ref (q9), .ref (q10), .ref (q11), .ref (q12), .ref (q13), .int 0, .ref (q14)])), (q1, .inl (rs_cy G 0, 153, .inl (fun _ => 0))), (q2, .inl (rs_cy G 0, 51, .inl (fun _ => 0))), (q3, .inl (rs_cy G 2, 2, .inl (fun _ => 0))), (q4, .inl (rs_cy G 0, 51, .inl (fun _ => 0))), (q5, .inl (rs_cy G 2, 4, .inl (fun _ => 0))), (q6, .inl (rs_cy G 0, 160, .inl (fun _ => 0))), (q7, .inl (rs_cy G 0, 8, .inl (fun _ => 0))), (q8, .inl (rs_cy G 0, 8, .inl (fun _ => 0))), (q9, .inl (rs_cy G 0, 168, .inl (fun _ => 0))), (q10, .inl (rs_cy G 0, 2016, .inl (fun _ => 0))), (q11, .inl (rs_cy G 0, 4, .inl (upd (upd (fun _ => 0) 0 (-4)) 1 (-4)))), (q12, .inl (rs_cy G 0, 4, .inl (fun _ => 0))), (q13, .inl (rs_cy G 0, 160, .inl (fun _ => 0))), (q14, .inl (rs_cy G 0, 51, .inl (fun _ => 0)))] ++ rs_p91 G b) (rfl) ?_
  refine rz_iinc (v := 1) C dX5_init_132 rfl (by decide) (by decide) rfl ?_
  refine rz_subk (l2 := [(0, .ref (q)), (1, .int 2)]) ?_ (rs_ac rfl (rs_ac rfl rs_a0))
  refine rz_goto (tgt := 119) C dX5_init_135 (by decide) ?_
  refine rz_iload_n (i := 1) C dX5_init_119 rfl rfl rfl ?_
  refine rz_iconst (v := 4) C dX5_init_120 (by decide) rfl ?_
  refine rz_icmp_ge (tgt := 138) C dX5_init_121 (by decide) rfl (fun z => absurd z (by decide)) (fun _ => ?_)
  refine rz_aload_n (i := 0) C dX5_init_124 rfl rfl rfl ?_
  refine rz_get C 0 rfl rfl wu_X5 29 (by decide) wl_X5_41 rfl rfl dX5_init_125 rfl ?_
  refine rz_iload_n (i := 1) C dX5_init_128 rfl rfl rfl ?_
  refine rz_bipush (v := (-4)) C dX5_init_129 (by decide) rfl ?_
  refine rz_iast C 11 rfl 2 (by decide) (vp_in_nI (n := 2) (by decide) (by decide)) dX5_init_131 rfl ?_
  refine rz_eq (w2 := [(q, .inr (5, [.ref (q1), .ref (q2), .ref (q3), .ref (q4), .ref (q5), .ref (q6), .int 0, .int 0, .int 0, .int 0, .int 0, .int 0, .int 0, .int 0, .int 0, .int 0, .int 0, .int 0, .int 0, .int 0, .ref (q7), .ref (q8), .int 0, .int 0, .long 0, .long 0, .long 0, .ref (q9), .ref (q10), .ref (q11), .ref (q12), .ref (q13), .int 0, .ref (q14)])), (q1, .inl (rs_cy G 0, 153, .inl (fun _ => 0))), (q2, .inl (rs_cy G 0, 51, .inl (fun _ => 0))), (q3, .inl (rs_cy G 2, 2, .inl (fun _ => 0))), (q4, .inl (rs_cy G 0, 51, .inl (fun _ => 0))), (q5, .inl (rs_cy G 2, 4, .inl (fun _ => 0))), (q6, .inl (rs_cy G 0, 160, .inl (fun _ => 0))), (q7, .inl (rs_cy G 0, 8, .inl (fun _ => 0))), (q8, .inl (rs_cy G 0, 8, .inl (fun _ => 0))), (q9, .inl (rs_cy G 0, 168, .inl (fun _ => 0))), (q10, .inl (rs_cy G 0, 2016, .inl (fun _ => 0))), (q11, .inl (rs_cy G 0, 4, .inl (upd (upd (upd (fun _ => 0) 0 (-4)) 1 (-4)) 2 (-4)))), (q12, .inl (rs_cy G 0, 4, .inl (fun _ => 0))), (q13, .inl (rs_cy G 0, 160, .inl (fun _ => 0))), (q14, .inl (rs_cy G 0, 51, .inl (fun _ => 0)))] ++ rs_p91 G b) (rfl) ?_
  refine rz_iinc (v := 1) C dX5_init_132 rfl (by decide) (by decide) rfl ?_
  refine rz_subk (l2 := [(0, .ref (q)), (1, .int 3)]) ?_ (rs_ac rfl (rs_ac rfl rs_a0))
  refine rz_goto (tgt := 119) C dX5_init_135 (by decide) ?_
  refine rz_iload_n (i := 1) C dX5_init_119 rfl rfl rfl ?_
  refine rz_iconst (v := 4) C dX5_init_120 (by decide) rfl ?_
  refine rz_icmp_ge (tgt := 138) C dX5_init_121 (by decide) rfl (fun z => absurd z (by decide)) (fun _ => ?_)
  refine rz_aload_n (i := 0) C dX5_init_124 rfl rfl rfl ?_
  refine rz_get C 0 rfl rfl wu_X5 29 (by decide) wl_X5_41 rfl rfl dX5_init_125 rfl ?_
  refine rz_iload_n (i := 1) C dX5_init_128 rfl rfl rfl ?_
  refine rz_bipush (v := (-4)) C dX5_init_129 (by decide) rfl ?_
  refine rz_iast C 11 rfl 3 (by decide) (vp_in_nI (n := 3) (by decide) (by decide)) dX5_init_131 rfl ?_
  refine rz_eq (w2 := [(q, .inr (5, [.ref (q1), .ref (q2), .ref (q3), .ref (q4), .ref (q5), .ref (q6), .int 0, .int 0, .int 0, .int 0, .int 0, .int 0, .int 0, .int 0, .int 0, .int 0, .int 0, .int 0, .int 0, .int 0, .ref (q7), .ref (q8), .int 0, .int 0, .long 0, .long 0, .long 0, .ref (q9), .ref (q10), .ref (q11), .ref (q12), .ref (q13), .int 0, .ref (q14)])), (q1, .inl (rs_cy G 0, 153, .inl (fun _ => 0))), (q2, .inl (rs_cy G 0, 51, .inl (fun _ => 0))), (q3, .inl (rs_cy G 2, 2, .inl (fun _ => 0))), (q4, .inl (rs_cy G 0, 51, .inl (fun _ => 0))), (q5, .inl (rs_cy G 2, 4, .inl (fun _ => 0))), (q6, .inl (rs_cy G 0, 160, .inl (fun _ => 0))), (q7, .inl (rs_cy G 0, 8, .inl (fun _ => 0))), (q8, .inl (rs_cy G 0, 8, .inl (fun _ => 0))), (q9, .inl (rs_cy G 0, 168, .inl (fun _ => 0))), (q10, .inl (rs_cy G 0, 2016, .inl (fun _ => 0))), (q11, .inl (rs_cy G 0, 4, .inl (upd (upd (upd (upd (fun _ => 0) 0 (-4)) 1 (-4)) 2 (-4)) 3 (-4)))), (q12, .inl (rs_cy G 0, 4, .inl (fun _ => 0))), (q13, .inl (rs_cy G 0, 160, .inl (fun _ => 0))), (q14, .inl (rs_cy G 0, 51, .inl (fun _ => 0)))] ++ rs_p91 G b) (rfl) ?_
  refine rz_iinc (v := 1) C dX5_init_132 rfl (by decide) (by decide) rfl ?_
  refine rz_subk (l2 := [(0, .ref (q)), (1, .int 4)]) ?_ (rs_ac rfl (rs_ac rfl rs_a0))
  refine rz_goto (tgt := 119) C dX5_init_135 (by decide) ?_
  refine rz_iload_n (i := 1) C dX5_init_119 rfl rfl rfl ?_
  refine rz_iconst (v := 4) C dX5_init_120 (by decide) rfl ?_
  refine rz_icmp_ge (tgt := 138) C dX5_init_121 (by decide) rfl (fun _ => ?_) (fun z => absurd (by decide) z)
  refine rz_toY (rs_bq b q q1 q2 q3 q4 q5 q6 q7 q8 q9 q10 q11 q12 q13 q14) rs_S0 (fun H hP => ?_) (fun hD => rs_D_fst (rs_D_perm List.perm_append_comm hD) rfl) (fun hok => ?_)
  · obtain ⟨hE, hP9⟩ := rs_Ps hP
    intro k x hk
    obtain ⟨hk1, rfl⟩ := rs_lt_of_get hk
    rcases Nat.lt_or_ge k 91 with h9 | h9
    · refine rs_at_cong h9 (fun j hj => if_pos hj) (hP9 k _ ?_)
      show ((List.range 91).map _)[k]? = _
      rw [List.getElem?_map, List.getElem?_range h9]
      rfl
    · rcases (show k = 91 ∨ k = 92 ∨ k = 93 ∨ k = 94 ∨ k = 95 ∨ k = 96 ∨ k = 97 ∨ k = 98 ∨ k = 99 ∨ k = 100 ∨ k = 101 ∨ k = 102 ∨ k = 103 ∨ k = 104 ∨ k = 105 by omega) with rfl | rfl | rfl | rfl | rfl | rfl | rfl | rfl | rfl | rfl | rfl | rfl | rfl | rfl | rfl
      · exact hE 0 _ rfl
      · exact hE 1 _ rfl
      · exact hE 2 _ rfl
      · exact hE 3 _ rfl
      · exact hE 4 _ rfl
      · exact hE 5 _ rfl
      · exact hE 6 _ rfl
      · exact hE 7 _ rfl
      · exact hE 8 _ rfl
      · exact hE 9 _ rfl
      · exact hE 10 _ rfl
      · exact hE 11 _ rfl
      · exact hE 12 _ rfl
      · exact hE 13 _ rfl
      · exact hE 14 _ rfl
  · have hG := hok
    have C2 : rs_C (rs_wa G (rs_bq b q q1 q2 q3 q4 q5 q6 q7 q8 q9 q10 q11 q12 q13 q14)) cX5_init 2 RX5 p s m #[Value.ref q] c := ⟨C.1, C.2.1, C.2.2.1, C.2.2.2.1, C.2.2.2.2.1, C.2.2.2.2.2.1.1, hok⟩
    refine ry_subk (l2 := [(0, .ref (rs_ad (rs_wa G (rs_bq b q q1 q2 q3 q4 q5 q6 q7 q8 q9 q10 q11 q12 q13 q14)) 91))]) ?_ (rs_ac rfl rs_a0)
    refine ry_aload_n (i := 0) C2 dX5_init_138 rfl rfl rfl ?_
    refine ry_callVv (S0 := Sa) C2 (rs_kd_lt kk_91 (by decide)) (rs_e5 kk_91) rfl (c_X5_firstDraft l _ hG rs_S0 _ hSa) ⟨wl_X5_53, wi_yX5_firstDraft, wx_yX5_firstDraft, wn_X5, wc_yX5_firstDraft⟩ wy_yX5_firstDraft (by decide) (by decide) ⟨rfl, rfl⟩ rfl rfl (Nat.le_of_ble_eq_true rfl) dX5_init_139 rfl ?_
    refine ry_aload_n (i := 0) C2 dX5_init_142 rfl rfl rfl ?_
    refine ry_callVv (S0 := Sb) C2 (rs_kd_lt kk_91 (by decide)) (rs_e5 kk_91) rfl (c_X5_keepDraft l _ hG Sa _ hSb) ⟨wl_X5_56, wi_yX5_keepDraft, wx_yX5_keepDraft, wn_X5, wc_yX5_keepDraft⟩ wy_yX5_keepDraft (by decide) (by decide) ⟨rfl, rfl⟩ rfl rfl (Nat.le_of_ble_eq_true rfl) dX5_init_143 rfl ?_
    intro H locs ls hP hS hl
    exact W.vret C.1 C.2.1 hr (fun t ht hW => ⟨⟨(rs_bq b q q1 q2 q3 q4 q5 q6 q7 q8 q9 q10 q11 q12 q13 q14), rfl, ⟨rfl, rfl, hok⟩, by show va_P _ _ _ t.heap; rw [ht]; exact hP⟩, va_S.F (A := rs_A G) hS ht⟩) hS.2.2 dX5_init_146 hlk
