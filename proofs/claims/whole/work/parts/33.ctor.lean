def rs_c0 : Nat → Int32 := upd (upd (upd (upd (fun _ => 0) 0 0) 1 1) 2 1) 3 0
def rs_c1 : Nat → Int32 := va_cpy (rs_sv 4) (fun _ => 0) 0 0 4
def rs_c2 : Nat → Int32 := upd (upd (upd (upd (fun _ => 0) 0 (-4)) 1 (-4)) 2 (-4)) 3 (-4)
def rs_zt : List Nat := [0, 0, 2, 0, 0, 0, 0, 0, 1, 0, 0, 1, 0, 0, 1, 0, 0, 1, 0, 0, 0, 2, 0, 0, 0, 0, 0, 1, 0, 0, 1, 0, 0, 1, 0, 0, 1, 0, 0, 0, 2, 0, 0, 0, 0, 0, 1, 0, 0, 1, 0, 0, 1, 0, 0, 1, 0, 0, 0, 2, 0, 0, 0, 0, 0, 1, 0, 0, 1, 0, 0, 1, 0, 0, 1, 0, 0, 0, 0, 0, 0, 0, 0, 3, 0, 3, 0, 3, 0, 3, 0, 0, 0, 0, 0, 0, 0, 0, 0, 0, 0, 0, 4, 0, 0, 0]
def rs_z (k : Nat) : Nat := rs_zt.getD k 0
def rs_S0 : rs_St := (fun k => if rs_z k = 1 then rs_c0 else if rs_z k = 2 then rs_c1 else if rs_z k = 3 then (fun j => if j = 1 then -1 else 0) else if rs_z k = 4 then rs_c2 else fun _ => 0, fun _ => 0)
def rs_wa (G : rs_G) (b : Nat → Nat) : rs_G := (G.1, b, G.2.2)
def rs_pL (G : rs_G) (b : Nat → Nat) : va_W := [(b 0, .inr (0, [.ref (b 1), .ref (b 2)])), (b 1, .inl (rs_cy G 0, 4, .inl rs_c0)), (b 2, .inl (rs_cy G 0, 13, .inl (fun _ => 0)))]
def rs_pH (G : rs_G) (b : Nat → Nat) : va_W := [(b 0, .inr (2, [.ref (b 1), .int (-1), .int 0])), (b 1, .inl (rs_cy G 0, 40, .inl (fun _ => 0)))]
def rs_pT (G : rs_G) (b : Nat → Nat) : va_W := [(b 0, .inr (3, [.ref (b 1), .int 0, .int 0, .int 0, .int 0, .int 0, .int 0])), (b 1, .inl (rs_cy G 1, 160, .inl (fun _ => 0)))]
def rs_pS (G : rs_G) (b : Nat → Nat) : va_W := (List.range 19).map (fun k => (b k, rs_ee (rs_wa G b) rs_S0 k))
def rs_p91 (G : rs_G) (b : Nat → Nat) : va_W := (List.range 91).map (fun k => (b k, rs_ee (rs_wa G b) rs_S0 k))
theorem rs_arrc {cA : ClassId} {n : Nat} {f g : Nat → Option Nat} (h : ∀ j, j < n → f j = g j) : vp_cell cA (n, .inr (.inr (.inr (.inr f)))) = vp_cell cA (n, .inr (.inr (.inr (.inr g)))) := by
  rw [vp_cell_q, vp_cell_q]
  unfold arrV
  congr 1
  congr 1
  funext j
  show va_rf (f j.val) = va_rf (g j.val)
  rw [h j.val j.isLt]
theorem rz_fun {G : rs_G} {A : Nat → Prop} {nL : Nat} {p : Program} {l : Launch} {e : Env} {R : Room} {s : State} {m : MethodId} {args : Array Value} {below : List Frame} {meth : Method} {c : Code} {Q : State → Prop} {ce sl : Nat} {ws : va_W} {pc : Nat} {lv : List (Nat × Value)} {st : List Value} (q0 : Nat) {a n : Nat} {cA : ClassId} {f : Nat → Option Nat} (g : Nat → Option Nat) (he : ws[q0]? = some (a, .inl (cA, n, .inr (.inr (.inr (.inr f)))))) (h : ∀ j, j < n → f j = g j) (k : rs_Z G A nL p l e R s m args below meth c Q ce sl (ws.set q0 (a, .inl (cA, n, .inr (.inr (.inr (.inr g)))))) pc lv st) : rs_Z G A nL p l e R s m args below meth c Q ce sl ws pc lv st := by
  intro H locs ls hP hD hS hl
  refine k H locs ls (hP.set hD he ?_ (fun _ _ => rfl)) (hD.set he) hS hl
  show H[a]? = some (vp_cell cA (n, .inr (.inr (.inr (.inr g)))))
  rw [← rs_arrc h]
  exact hP q0 _ he
set_option maxHeartbeats 4000000 in
set_option maxRecDepth 100000 in
theorem i_X0 (l : Launch) (G : rs_G) (q : Nat) : rs_im l yX0_init cX0_init 1 G q (.inr (0, [.null, .null])) (rs_pL G) 0 2 17 2 := by
  refine rs_imet (by decide) rfl (by decide) ?_
  intro sz p e s m args below meth c C hr hlk hi
  refine rz_aload_n (i := 0) C dX0_init_0 rfl rfl rfl ?_
  refine rz_obj C wl_X0_3 (by decide) (Nat.le_of_ble_eq_true rfl) dX0_init_1 rfl ?_
  refine rz_aload_n (i := 0) C dX0_init_4 rfl rfl rfl ?_
  refine rz_iconst (v := 4) C dX0_init_5 (by decide) rfl ?_
  refine rz_newi (N := 4) C (by decide) (by decide) (Nat.le_of_ble_eq_true rfl) (Nat.le_of_ble_eq_true rfl) (Nat.le_of_ble_eq_true rfl) dX0_init_6 rfl (fun q1 => ?_)
  refine rz_eq (w2 := [(q, .inr (0, [.null, .null])), (q1, .inl (rs_cy G 0, 4, .inl (fun _ => 0)))]) (rfl) ?_
  refine rz_dup C dX0_init_8 rfl rfl ?_
  refine rz_iconst (v := 0) C dX0_init_9 (by decide) rfl ?_
  refine rz_iconst (v := 0) C dX0_init_10 (by decide) rfl ?_
  refine rz_iast C 1 rfl 0 (by decide) (vp_in_nI (n := 0) (by decide) (by decide)) dX0_init_11 rfl ?_
  refine rz_eq (w2 := [(q, .inr (0, [.null, .null])), (q1, .inl (rs_cy G 0, 4, .inl (upd (fun _ => 0) 0 0)))]) (rfl) ?_
  refine rz_dup C dX0_init_12 rfl rfl ?_
  refine rz_iconst (v := 1) C dX0_init_13 (by decide) rfl ?_
  refine rz_iconst (v := 1) C dX0_init_14 (by decide) rfl ?_
  refine rz_iast C 1 rfl 1 (by decide) (vp_in_nI (n := 1) (by decide) (by decide)) dX0_init_15 rfl ?_
  refine rz_eq (w2 := [(q, .inr (0, [.null, .null])), (q1, .inl (rs_cy G 0, 4, .inl (upd (upd (fun _ => 0) 0 0) 1 1)))]) (rfl) ?_
  refine rz_dup C dX0_init_16 rfl rfl ?_
  refine rz_iconst (v := 2) C dX0_init_17 (by decide) rfl ?_
  refine rz_iconst (v := 1) C dX0_init_18 (by decide) rfl ?_
  refine rz_iast C 1 rfl 2 (by decide) (vp_in_nI (n := 2) (by decide) (by decide)) dX0_init_19 rfl ?_
  refine rz_eq (w2 := [(q, .inr (0, [.null, .null])), (q1, .inl (rs_cy G 0, 4, .inl (upd (upd (upd (fun _ => 0) 0 0) 1 1) 2 1)))]) (rfl) ?_
  refine rz_dup C dX0_init_20 rfl rfl ?_
  refine rz_iconst (v := 3) C dX0_init_21 (by decide) rfl ?_
  refine rz_iconst (v := 0) C dX0_init_22 (by decide) rfl ?_
  refine rz_iast C 1 rfl 3 (by decide) (vp_in_nI (n := 3) (by decide) (by decide)) dX0_init_23 rfl ?_
  refine rz_eq (w2 := [(q, .inr (0, [.null, .null])), (q1, .inl (rs_cy G 0, 4, .inl (upd (upd (upd (upd (fun _ => 0) 0 0) 1 1) 2 1) 3 0)))]) (rfl) ?_
  refine rz_putF C 0 rfl rfl wu_X0 tyX0 tyX0_ok nmX0 0 (by decide) wl_X0_9 rfl rfl hi rfl (ty := .array .int) (by decide +kernel) rfl rfl (Nat.le_of_ble_eq_true rfl) dX0_init_24 rfl ?_
  refine rz_eq (w2 := [(q, .inr (0, [.ref (q1), .null])), (q1, .inl (rs_cy G 0, 4, .inl (upd (upd (upd (upd (fun _ => 0) 0 0) 1 1) 2 1) 3 0)))]) (rfl) ?_
  refine rz_aload_n (i := 0) C dX0_init_27 rfl rfl rfl ?_
  refine rz_bipush (v := 13) C dX0_init_28 (by decide) rfl ?_
  refine rz_newi (N := 13) C (by decide) (by decide) (Nat.le_of_ble_eq_true rfl) (Nat.le_of_ble_eq_true rfl) (Nat.le_of_ble_eq_true rfl) dX0_init_30 rfl (fun q2 => ?_)
  refine rz_eq (w2 := [(q, .inr (0, [.ref (q1), .null])), (q1, .inl (rs_cy G 0, 4, .inl (upd (upd (upd (upd (fun _ => 0) 0 0) 1 1) 2 1) 3 0))), (q2, .inl (rs_cy G 0, 13, .inl (fun _ => 0)))]) (rfl) ?_
  refine rz_putF C 0 rfl rfl wu_X0 tyX0 tyX0_ok nmX0 1 (by decide) wl_X0_15 rfl rfl hi rfl (ty := .array .int) (by decide +kernel) rfl rfl (Nat.le_of_ble_eq_true rfl) dX0_init_32 rfl ?_
  refine rz_eq (w2 := [(q, .inr (0, [.ref (q1), .ref (q2)])), (q1, .inl (rs_cy G 0, 4, .inl (upd (upd (upd (upd (fun _ => 0) 0 0) 1 1) 2 1) 3 0))), (q2, .inl (rs_cy G 0, 13, .inl (fun _ => 0)))]) (rfl) ?_
  exact rz_vret (b := (fun k => if k = 0 then q else if k = 1 then q1 else q2)) C hr hlk rfl (List.Perm.refl _) dX0_init_35
set_option maxHeartbeats 4000000 in
set_option maxRecDepth 100000 in
theorem i_X2 (l : Launch) (G : rs_G) (q : Nat) : rs_im l yX2_init cX2_init 1 G q (.inr (2, [.null, .int 0, .int 0])) (rs_pH G) 0 1 40 2 := by
  refine rs_imet (by decide) rfl (by decide) ?_
  intro sz p e s m args below meth c C hr hlk hi
  refine rz_aload_n (i := 0) C dX2_init_0 rfl rfl rfl ?_
  refine rz_obj C wl_X2_3 (by decide) (Nat.le_of_ble_eq_true rfl) dX2_init_1 rfl ?_
  refine rz_aload_n (i := 0) C dX2_init_4 rfl rfl rfl ?_
  refine rz_bipush (v := 40) C dX2_init_5 (by decide) rfl ?_
  refine rz_newi (N := 40) C (by decide) (by decide) (Nat.le_of_ble_eq_true rfl) (Nat.le_of_ble_eq_true rfl) (Nat.le_of_ble_eq_true rfl) dX2_init_7 rfl (fun q1 => ?_)
  refine rz_eq (w2 := [(q, .inr (2, [.null, .int 0, .int 0])), (q1, .inl (rs_cy G 0, 40, .inl (fun _ => 0)))]) (rfl) ?_
  refine rz_putF C 0 rfl rfl wu_X2 tyX2 tyX2_ok nmX2 0 (by decide) wl_X2_9 rfl rfl hi rfl (ty := .array .int) (by decide +kernel) rfl rfl (Nat.le_of_ble_eq_true rfl) dX2_init_9 rfl ?_
  refine rz_eq (w2 := [(q, .inr (2, [.ref (q1), .int 0, .int 0])), (q1, .inl (rs_cy G 0, 40, .inl (fun _ => 0)))]) (rfl) ?_
  refine rz_aload_n (i := 0) C dX2_init_12 rfl rfl rfl ?_
  refine rz_iconst (v := (-1)) C dX2_init_13 (by decide) rfl ?_
  refine rz_put C 0 rfl rfl wu_X2 tyX2 tyX2_ok nmX2 1 (by decide) wl_X2_15 rfl rfl (ty := .int) (by decide +kernel) rfl rfl (Nat.le_of_ble_eq_true rfl) dX2_init_14 rfl ?_
  refine rz_eq (w2 := [(q, .inr (2, [.ref (q1), .int (-1), .int 0])), (q1, .inl (rs_cy G 0, 40, .inl (fun _ => 0)))]) (rfl) ?_
  exact rz_vret (b := (fun k => if k = 0 then q else q1)) C hr hlk rfl (List.Perm.refl _) dX2_init_17
set_option maxHeartbeats 4000000 in
set_option maxRecDepth 100000 in
theorem i_X3 (l : Launch) (G : rs_G) (q : Nat) : rs_im l yX3_init cX3_init 1 G q (.inr (3, [.null, .int 0, .int 0, .int 0, .int 0, .int 0, .int 0])) (rs_pT G) 0 1 160 2 := by
  refine rs_imet (by decide) rfl (by decide) ?_
  intro sz p e s m args below meth c C hr hlk hi
  refine rz_aload_n (i := 0) C dX3_init_0 rfl rfl rfl ?_
  refine rz_obj C wl_X3_3 (by decide) (Nat.le_of_ble_eq_true rfl) dX3_init_1 rfl ?_
  refine rz_aload_n (i := 0) C dX3_init_4 rfl rfl rfl ?_
  refine rz_sipush (v := 160) C dX3_init_5 (by decide) rfl ?_
  refine rz_newb (N := 160) C (by decide) (by decide) (Nat.le_of_ble_eq_true rfl) (Nat.le_of_ble_eq_true rfl) (Nat.le_of_ble_eq_true rfl) dX3_init_8 rfl (fun q1 => ?_)
  refine rz_eq (w2 := [(q, .inr (3, [.null, .int 0, .int 0, .int 0, .int 0, .int 0, .int 0])), (q1, .inl (rs_cy G 1, 160, .inl (fun _ => 0)))]) (rfl) ?_
  refine rz_putF C 0 rfl rfl wu_X3 tyX3 tyX3_ok nmX3 0 (by decide) wl_X3_9 rfl rfl hi rfl (ty := .array .byte) (by decide +kernel) rfl rfl (Nat.le_of_ble_eq_true rfl) dX3_init_10 rfl ?_
  refine rz_eq (w2 := [(q, .inr (3, [.ref (q1), .int 0, .int 0, .int 0, .int 0, .int 0, .int 0])), (q1, .inl (rs_cy G 1, 160, .inl (fun _ => 0)))]) (rfl) ?_
  exact rz_vret (b := (fun k => if k = 0 then q else q1)) C hr hlk rfl (List.Perm.refl _) dX3_init_13
set_option maxHeartbeats 4000000 in
set_option maxRecDepth 100000 in
theorem i_X1 (l : Launch) (G : rs_G) (q : Nat) : rs_im l yX1_init cX1_init 2 G q (.inr (1, [.null, .int 0, .null, .int 0, .int 0, .null, .int 0, .null, .null, .null, .int 0])) (rs_pS G) 0 18 110 3 := by
  refine rs_imet (by decide) rfl (by decide) ?_
  intro sz p e s m args below meth c C hr hlk hi
  refine rz_aload_n (i := 0) C dX1_init_0 rfl rfl rfl ?_
  refine rz_obj C wl_X1_3 (by decide) (Nat.le_of_ble_eq_true rfl) dX1_init_1 rfl ?_
  refine rz_aload_n (i := 0) C dX1_init_4 rfl rfl rfl ?_
  refine rz_iconst (v := 4) C dX1_init_5 (by decide) rfl ?_
  refine rz_newq0 (N := 4) C wq_X1_9 (by decide) (by decide) (by decide) (Nat.le_of_ble_eq_true rfl) (Nat.le_of_ble_eq_true rfl) dX1_init_6 rfl (fun q1 => ?_)
  refine rz_eq (w2 := [(q, .inr (1, [.null, .int 0, .null, .int 0, .int 0, .null, .int 0, .null, .null, .null, .int 0])), (q1, .inl (rs_cy G 3, 4, .inr (.inr (.inr (.inr (fun _ => none))))))]) (rfl) ?_
  refine rz_putF C 0 rfl rfl wu_X1 tyX1 tyX1_ok nmX1 0 (by decide) wl_X1_11 rfl rfl hi rfl (ty := .array (.object "RowShutter$Lamp")) (by decide +kernel) rfl rfl (Nat.le_of_ble_eq_true rfl) dX1_init_9 rfl ?_
  refine rz_eq (w2 := [(q, .inr (1, [.ref (q1), .int 0, .null, .int 0, .int 0, .null, .int 0, .null, .null, .null, .int 0])), (q1, .inl (rs_cy G 3, 4, .inr (.inr (.inr (.inr (fun _ => none))))))]) (rfl) ?_
  refine rz_aload_n (i := 0) C dX1_init_12 rfl rfl rfl ?_
  refine rz_iconst (v := 4) C dX1_init_13 (by decide) rfl ?_
  refine rz_newi (N := 4) C (by decide) (by decide) (Nat.le_of_ble_eq_true rfl) (Nat.le_of_ble_eq_true rfl) (Nat.le_of_ble_eq_true rfl) dX1_init_14 rfl (fun q2 => ?_)
  refine rz_eq (w2 := [(q, .inr (1, [.ref (q1), .int 0, .null, .int 0, .int 0, .null, .int 0, .null, .null, .null, .int 0])), (q1, .inl (rs_cy G 3, 4, .inr (.inr (.inr (.inr (fun _ => none)))))), (q2, .inl (rs_cy G 0, 4, .inl (fun _ => 0)))]) (rfl) ?_
  refine rz_putF C 0 rfl rfl wu_X1 tyX1 tyX1_ok nmX1 2 (by decide) wl_X1_17 rfl rfl hi rfl (ty := .array .int) (by decide +kernel) rfl rfl (Nat.le_of_ble_eq_true rfl) dX1_init_16 rfl ?_
  refine rz_eq (w2 := [(q, .inr (1, [.ref (q1), .int 0, .ref (q2), .int 0, .int 0, .null, .int 0, .null, .null, .null, .int 0])), (q1, .inl (rs_cy G 3, 4, .inr (.inr (.inr (.inr (fun _ => none)))))), (q2, .inl (rs_cy G 0, 4, .inl (fun _ => 0)))]) (rfl) ?_
  refine rz_aload_n (i := 0) C dX1_init_19 rfl rfl rfl ?_
  refine rz_bipush (v := 8) C dX1_init_20 (by decide) rfl ?_
  refine rz_newi (N := 8) C (by decide) (by decide) (Nat.le_of_ble_eq_true rfl) (Nat.le_of_ble_eq_true rfl) (Nat.le_of_ble_eq_true rfl) dX1_init_22 rfl (fun q3 => ?_)
  refine rz_eq (w2 := [(q, .inr (1, [.ref (q1), .int 0, .ref (q2), .int 0, .int 0, .null, .int 0, .null, .null, .null, .int 0])), (q1, .inl (rs_cy G 3, 4, .inr (.inr (.inr (.inr (fun _ => none)))))), (q2, .inl (rs_cy G 0, 4, .inl (fun _ => 0))), (q3, .inl (rs_cy G 0, 8, .inl (fun _ => 0)))]) (rfl) ?_
  refine rz_putF C 0 rfl rfl wu_X1 tyX1 tyX1_ok nmX1 5 (by decide) wl_X1_21 rfl rfl hi rfl (ty := .array .int) (by decide +kernel) rfl rfl (Nat.le_of_ble_eq_true rfl) dX1_init_24 rfl ?_
  refine rz_eq (w2 := [(q, .inr (1, [.ref (q1), .int 0, .ref (q2), .int 0, .int 0, .ref (q3), .int 0, .null, .null, .null, .int 0])), (q1, .inl (rs_cy G 3, 4, .inr (.inr (.inr (.inr (fun _ => none)))))), (q2, .inl (rs_cy G 0, 4, .inl (fun _ => 0))), (q3, .inl (rs_cy G 0, 8, .inl (fun _ => 0)))]) (rfl) ?_
  refine rz_aload_n (i := 0) C dX1_init_27 rfl rfl rfl ?_
  refine rz_bipush (v := 6) C dX1_init_28 (by decide) rfl ?_
  refine rz_newi (N := 6) C (by decide) (by decide) (Nat.le_of_ble_eq_true rfl) (Nat.le_of_ble_eq_true rfl) (Nat.le_of_ble_eq_true rfl) dX1_init_30 rfl (fun q4 => ?_)
  refine rz_eq (w2 := [(q, .inr (1, [.ref (q1), .int 0, .ref (q2), .int 0, .int 0, .ref (q3), .int 0, .null, .null, .null, .int 0])), (q1, .inl (rs_cy G 3, 4, .inr (.inr (.inr (.inr (fun _ => none)))))), (q2, .inl (rs_cy G 0, 4, .inl (fun _ => 0))), (q3, .inl (rs_cy G 0, 8, .inl (fun _ => 0))), (q4, .inl (rs_cy G 0, 6, .inl (fun _ => 0)))]) (rfl) ?_
  refine rz_putF C 0 rfl rfl wu_X1 tyX1 tyX1_ok nmX1 7 (by decide) wl_X1_24 rfl rfl hi rfl (ty := .array .int) (by decide +kernel) rfl rfl (Nat.le_of_ble_eq_true rfl) dX1_init_32 rfl ?_
  refine rz_eq (w2 := [(q, .inr (1, [.ref (q1), .int 0, .ref (q2), .int 0, .int 0, .ref (q3), .int 0, .ref (q4), .null, .null, .int 0])), (q1, .inl (rs_cy G 3, 4, .inr (.inr (.inr (.inr (fun _ => none)))))), (q2, .inl (rs_cy G 0, 4, .inl (fun _ => 0))), (q3, .inl (rs_cy G 0, 8, .inl (fun _ => 0))), (q4, .inl (rs_cy G 0, 6, .inl (fun _ => 0)))]) (rfl) ?_
  refine rz_aload_n (i := 0) C dX1_init_35 rfl rfl rfl ?_
  refine rz_bipush (v := 6) C dX1_init_36 (by decide) rfl ?_
  refine rz_newi (N := 6) C (by decide) (by decide) (Nat.le_of_ble_eq_true rfl) (Nat.le_of_ble_eq_true rfl) (Nat.le_of_ble_eq_true rfl) dX1_init_38 rfl (fun q5 => ?_)
  refine rz_eq (w2 := [(q, .inr (1, [.ref (q1), .int 0, .ref (q2), .int 0, .int 0, .ref (q3), .int 0, .ref (q4), .null, .null, .int 0])), (q1, .inl (rs_cy G 3, 4, .inr (.inr (.inr (.inr (fun _ => none)))))), (q2, .inl (rs_cy G 0, 4, .inl (fun _ => 0))), (q3, .inl (rs_cy G 0, 8, .inl (fun _ => 0))), (q4, .inl (rs_cy G 0, 6, .inl (fun _ => 0))), (q5, .inl (rs_cy G 0, 6, .inl (fun _ => 0)))]) (rfl) ?_
  refine rz_putF C 0 rfl rfl wu_X1 tyX1 tyX1_ok nmX1 8 (by decide) wl_X1_27 rfl rfl hi rfl (ty := .array .int) (by decide +kernel) rfl rfl (Nat.le_of_ble_eq_true rfl) dX1_init_40 rfl ?_
  refine rz_eq (w2 := [(q, .inr (1, [.ref (q1), .int 0, .ref (q2), .int 0, .int 0, .ref (q3), .int 0, .ref (q4), .ref (q5), .null, .int 0])), (q1, .inl (rs_cy G 3, 4, .inr (.inr (.inr (.inr (fun _ => none)))))), (q2, .inl (rs_cy G 0, 4, .inl (fun _ => 0))), (q3, .inl (rs_cy G 0, 8, .inl (fun _ => 0))), (q4, .inl (rs_cy G 0, 6, .inl (fun _ => 0))), (q5, .inl (rs_cy G 0, 6, .inl (fun _ => 0)))]) (rfl) ?_
  refine rz_aload_n (i := 0) C dX1_init_43 rfl rfl rfl ?_
  refine rz_bipush (v := 6) C dX1_init_44 (by decide) rfl ?_
  refine rz_newi (N := 6) C (by decide) (by decide) (Nat.le_of_ble_eq_true rfl) (Nat.le_of_ble_eq_true rfl) (Nat.le_of_ble_eq_true rfl) dX1_init_46 rfl (fun q6 => ?_)
  refine rz_eq (w2 := [(q, .inr (1, [.ref (q1), .int 0, .ref (q2), .int 0, .int 0, .ref (q3), .int 0, .ref (q4), .ref (q5), .null, .int 0])), (q1, .inl (rs_cy G 3, 4, .inr (.inr (.inr (.inr (fun _ => none)))))), (q2, .inl (rs_cy G 0, 4, .inl (fun _ => 0))), (q3, .inl (rs_cy G 0, 8, .inl (fun _ => 0))), (q4, .inl (rs_cy G 0, 6, .inl (fun _ => 0))), (q5, .inl (rs_cy G 0, 6, .inl (fun _ => 0))), (q6, .inl (rs_cy G 0, 6, .inl (fun _ => 0)))]) (rfl) ?_
  refine rz_putF C 0 rfl rfl wu_X1 tyX1 tyX1_ok nmX1 9 (by decide) wl_X1_30 rfl rfl hi rfl (ty := .array .int) (by decide +kernel) rfl rfl (Nat.le_of_ble_eq_true rfl) dX1_init_48 rfl ?_
  refine rz_eq (w2 := [(q, .inr (1, [.ref (q1), .int 0, .ref (q2), .int 0, .int 0, .ref (q3), .int 0, .ref (q4), .ref (q5), .ref (q6), .int 0])), (q1, .inl (rs_cy G 3, 4, .inr (.inr (.inr (.inr (fun _ => none)))))), (q2, .inl (rs_cy G 0, 4, .inl (fun _ => 0))), (q3, .inl (rs_cy G 0, 8, .inl (fun _ => 0))), (q4, .inl (rs_cy G 0, 6, .inl (fun _ => 0))), (q5, .inl (rs_cy G 0, 6, .inl (fun _ => 0))), (q6, .inl (rs_cy G 0, 6, .inl (fun _ => 0)))]) (rfl) ?_
  refine rz_iconst (v := 0) C dX1_init_51 (by decide) rfl ?_
  refine rz_istore_n (i := 1) C dX1_init_52 rfl (by decide) rfl ?_
  refine rz_iload_n (i := 1) C dX1_init_53 rfl rfl rfl ?_
  refine rz_iconst (v := 4) C dX1_init_54 (by decide) rfl ?_
  refine rz_icmp_ge (tgt := 77) C dX1_init_55 (by decide) rfl (fun z => absurd z (by decide)) (fun _ => ?_)
  refine rz_aload_n (i := 0) C dX1_init_58 rfl rfl rfl ?_
  refine rz_get C 0 rfl rfl wu_X1 0 (by decide) wl_X1_11 rfl rfl dX1_init_59 rfl ?_
  refine rz_iload_n (i := 1) C dX1_init_62 rfl rfl rfl ?_
  refine rz_new (ci := 0) (fs := [.null, .null]) C wu_X0 tyX0 tyX0_ok wq_X1_9 wj_X0 wn_X0 rfl (fun j hj => by rcases (show j = 0 ∨ j = 1 by omega) with rfl | rfl <;> rfl) (Nat.le_of_ble_eq_true rfl) (Nat.le_of_ble_eq_true rfl) dX1_init_63 rfl (fun q7 => ?_)
  refine rz_dup C dX1_init_66 rfl rfl ?_
  refine rz_callIN C (i_X0 l G q7) C.2.2.2.2.2.1.2.2.2.2.1 wc_yX0_init wn_X0 wi_yX0_init rfl (by decide +kernel) (by decide) (by decide) (Nat.le_of_ble_eq_true rfl) dX1_init_67 rfl (fun b7 hb7 => ?_)
  subst hb7
  refine rz_eq (w2 := [(q, .inr (1, [.ref (q1), .int 0, .ref (q2), .int 0, .int 0, .ref (q3), .int 0, .ref (q4), .ref (q5), .ref (q6), .int 0])), (q1, .inl (rs_cy G 3, 4, .inr (.inr (.inr (.inr (fun _ => none)))))), (q2, .inl (rs_cy G 0, 4, .inl (fun _ => 0))), (q3, .inl (rs_cy G 0, 8, .inl (fun _ => 0))), (q4, .inl (rs_cy G 0, 6, .inl (fun _ => 0))), (q5, .inl (rs_cy G 0, 6, .inl (fun _ => 0))), (q6, .inl (rs_cy G 0, 6, .inl (fun _ => 0))), (b7 0, .inr (0, [.ref (b7 1), .ref (b7 2)])), (b7 1, .inl (rs_cy G 0, 4, .inl rs_c0)), (b7 2, .inl (rs_cy G 0, 13, .inl (fun _ => 0)))]) (rfl) ?_
  refine rz_astq (ci := 0) C 1 3 rfl rfl (List.mem_of_getElem? (i := 7) rfl) rfl 0 (by decide) (vp_in_nI (n := 0) (by decide) (by decide)) dX1_init_70 rfl ?_
  refine rz_eq (w2 := [(q, .inr (1, [.ref (q1), .int 0, .ref (q2), .int 0, .int 0, .ref (q3), .int 0, .ref (q4), .ref (q5), .ref (q6), .int 0])), (q1, .inl (rs_cy G 3, 4, .inr (.inr (.inr (.inr (va_up (fun _ => none) 0 (some (b7 0)))))))), (q2, .inl (rs_cy G 0, 4, .inl (fun _ => 0))), (q3, .inl (rs_cy G 0, 8, .inl (fun _ => 0))), (q4, .inl (rs_cy G 0, 6, .inl (fun _ => 0))), (q5, .inl (rs_cy G 0, 6, .inl (fun _ => 0))), (q6, .inl (rs_cy G 0, 6, .inl (fun _ => 0))), (b7 0, .inr (0, [.ref (b7 1), .ref (b7 2)])), (b7 1, .inl (rs_cy G 0, 4, .inl rs_c0)), (b7 2, .inl (rs_cy G 0, 13, .inl (fun _ => 0)))]) (rfl) ?_
  refine rz_iinc (v := 1) C dX1_init_71 rfl (by decide) (by decide) rfl ?_
  refine rz_subk (l2 := [(0, .ref (q)), (1, .int 1)]) ?_ (rs_ac rfl (rs_ac rfl rs_a0))
  refine rz_goto (tgt := 53) C dX1_init_74 (by decide) ?_
  refine rz_iload_n (i := 1) C dX1_init_53 rfl rfl rfl ?_
  refine rz_iconst (v := 4) C dX1_init_54 (by decide) rfl ?_
  refine rz_icmp_ge (tgt := 77) C dX1_init_55 (by decide) rfl (fun z => absurd z (by decide)) (fun _ => ?_)
  refine rz_aload_n (i := 0) C dX1_init_58 rfl rfl rfl ?_
  refine rz_get C 0 rfl rfl wu_X1 0 (by decide) wl_X1_11 rfl rfl dX1_init_59 rfl ?_
  refine rz_iload_n (i := 1) C dX1_init_62 rfl rfl rfl ?_
  refine rz_new (ci := 0) (fs := [.null, .null]) C wu_X0 tyX0 tyX0_ok wq_X1_9 wj_X0 wn_X0 rfl (fun j hj => by rcases (show j = 0 ∨ j = 1 by omega) with rfl | rfl <;> rfl) (Nat.le_of_ble_eq_true rfl) (Nat.le_of_ble_eq_true rfl) dX1_init_63 rfl (fun q8 => ?_)
  refine rz_dup C dX1_init_66 rfl rfl ?_
  refine rz_callIN C (i_X0 l G q8) C.2.2.2.2.2.1.2.2.2.2.1 wc_yX0_init wn_X0 wi_yX0_init rfl (by decide +kernel) (by decide) (by decide) (Nat.le_of_ble_eq_true rfl) dX1_init_67 rfl (fun b8 hb8 => ?_)
  subst hb8
  refine rz_eq (w2 := [(q, .inr (1, [.ref (q1), .int 0, .ref (q2), .int 0, .int 0, .ref (q3), .int 0, .ref (q4), .ref (q5), .ref (q6), .int 0])), (q1, .inl (rs_cy G 3, 4, .inr (.inr (.inr (.inr (va_up (fun _ => none) 0 (some (b7 0)))))))), (q2, .inl (rs_cy G 0, 4, .inl (fun _ => 0))), (q3, .inl (rs_cy G 0, 8, .inl (fun _ => 0))), (q4, .inl (rs_cy G 0, 6, .inl (fun _ => 0))), (q5, .inl (rs_cy G 0, 6, .inl (fun _ => 0))), (q6, .inl (rs_cy G 0, 6, .inl (fun _ => 0))), (b7 0, .inr (0, [.ref (b7 1), .ref (b7 2)])), (b7 1, .inl (rs_cy G 0, 4, .inl rs_c0)), (b7 2, .inl (rs_cy G 0, 13, .inl (fun _ => 0))), (b8 0, .inr (0, [.ref (b8 1), .ref (b8 2)])), (b8 1, .inl (rs_cy G 0, 4, .inl rs_c0)), (b8 2, .inl (rs_cy G 0, 13, .inl (fun _ => 0)))]) (rfl) ?_
  refine rz_astq (ci := 0) C 1 3 rfl rfl (List.mem_of_getElem? (i := 10) rfl) rfl 1 (by decide) (vp_in_nI (n := 1) (by decide) (by decide)) dX1_init_70 rfl ?_
  refine rz_eq (w2 := [(q, .inr (1, [.ref (q1), .int 0, .ref (q2), .int 0, .int 0, .ref (q3), .int 0, .ref (q4), .ref (q5), .ref (q6), .int 0])), (q1, .inl (rs_cy G 3, 4, .inr (.inr (.inr (.inr (va_up (va_up (fun _ => none) 0 (some (b7 0))) 1 (some (b8 0)))))))), (q2, .inl (rs_cy G 0, 4, .inl (fun _ => 0))), (q3, .inl (rs_cy G 0, 8, .inl (fun _ => 0))), (q4, .inl (rs_cy G 0, 6, .inl (fun _ => 0))), (q5, .inl (rs_cy G 0, 6, .inl (fun _ => 0))), (q6, .inl (rs_cy G 0, 6, .inl (fun _ => 0))), (b7 0, .inr (0, [.ref (b7 1), .ref (b7 2)])), (b7 1, .inl (rs_cy G 0, 4, .inl rs_c0)), (b7 2, .inl (rs_cy G 0, 13, .inl (fun _ => 0))), (b8 0, .inr (0, [.ref (b8 1), .ref (b8 2)])), (b8 1, .inl (rs_cy G 0, 4, .inl rs_c0)), (b8 2, .inl (rs_cy G 0, 13, .inl (fun _ => 0)))]) (rfl) ?_
  refine rz_iinc (v := 1) C dX1_init_71 rfl (by decide) (by decide) rfl ?_
  refine rz_subk (l2 := [(0, .ref (q)), (1, .int 2)]) ?_ (rs_ac rfl (rs_ac rfl rs_a0))
  refine rz_goto (tgt := 53) C dX1_init_74 (by decide) ?_
  refine rz_iload_n (i := 1) C dX1_init_53 rfl rfl rfl ?_
  refine rz_iconst (v := 4) C dX1_init_54 (by decide) rfl ?_
  refine rz_icmp_ge (tgt := 77) C dX1_init_55 (by decide) rfl (fun z => absurd z (by decide)) (fun _ => ?_)
  refine rz_aload_n (i := 0) C dX1_init_58 rfl rfl rfl ?_
  refine rz_get C 0 rfl rfl wu_X1 0 (by decide) wl_X1_11 rfl rfl dX1_init_59 rfl ?_
  refine rz_iload_n (i := 1) C dX1_init_62 rfl rfl rfl ?_
  refine rz_new (ci := 0) (fs := [.null, .null]) C wu_X0 tyX0 tyX0_ok wq_X1_9 wj_X0 wn_X0 rfl (fun j hj => by rcases (show j = 0 ∨ j = 1 by omega) with rfl | rfl <;> rfl) (Nat.le_of_ble_eq_true rfl) (Nat.le_of_ble_eq_true rfl) dX1_init_63 rfl (fun q9 => ?_)
  refine rz_dup C dX1_init_66 rfl rfl ?_
  refine rz_callIN C (i_X0 l G q9) C.2.2.2.2.2.1.2.2.2.2.1 wc_yX0_init wn_X0 wi_yX0_init rfl (by decide +kernel) (by decide) (by decide) (Nat.le_of_ble_eq_true rfl) dX1_init_67 rfl (fun b9 hb9 => ?_)
  subst hb9
  refine rz_eq (w2 := [(q, .inr (1, [.ref (q1), .int 0, .ref (q2), .int 0, .int 0, .ref (q3), .int 0, .ref (q4), .ref (q5), .ref (q6), .int 0])), (q1, .inl (rs_cy G 3, 4, .inr (.inr (.inr (.inr (va_up (va_up (fun _ => none) 0 (some (b7 0))) 1 (some (b8 0)))))))), (q2, .inl (rs_cy G 0, 4, .inl (fun _ => 0))), (q3, .inl (rs_cy G 0, 8, .inl (fun _ => 0))), (q4, .inl (rs_cy G 0, 6, .inl (fun _ => 0))), (q5, .inl (rs_cy G 0, 6, .inl (fun _ => 0))), (q6, .inl (rs_cy G 0, 6, .inl (fun _ => 0))), (b7 0, .inr (0, [.ref (b7 1), .ref (b7 2)])), (b7 1, .inl (rs_cy G 0, 4, .inl rs_c0)), (b7 2, .inl (rs_cy G 0, 13, .inl (fun _ => 0))), (b8 0, .inr (0, [.ref (b8 1), .ref (b8 2)])), (b8 1, .inl (rs_cy G 0, 4, .inl rs_c0)), (b8 2, .inl (rs_cy G 0, 13, .inl (fun _ => 0))), (b9 0, .inr (0, [.ref (b9 1), .ref (b9 2)])), (b9 1, .inl (rs_cy G 0, 4, .inl rs_c0)), (b9 2, .inl (rs_cy G 0, 13, .inl (fun _ => 0)))]) (rfl) ?_
  refine rz_astq (ci := 0) C 1 3 rfl rfl (List.mem_of_getElem? (i := 13) rfl) rfl 2 (by decide) (vp_in_nI (n := 2) (by decide) (by decide)) dX1_init_70 rfl ?_
  refine rz_eq (w2 := [(q, .inr (1, [.ref (q1), .int 0, .ref (q2), .int 0, .int 0, .ref (q3), .int 0, .ref (q4), .ref (q5), .ref (q6), .int 0])), (q1, .inl (rs_cy G 3, 4, .inr (.inr (.inr (.inr (va_up (va_up (va_up (fun _ => none) 0 (some (b7 0))) 1 (some (b8 0))) 2 (some (b9 0)))))))), (q2, .inl (rs_cy G 0, 4, .inl (fun _ => 0))), (q3, .inl (rs_cy G 0, 8, .inl (fun _ => 0))), (q4, .inl (rs_cy G 0, 6, .inl (fun _ => 0))), (q5, .inl (rs_cy G 0, 6, .inl (fun _ => 0))), (q6, .inl (rs_cy G 0, 6, .inl (fun _ => 0))), (b7 0, .inr (0, [.ref (b7 1), .ref (b7 2)])), (b7 1, .inl (rs_cy G 0, 4, .inl rs_c0)), (b7 2, .inl (rs_cy G 0, 13, .inl (fun _ => 0))), (b8 0, .inr (0, [.ref (b8 1), .ref (b8 2)])), (b8 1, .inl (rs_cy G 0, 4, .inl rs_c0)), (b8 2, .inl (rs_cy G 0, 13, .inl (fun _ => 0))), (b9 0, .inr (0, [.ref (b9 1), .ref (b9 2)])), (b9 1, .inl (rs_cy G 0, 4, .inl rs_c0)), (b9 2, .inl (rs_cy G 0, 13, .inl (fun _ => 0)))]) (rfl) ?_
  refine rz_iinc (v := 1) C dX1_init_71 rfl (by decide) (by decide) rfl ?_
  refine rz_subk (l2 := [(0, .ref (q)), (1, .int 3)]) ?_ (rs_ac rfl (rs_ac rfl rs_a0))
  refine rz_goto (tgt := 53) C dX1_init_74 (by decide) ?_
  refine rz_iload_n (i := 1) C dX1_init_53 rfl rfl rfl ?_
  refine rz_iconst (v := 4) C dX1_init_54 (by decide) rfl ?_
  refine rz_icmp_ge (tgt := 77) C dX1_init_55 (by decide) rfl (fun z => absurd z (by decide)) (fun _ => ?_)
  refine rz_aload_n (i := 0) C dX1_init_58 rfl rfl rfl ?_
  refine rz_get C 0 rfl rfl wu_X1 0 (by decide) wl_X1_11 rfl rfl dX1_init_59 rfl ?_
  refine rz_iload_n (i := 1) C dX1_init_62 rfl rfl rfl ?_
  refine rz_new (ci := 0) (fs := [.null, .null]) C wu_X0 tyX0 tyX0_ok wq_X1_9 wj_X0 wn_X0 rfl (fun j hj => by rcases (show j = 0 ∨ j = 1 by omega) with rfl | rfl <;> rfl) (Nat.le_of_ble_eq_true rfl) (Nat.le_of_ble_eq_true rfl) dX1_init_63 rfl (fun q10 => ?_)
  refine rz_dup C dX1_init_66 rfl rfl ?_
  refine rz_callIN C (i_X0 l G q10) C.2.2.2.2.2.1.2.2.2.2.1 wc_yX0_init wn_X0 wi_yX0_init rfl (by decide +kernel) (by decide) (by decide) (Nat.le_of_ble_eq_true rfl) dX1_init_67 rfl (fun b10 hb10 => ?_)
  subst hb10
  refine rz_eq (w2 := [(q, .inr (1, [.ref (q1), .int 0, .ref (q2), .int 0, .int 0, .ref (q3), .int 0, .ref (q4), .ref (q5), .ref (q6), .int 0])), (q1, .inl (rs_cy G 3, 4, .inr (.inr (.inr (.inr (va_up (va_up (va_up (fun _ => none) 0 (some (b7 0))) 1 (some (b8 0))) 2 (some (b9 0)))))))), (q2, .inl (rs_cy G 0, 4, .inl (fun _ => 0))), (q3, .inl (rs_cy G 0, 8, .inl (fun _ => 0))), (q4, .inl (rs_cy G 0, 6, .inl (fun _ => 0))), (q5, .inl (rs_cy G 0, 6, .inl (fun _ => 0))), (q6, .inl (rs_cy G 0, 6, .inl (fun _ => 0))), (b7 0, .inr (0, [.ref (b7 1), .ref (b7 2)])), (b7 1, .inl (rs_cy G 0, 4, .inl rs_c0)), (b7 2, .inl (rs_cy G 0, 13, .inl (fun _ => 0))), (b8 0, .inr (0, [.ref (b8 1), .ref (b8 2)])), (b8 1, .inl (rs_cy G 0, 4, .inl rs_c0)), (b8 2, .inl (rs_cy G 0, 13, .inl (fun _ => 0))), (b9 0, .inr (0, [.ref (b9 1), .ref (b9 2)])), (b9 1, .inl (rs_cy G 0, 4, .inl rs_c0)), (b9 2, .inl (rs_cy G 0, 13, .inl (fun _ => 0))), (b10 0, .inr (0, [.ref (b10 1), .ref (b10 2)])), (b10 1, .inl (rs_cy G 0, 4, .inl rs_c0)), (b10 2, .inl (rs_cy G 0, 13, .inl (fun _ => 0)))]) (rfl) ?_
  refine rz_astq (ci := 0) C 1 3 rfl rfl (List.mem_of_getElem? (i := 16) rfl) rfl 3 (by decide) (vp_in_nI (n := 3) (by decide) (by decide)) dX1_init_70 rfl ?_
  refine rz_eq (w2 := [(q, .inr (1, [.ref (q1), .int 0, .ref (q2), .int 0, .int 0, .ref (q3), .int 0, .ref (q4), .ref (q5), .ref (q6), .int 0])), (q1, .inl (rs_cy G 3, 4, .inr (.inr (.inr (.inr (va_up (va_up (va_up (va_up (fun _ => none) 0 (some (b7 0))) 1 (some (b8 0))) 2 (some (b9 0))) 3 (some (b10 0)))))))), (q2, .inl (rs_cy G 0, 4, .inl (fun _ => 0))), (q3, .inl (rs_cy G 0, 8, .inl (fun _ => 0))), (q4, .inl (rs_cy G 0, 6, .inl (fun _ => 0))), (q5, .inl (rs_cy G 0, 6, .inl (fun _ => 0))), (q6, .inl (rs_cy G 0, 6, .inl (fun _ => 0))), (b7 0, .inr (0, [.ref (b7 1), .ref (b7 2)])), (b7 1, .inl (rs_cy G 0, 4, .inl rs_c0)), (b7 2, .inl (rs_cy G 0, 13, .inl (fun _ => 0))), (b8 0, .inr (0, [.ref (b8 1), .ref (b8 2)])), (b8 1, .inl (rs_cy G 0, 4, .inl rs_c0)), (b8 2, .inl (rs_cy G 0, 13, .inl (fun _ => 0))), (b9 0, .inr (0, [.ref (b9 1), .ref (b9 2)])), (b9 1, .inl (rs_cy G 0, 4, .inl rs_c0)), (b9 2, .inl (rs_cy G 0, 13, .inl (fun _ => 0))), (b10 0, .inr (0, [.ref (b10 1), .ref (b10 2)])), (b10 1, .inl (rs_cy G 0, 4, .inl rs_c0)), (b10 2, .inl (rs_cy G 0, 13, .inl (fun _ => 0)))]) (rfl) ?_
  refine rz_iinc (v := 1) C dX1_init_71 rfl (by decide) (by decide) rfl ?_
  refine rz_subk (l2 := [(0, .ref (q)), (1, .int 4)]) ?_ (rs_ac rfl (rs_ac rfl rs_a0))
  refine rz_goto (tgt := 53) C dX1_init_74 (by decide) ?_
  refine rz_iload_n (i := 1) C dX1_init_53 rfl rfl rfl ?_
  refine rz_iconst (v := 4) C dX1_init_54 (by decide) rfl ?_
  refine rz_icmp_ge (tgt := 77) C dX1_init_55 (by decide) rfl (fun _ => ?_) (fun z => absurd (by decide) z)
  refine rz_getsN C 4 (by decide) (by decide +kernel) dX1_init_77 rfl ?_
  refine rz_iconst (v := 0) C dX1_init_80 (by decide) rfl ?_
  refine rz_aload_n (i := 0) C dX1_init_81 rfl rfl rfl ?_
  refine rz_get C 0 rfl rfl wu_X1 2 (by decide) wl_X1_17 rfl rfl dX1_init_82 rfl ?_
  refine rz_iconst (v := 0) C dX1_init_85 (by decide) rfl ?_
  refine rz_iconst (v := 4) C dX1_init_86 (by decide) rfl ?_
  refine rz_copyT C wl_X1_37 (by decide) 2 rfl 0 0 4 (by decide) (by decide) (by decide) (by decide) (by decide) (by decide) (by decide) (by decide) (by decide) (Nat.le_of_ble_eq_true rfl) dX1_init_87 rfl ?_
  refine rz_eq (w2 := [(q, .inr (1, [.ref (q1), .int 0, .ref (q2), .int 0, .int 0, .ref (q3), .int 0, .ref (q4), .ref (q5), .ref (q6), .int 0])), (q1, .inl (rs_cy G 3, 4, .inr (.inr (.inr (.inr (va_up (va_up (va_up (va_up (fun _ => none) 0 (some (b7 0))) 1 (some (b8 0))) 2 (some (b9 0))) 3 (some (b10 0)))))))), (q2, .inl (rs_cy G 0, 4, .inl (va_cpy (rs_sv 4) (fun _ => 0) 0 0 4))), (q3, .inl (rs_cy G 0, 8, .inl (fun _ => 0))), (q4, .inl (rs_cy G 0, 6, .inl (fun _ => 0))), (q5, .inl (rs_cy G 0, 6, .inl (fun _ => 0))), (q6, .inl (rs_cy G 0, 6, .inl (fun _ => 0))), (b7 0, .inr (0, [.ref (b7 1), .ref (b7 2)])), (b7 1, .inl (rs_cy G 0, 4, .inl rs_c0)), (b7 2, .inl (rs_cy G 0, 13, .inl (fun _ => 0))), (b8 0, .inr (0, [.ref (b8 1), .ref (b8 2)])), (b8 1, .inl (rs_cy G 0, 4, .inl rs_c0)), (b8 2, .inl (rs_cy G 0, 13, .inl (fun _ => 0))), (b9 0, .inr (0, [.ref (b9 1), .ref (b9 2)])), (b9 1, .inl (rs_cy G 0, 4, .inl rs_c0)), (b9 2, .inl (rs_cy G 0, 13, .inl (fun _ => 0))), (b10 0, .inr (0, [.ref (b10 1), .ref (b10 2)])), (b10 1, .inl (rs_cy G 0, 4, .inl rs_c0)), (b10 2, .inl (rs_cy G 0, 13, .inl (fun _ => 0)))]) (rfl) ?_
  refine rz_fun 1 (fun j => some (rs_ad (rs_wa G (fun k => if k = 0 then q else if k = 1 then q1 else if k = 2 then q2 else if k = 3 then q3 else if k = 4 then q4 else if k = 5 then q5 else if k = 6 then q6 else if k = 7 then b7 0 else if k = 8 then b7 1 else if k = 9 then b7 2 else if k = 10 then b8 0 else if k = 11 then b8 1 else if k = 12 then b8 2 else if k = 13 then b9 0 else if k = 14 then b9 1 else if k = 15 then b9 2 else if k = 16 then b10 0 else if k = 17 then b10 1 else b10 2)) (1 + 6 + 3 * j))) rfl (fun j hj => by rcases (show j = 0 ∨ j = 1 ∨ j = 2 ∨ j = 3 by omega) with rfl | rfl | rfl | rfl <;> rfl) ?_
  refine rz_eq (w2 := [(q, .inr (1, [.ref (q1), .int 0, .ref (q2), .int 0, .int 0, .ref (q3), .int 0, .ref (q4), .ref (q5), .ref (q6), .int 0])), (q1, .inl (rs_cy G 3, 4, .inr (.inr (.inr (.inr (fun j => some (rs_ad (rs_wa G (fun k => if k = 0 then q else if k = 1 then q1 else if k = 2 then q2 else if k = 3 then q3 else if k = 4 then q4 else if k = 5 then q5 else if k = 6 then q6 else if k = 7 then b7 0 else if k = 8 then b7 1 else if k = 9 then b7 2 else if k = 10 then b8 0 else if k = 11 then b8 1 else if k = 12 then b8 2 else if k = 13 then b9 0 else if k = 14 then b9 1 else if k = 15 then b9 2 else if k = 16 then b10 0 else if k = 17 then b10 1 else b10 2)) (1 + 6 + 3 * j)))))))), (q2, .inl (rs_cy G 0, 4, .inl (va_cpy (rs_sv 4) (fun _ => 0) 0 0 4))), (q3, .inl (rs_cy G 0, 8, .inl (fun _ => 0))), (q4, .inl (rs_cy G 0, 6, .inl (fun _ => 0))), (q5, .inl (rs_cy G 0, 6, .inl (fun _ => 0))), (q6, .inl (rs_cy G 0, 6, .inl (fun _ => 0))), (b7 0, .inr (0, [.ref (b7 1), .ref (b7 2)])), (b7 1, .inl (rs_cy G 0, 4, .inl rs_c0)), (b7 2, .inl (rs_cy G 0, 13, .inl (fun _ => 0))), (b8 0, .inr (0, [.ref (b8 1), .ref (b8 2)])), (b8 1, .inl (rs_cy G 0, 4, .inl rs_c0)), (b8 2, .inl (rs_cy G 0, 13, .inl (fun _ => 0))), (b9 0, .inr (0, [.ref (b9 1), .ref (b9 2)])), (b9 1, .inl (rs_cy G 0, 4, .inl rs_c0)), (b9 2, .inl (rs_cy G 0, 13, .inl (fun _ => 0))), (b10 0, .inr (0, [.ref (b10 1), .ref (b10 2)])), (b10 1, .inl (rs_cy G 0, 4, .inl rs_c0)), (b10 2, .inl (rs_cy G 0, 13, .inl (fun _ => 0)))]) (rfl) ?_
  exact rz_vret (b := (fun k => if k = 0 then q else if k = 1 then q1 else if k = 2 then q2 else if k = 3 then q3 else if k = 4 then q4 else if k = 5 then q5 else if k = 6 then q6 else if k = 7 then b7 0 else if k = 8 then b7 1 else if k = 9 then b7 2 else if k = 10 then b8 0 else if k = 11 then b8 1 else if k = 12 then b8 2 else if k = 13 then b9 0 else if k = 14 then b9 1 else if k = 15 then b9 2 else if k = 16 then b10 0 else if k = 17 then b10 1 else b10 2)) C hr hlk rfl (List.Perm.of_eq rfl) dX1_init_90
def rs_pSf (G : rs_G) (b : Nat → Nat) (f : Nat → Option Nat) : va_W := (b 0, .inr (1, rs_o1 (rs_wa G b) rs_S0 0)) :: (b 1, .inl (rs_cy G 3, 4, .inr (.inr (.inr (.inr f))))) :: (List.range 17).map (fun k => (b (k + 2), rs_ee (rs_wa G b) rs_S0 (k + 2)))
theorem rs_Ps {D : va_G} {cl : List vw_C} {A B : va_W} {H : Heap} (h : va_P D cl (A ++ B) H) : va_P D cl A H ∧ va_P D cl B H := by
  refine ⟨fun k q hk => h k q ?_, fun k q hk => h (A.length + k) q ?_⟩
  · rw [List.getElem?_append_left (List.getElem?_eq_some_iff.mp hk).1]
    exact hk
  · rw [List.getElem?_append_right (by omega), Nat.add_sub_cancel_left]
    exact hk
theorem rs_pSf_to {D : va_G} {cl : List vw_C} {G : rs_G} {b : Nat → Nat} {f g : Nat → Option Nat} {H : Heap} (h : va_P D cl (rs_pSf G b f) H) (hf : ∀ j, j < 4 → f j = g j) : va_P D cl (rs_pSf G b g) H := by
  intro k q hk
  match k, hk with
  | 0, hk => exact h 0 q hk
  | 1, hk =>
    have e : (b 1, .inl (rs_cy G 3, 4, .inr (.inr (.inr (.inr g))))) = q := Option.some.inj hk
    rw [← e]
    show H[b 1]? = some (vp_cell (rs_cy G 3) (4, .inr (.inr (.inr (.inr g)))))
    rw [← rs_arrc hf]
    exact h 1 _ rfl
  | k + 2, hk => exact h (k + 2) q hk
theorem rs_pm91 {α : Type} (E F A1 A2 T A3 A4 H1 H2 H3 H4 : List α) : ((E ++ F) ++ ((((((((A1 ++ A2) ++ T) ++ A3) ++ A4) ++ H1) ++ H2) ++ H3) ++ H4)).Perm (A1 ++ (A2 ++ (A3 ++ (A4 ++ (E ++ (T ++ (F ++ (H1 ++ (H2 ++ (H3 ++ H4)))))))))) := by
  classical
  rw [List.perm_iff_count]
  intro a
  simp only [List.count_append]
  omega
theorem rs_D_fst {A : Nat → Prop} {ws w2 : va_W} (h : va_D A ws) (e : ws.map Prod.fst = w2.map Prod.fst) : va_D A w2 := by
  rw [rs_D_iff] at h ⊢
  refine ⟨e ▸ h.1, fun q hq => ?_⟩
  have : q.1 ∈ ws.map Prod.fst := by rw [e]; exact List.mem_map_of_mem hq
  obtain ⟨x, hx, he⟩ := List.mem_map.mp this
  rw [← he]
  exact h.2 x hx
theorem rz_vret2 {G : rs_G} {A : Nat → Prop} {cc : ByteArray} {nL : Nat} {own : String} {p : Program} {l : Launch} {e : Env} {R : Room} {s : State} {m : MethodId} {args : Array Value} {below : List Frame} {meth : Method} {c : Code} {ce sl : Nat} {ws : va_W} {pc : Nat} {lv : List (Nat × Value)} (C : rs_CZ G A cc nL own p s m args c) {b : Nat → Nat} {q r : Nat} {w1 : (Nat → Nat) → va_W} (hr : meth.sig.returnType = none) (hlk : meth.locks = false) (hb : b r = q) (hw : ∀ H, va_P (rs_D0 G) rs_cl ws H → va_P (rs_D0 G) rs_cl (w1 b) H) (hw2 : va_D A ws → va_D A (w1 b)) (hd : decode cc pc = .ok (.return_, 1)) : rs_Z G A nL p l e R s m args below meth c (MQ below (va_Qv (fun b : Nat → Nat => b r = q) (fun b t => va_P (rs_D0 G) rs_cl (w1 b) t.heap ∧ va_D A (w1 b)) A) args s ce sl A) ce sl ws pc lv [] := by
  intro H locs ls hP hD hS hl
  exact W.vret C.1 C.2.1 hr (fun t ht hW => ⟨⟨b, rfl, hb, by rw [ht]; exact hw H hP, hw2 hD⟩, hS.F ht⟩) hS.2.2 hd hlk
theorem rs_pS_m (G : rs_G) (b : Nat → Nat) : (b 0, Sum.inr (1, rs_o1 (rs_wa G b) rs_S0 0)) ∈ rs_pS G b := List.mem_of_getElem? (i := 0) rfl
theorem rs_pH_m (G : rs_G) (b : Nat → Nat) : (b 0, Sum.inr (2, [.ref (b 1), .int (-1), .int 0])) ∈ rs_pH G b := List.mem_cons_self
def rs_bm (b1 b2 b3 b4 : Nat → Nat) (q qi qk qs : Nat) (bt : Nat → Nat) (qb : Nat) (h1 h2 h3 h4 : Nat → Nat) : Nat → Nat := fun k => if k < 19 then b1 k else if k < 38 then b2 (k - 19) else if k < 57 then b3 (k - 38) else if k < 76 then b4 (k - 57) else if k = 76 then q else if k = 77 then qi else if k = 78 then qk else if k = 79 then qs else if k < 82 then bt (k - 80) else if k = 82 then qb else if k < 85 then h1 (k - 83) else if k < 87 then h2 (k - 85) else if k < 89 then h3 (k - 87) else h4 (k - 89)
set_option maxHeartbeats 4000000 in
set_option maxRecDepth 100000 in
theorem i_X4 (l : Launch) (G : rs_G) (q : Nat) : rs_im l yX4_init cX4_init 2 G q (.inr (4, [.null, .null, .null, .null, .null, .null, .null, .int 0])) (rs_p91 G) 76 90 843 4 := by
  refine rs_imet (by decide) rfl (by decide) ?_
  intro sz p e s m args below meth c C hr hlk hi
  refine rz_aload_n (i := 0) C dX4_init_0 rfl rfl rfl ?_
  refine rz_obj C wl_X4_1 (by decide) (Nat.le_of_ble_eq_true rfl) dX4_init_1 rfl ?_
  refine rz_aload_n (i := 0) C dX4_init_4 rfl rfl rfl ?_
  refine rz_new (ci := 1) (fs := [.null, .int 0, .null, .int 0, .int 0, .null, .int 0, .null, .null, .null, .int 0]) C wu_X1 tyX1 tyX1_ok wq_X4_7 wj_X1 wn_X1 rfl (fun j hj => by rcases (show j = 0 ∨ j = 1 ∨ j = 2 ∨ j = 3 ∨ j = 4 ∨ j = 5 ∨ j = 6 ∨ j = 7 ∨ j = 8 ∨ j = 9 ∨ j = 10 by omega) with rfl | rfl | rfl | rfl | rfl | rfl | rfl | rfl | rfl | rfl | rfl <;> rfl) (Nat.le_of_ble_eq_true rfl) (Nat.le_of_ble_eq_true rfl) dX4_init_5 rfl (fun q1 => ?_)
  refine rz_dup C dX4_init_8 rfl rfl ?_
  refine rz_callI C (i_X1 l G q1) wl_X4_9 wc_yX1_init wn_X1 wi_yX1_init rfl (by decide +kernel) (by decide) (by decide) (Nat.le_of_ble_eq_true rfl) dX4_init_9 rfl (fun b1 hb1 => ?_)
  subst hb1
  refine rz_eq (w2 := [(q, .inr (4, [.null, .null, .null, .null, .null, .null, .null, .int 0]))] ++ rs_pS G b1) (rfl) ?_
  refine rz_putF C 0 rfl rfl wu_X4 tyX4 tyX4_ok nmX4 0 (by decide) wl_X4_10 rfl rfl hi rfl (ty := .object "RowShutter$Scene") (by decide +kernel) rfl rfl (Nat.le_of_ble_eq_true rfl) dX4_init_12 rfl ?_
  refine rz_eq (w2 := [(q, .inr (4, [.ref (b1 0), .null, .null, .null, .null, .null, .null, .int 0]))] ++ rs_pS G b1) (rfl) ?_
  refine rz_aload_n (i := 0) C dX4_init_15 rfl rfl rfl ?_
  refine rz_new (ci := 1) (fs := [.null, .int 0, .null, .int 0, .int 0, .null, .int 0, .null, .null, .null, .int 0]) C wu_X1 tyX1 tyX1_ok wq_X4_7 wj_X1 wn_X1 rfl (fun j hj => by rcases (show j = 0 ∨ j = 1 ∨ j = 2 ∨ j = 3 ∨ j = 4 ∨ j = 5 ∨ j = 6 ∨ j = 7 ∨ j = 8 ∨ j = 9 ∨ j = 10 by omega) with rfl | rfl | rfl | rfl | rfl | rfl | rfl | rfl | rfl | rfl | rfl <;> rfl) (Nat.le_of_ble_eq_true rfl) (Nat.le_of_ble_eq_true rfl) dX4_init_16 rfl (fun q2 => ?_)
  refine rz_dup C dX4_init_19 rfl rfl ?_
  refine rz_callI C (i_X1 l G q2) wl_X4_9 wc_yX1_init wn_X1 wi_yX1_init rfl (by decide +kernel) (by decide) (by decide) (Nat.le_of_ble_eq_true rfl) dX4_init_20 rfl (fun b2 hb2 => ?_)
  subst hb2
  refine rz_eq (w2 := [(q, .inr (4, [.ref (b1 0), .null, .null, .null, .null, .null, .null, .int 0]))] ++ (rs_pS G b1 ++ rs_pS G b2)) (rfl) ?_
  refine rz_putF C 0 rfl rfl wu_X4 tyX4 tyX4_ok nmX4 1 (by decide) wl_X4_16 rfl rfl hi rfl (ty := .object "RowShutter$Scene") (by decide +kernel) rfl rfl (Nat.le_of_ble_eq_true rfl) dX4_init_23 rfl ?_
  refine rz_eq (w2 := [(q, .inr (4, [.ref (b1 0), .ref (b2 0), .null, .null, .null, .null, .null, .int 0]))] ++ (rs_pS G b1 ++ rs_pS G b2)) (rfl) ?_
  refine rz_aload_n (i := 0) C dX4_init_26 rfl rfl rfl ?_
  refine rz_iconst (v := 2) C dX4_init_27 (by decide) rfl ?_
  refine rz_newq1 (N := 2) C wq_X4_7 (by decide) (by decide) (by decide) (Nat.le_of_ble_eq_true rfl) (Nat.le_of_ble_eq_true rfl) dX4_init_28 rfl (fun q3 => ?_)
  refine rz_perm (rs_pm1 _ _ _) ?_
  refine rz_eq (w2 := [(q, .inr (4, [.ref (b1 0), .ref (b2 0), .null, .null, .null, .null, .null, .int 0])), (q3, .inl (rs_cy G 4, 2, .inr (.inr (.inr (.inr (fun _ => none))))))] ++ (rs_pS G b1 ++ rs_pS G b2)) (rfl) ?_
  refine rz_putF C 0 rfl rfl wu_X4 tyX4 tyX4_ok nmX4 2 (by decide) wl_X4_19 rfl rfl hi rfl (ty := .array (.object "RowShutter$Scene")) (by decide +kernel) rfl rfl (Nat.le_of_ble_eq_true rfl) dX4_init_31 rfl ?_
  refine rz_eq (w2 := [(q, .inr (4, [.ref (b1 0), .ref (b2 0), .ref (q3), .null, .null, .null, .null, .int 0])), (q3, .inl (rs_cy G 4, 2, .inr (.inr (.inr (.inr (fun _ => none))))))] ++ (rs_pS G b1 ++ rs_pS G b2)) (rfl) ?_
  refine rz_aload_n (i := 0) C dX4_init_34 rfl rfl rfl ?_
  refine rz_iconst (v := 2) C dX4_init_35 (by decide) rfl ?_
  refine rz_newz (N := 2) C (by decide) (by decide) (Nat.le_of_ble_eq_true rfl) (Nat.le_of_ble_eq_true rfl) (Nat.le_of_ble_eq_true rfl) dX4_init_36 rfl (fun q4 => ?_)
  refine rz_perm (rs_pm1 _ _ _) ?_
  refine rz_eq (w2 := [(q, .inr (4, [.ref (b1 0), .ref (b2 0), .ref (q3), .null, .null, .null, .null, .int 0])), (q3, .inl (rs_cy G 4, 2, .inr (.inr (.inr (.inr (fun _ => none)))))), (q4, .inl (rs_cy G 2, 2, .inl (fun _ => 0)))] ++ (rs_pS G b1 ++ rs_pS G b2)) (rfl) ?_
  refine rz_putF C 0 rfl rfl wu_X4 tyX4 tyX4_ok nmX4 3 (by decide) wl_X4_23 rfl rfl hi rfl (ty := .array .boolean) (by decide +kernel) rfl rfl (Nat.le_of_ble_eq_true rfl) dX4_init_38 rfl ?_
  refine rz_eq (w2 := [(q, .inr (4, [.ref (b1 0), .ref (b2 0), .ref (q3), .ref (q4), .null, .null, .null, .int 0])), (q3, .inl (rs_cy G 4, 2, .inr (.inr (.inr (.inr (fun _ => none)))))), (q4, .inl (rs_cy G 2, 2, .inl (fun _ => 0)))] ++ (rs_pS G b1 ++ rs_pS G b2)) (rfl) ?_
  refine rz_aload_n (i := 0) C dX4_init_41 rfl rfl rfl ?_
  refine rz_iconst (v := 4) C dX4_init_42 (by decide) rfl ?_
  refine rz_newq2 (N := 4) C wq_X4_27 (by decide) (by decide) (by decide) (Nat.le_of_ble_eq_true rfl) (Nat.le_of_ble_eq_true rfl) dX4_init_43 rfl (fun q5 => ?_)
  refine rz_perm (rs_pm1 _ _ _) ?_
  refine rz_eq (w2 := [(q, .inr (4, [.ref (b1 0), .ref (b2 0), .ref (q3), .ref (q4), .null, .null, .null, .int 0])), (q3, .inl (rs_cy G 4, 2, .inr (.inr (.inr (.inr (fun _ => none)))))), (q4, .inl (rs_cy G 2, 2, .inl (fun _ => 0))), (q5, .inl (rs_cy G 5, 4, .inr (.inr (.inr (.inr (fun _ => none))))))] ++ (rs_pS G b1 ++ rs_pS G b2)) (rfl) ?_
  refine rz_putF C 0 rfl rfl wu_X4 tyX4 tyX4_ok nmX4 4 (by decide) wl_X4_29 rfl rfl hi rfl (ty := .array (.object "RowShutter$Sheet")) (by decide +kernel) rfl rfl (Nat.le_of_ble_eq_true rfl) dX4_init_46 rfl ?_
  refine rz_eq (w2 := [(q, .inr (4, [.ref (b1 0), .ref (b2 0), .ref (q3), .ref (q4), .ref (q5), .null, .null, .int 0])), (q3, .inl (rs_cy G 4, 2, .inr (.inr (.inr (.inr (fun _ => none)))))), (q4, .inl (rs_cy G 2, 2, .inl (fun _ => 0))), (q5, .inl (rs_cy G 5, 4, .inr (.inr (.inr (.inr (fun _ => none))))))] ++ (rs_pS G b1 ++ rs_pS G b2)) (rfl) ?_
  refine rz_aload_n (i := 0) C dX4_init_49 rfl rfl rfl ?_
  refine rz_new (ci := 3) (fs := [.null, .int 0, .int 0, .int 0, .int 0, .int 0, .int 0]) C wu_X3 tyX3 tyX3_ok wq_X4_33 wj_X3 wn_X3 rfl (fun j hj => by rcases (show j = 0 ∨ j = 1 ∨ j = 2 ∨ j = 3 ∨ j = 4 ∨ j = 5 ∨ j = 6 by omega) with rfl | rfl | rfl | rfl | rfl | rfl | rfl <;> rfl) (Nat.le_of_ble_eq_true rfl) (Nat.le_of_ble_eq_true rfl) dX4_init_50 rfl (fun q6 => ?_)
  refine rz_dup C dX4_init_53 rfl rfl ?_
  refine rz_callIN C (i_X3 l G q6) C.2.2.2.2.2.1.2.2.2.2.2.1 wc_yX3_init wn_X3 wi_yX3_init rfl (by decide +kernel) (by decide) (by decide) (Nat.le_of_ble_eq_true rfl) dX4_init_54 rfl (fun b6 hb6 => ?_)
  subst hb6
  refine rz_eq (w2 := [(q, .inr (4, [.ref (b1 0), .ref (b2 0), .ref (q3), .ref (q4), .ref (q5), .null, .null, .int 0])), (q3, .inl (rs_cy G 4, 2, .inr (.inr (.inr (.inr (fun _ => none)))))), (q4, .inl (rs_cy G 2, 2, .inl (fun _ => 0))), (q5, .inl (rs_cy G 5, 4, .inr (.inr (.inr (.inr (fun _ => none))))))] ++ ((rs_pS G b1 ++ rs_pS G b2) ++ rs_pT G b6)) (rfl) ?_
  refine rz_putF C 0 rfl rfl wu_X4 tyX4 tyX4_ok nmX4 5 (by decide) wl_X4_36 rfl rfl hi rfl (ty := .object "RowShutter$Tape") (by decide +kernel) rfl rfl (Nat.le_of_ble_eq_true rfl) dX4_init_57 rfl ?_
  refine rz_eq (w2 := [(q, .inr (4, [.ref (b1 0), .ref (b2 0), .ref (q3), .ref (q4), .ref (q5), .ref (b6 0), .null, .int 0])), (q3, .inl (rs_cy G 4, 2, .inr (.inr (.inr (.inr (fun _ => none)))))), (q4, .inl (rs_cy G 2, 2, .inl (fun _ => 0))), (q5, .inl (rs_cy G 5, 4, .inr (.inr (.inr (.inr (fun _ => none))))))] ++ ((rs_pS G b1 ++ rs_pS G b2) ++ rs_pT G b6)) (rfl) ?_
  refine rz_aload_n (i := 0) C dX4_init_60 rfl rfl rfl ?_
  refine rz_bipush (v := 12) C dX4_init_61 (by decide) rfl ?_
  refine rz_newi (N := 12) C (by decide) (by decide) (Nat.le_of_ble_eq_true rfl) (Nat.le_of_ble_eq_true rfl) (Nat.le_of_ble_eq_true rfl) dX4_init_63 rfl (fun q7 => ?_)
  refine rz_perm (rs_pm1 _ _ _) ?_
  refine rz_eq (w2 := [(q, .inr (4, [.ref (b1 0), .ref (b2 0), .ref (q3), .ref (q4), .ref (q5), .ref (b6 0), .null, .int 0])), (q3, .inl (rs_cy G 4, 2, .inr (.inr (.inr (.inr (fun _ => none)))))), (q4, .inl (rs_cy G 2, 2, .inl (fun _ => 0))), (q5, .inl (rs_cy G 5, 4, .inr (.inr (.inr (.inr (fun _ => none)))))), (q7, .inl (rs_cy G 0, 12, .inl (fun _ => 0)))] ++ ((rs_pS G b1 ++ rs_pS G b2) ++ rs_pT G b6)) (rfl) ?_
  refine rz_putF C 0 rfl rfl wu_X4 tyX4 tyX4_ok nmX4 6 (by decide) wl_X4_40 rfl rfl hi rfl (ty := .array .int) (by decide +kernel) rfl rfl (Nat.le_of_ble_eq_true rfl) dX4_init_65 rfl ?_
  refine rz_eq (w2 := [(q, .inr (4, [.ref (b1 0), .ref (b2 0), .ref (q3), .ref (q4), .ref (q5), .ref (b6 0), .ref (q7), .int 0])), (q3, .inl (rs_cy G 4, 2, .inr (.inr (.inr (.inr (fun _ => none)))))), (q4, .inl (rs_cy G 2, 2, .inl (fun _ => 0))), (q5, .inl (rs_cy G 5, 4, .inr (.inr (.inr (.inr (fun _ => none)))))), (q7, .inl (rs_cy G 0, 12, .inl (fun _ => 0)))] ++ ((rs_pS G b1 ++ rs_pS G b2) ++ rs_pT G b6)) (rfl) ?_
  refine rz_iconst (v := 0) C dX4_init_68 (by decide) rfl ?_
  refine rz_istore_n (i := 1) C dX4_init_69 rfl (by decide) rfl ?_
  refine rz_iload_n (i := 1) C dX4_init_70 rfl rfl rfl ?_
  refine rz_iconst (v := 2) C dX4_init_71 (by decide) rfl ?_
  refine rz_icmp_ge (tgt := 94) C dX4_init_72 (by decide) rfl (fun z => absurd z (by decide)) (fun _ => ?_)
  refine rz_aload_n (i := 0) C dX4_init_75 rfl rfl rfl ?_
  refine rz_get C 0 rfl rfl wu_X4 2 (by decide) wl_X4_19 rfl rfl dX4_init_76 rfl ?_
  refine rz_iload_n (i := 1) C dX4_init_79 rfl rfl rfl ?_
  refine rz_new (ci := 1) (fs := [.null, .int 0, .null, .int 0, .int 0, .null, .int 0, .null, .null, .null, .int 0]) C wu_X1 tyX1 tyX1_ok wq_X4_7 wj_X1 wn_X1 rfl (fun j hj => by rcases (show j = 0 ∨ j = 1 ∨ j = 2 ∨ j = 3 ∨ j = 4 ∨ j = 5 ∨ j = 6 ∨ j = 7 ∨ j = 8 ∨ j = 9 ∨ j = 10 by omega) with rfl | rfl | rfl | rfl | rfl | rfl | rfl | rfl | rfl | rfl | rfl <;> rfl) (Nat.le_of_ble_eq_true rfl) (Nat.le_of_ble_eq_true rfl) dX4_init_80 rfl (fun q8 => ?_)
  refine rz_dup C dX4_init_83 rfl rfl ?_
  refine rz_callI C (i_X1 l G q8) wl_X4_9 wc_yX1_init wn_X1 wi_yX1_init rfl (by decide +kernel) (by decide) (by decide) (Nat.le_of_ble_eq_true rfl) dX4_init_84 rfl (fun b8 hb8 => ?_)
  subst hb8
  refine rz_eq (w2 := [(q, .inr (4, [.ref (b1 0), .ref (b2 0), .ref (q3), .ref (q4), .ref (q5), .ref (b6 0), .ref (q7), .int 0])), (q3, .inl (rs_cy G 4, 2, .inr (.inr (.inr (.inr (fun _ => none)))))), (q4, .inl (rs_cy G 2, 2, .inl (fun _ => 0))), (q5, .inl (rs_cy G 5, 4, .inr (.inr (.inr (.inr (fun _ => none)))))), (q7, .inl (rs_cy G 0, 12, .inl (fun _ => 0)))] ++ (((rs_pS G b1 ++ rs_pS G b2) ++ rs_pT G b6) ++ rs_pS G b8)) (rfl) ?_
  refine rz_astq (ci := 1) C 1 4 rfl rfl (List.mem_append_right _ (List.mem_append_right _ (rs_pS_m G b8))) rfl 0 (by decide) (vp_in_nI (n := 0) (by decide) (by decide)) dX4_init_87 rfl ?_
  refine rz_eq (w2 := [(q, .inr (4, [.ref (b1 0), .ref (b2 0), .ref (q3), .ref (q4), .ref (q5), .ref (b6 0), .ref (q7), .int 0])), (q3, .inl (rs_cy G 4, 2, .inr (.inr (.inr (.inr (va_up (fun _ => none) 0 (some (b8 0)))))))), (q4, .inl (rs_cy G 2, 2, .inl (fun _ => 0))), (q5, .inl (rs_cy G 5, 4, .inr (.inr (.inr (.inr (fun _ => none)))))), (q7, .inl (rs_cy G 0, 12, .inl (fun _ => 0)))] ++ (((rs_pS G b1 ++ rs_pS G b2) ++ rs_pT G b6) ++ rs_pS G b8)) (rfl) ?_
  refine rz_iinc (v := 1) C dX4_init_88 rfl (by decide) (by decide) rfl ?_
  refine rz_subk (l2 := [(0, .ref (q)), (1, .int 1)]) ?_ (rs_ac rfl (rs_ac rfl rs_a0))
  refine rz_goto (tgt := 70) C dX4_init_91 (by decide) ?_
  refine rz_iload_n (i := 1) C dX4_init_70 rfl rfl rfl ?_
  refine rz_iconst (v := 2) C dX4_init_71 (by decide) rfl ?_
  refine rz_icmp_ge (tgt := 94) C dX4_init_72 (by decide) rfl (fun z => absurd z (by decide)) (fun _ => ?_)
  refine rz_aload_n (i := 0) C dX4_init_75 rfl rfl rfl ?_
  refine rz_get C 0 rfl rfl wu_X4 2 (by decide) wl_X4_19 rfl rfl dX4_init_76 rfl ?_
  refine rz_iload_n (i := 1) C dX4_init_79 rfl rfl rfl ?_
  refine rz_new (ci := 1) (fs := [.null, .int 0, .null, .int 0, .int 0, .null, .int 0, .null, .null, .null, .int 0]) C wu_X1 tyX1 tyX1_ok wq_X4_7 wj_X1 wn_X1 rfl (fun j hj => by rcases (show j = 0 ∨ j = 1 ∨ j = 2 ∨ j = 3 ∨ j = 4 ∨ j = 5 ∨ j = 6 ∨ j = 7 ∨ j = 8 ∨ j = 9 ∨ j = 10 by omega) with rfl | rfl | rfl | rfl | rfl | rfl | rfl | rfl | rfl | rfl | rfl <;> rfl) (Nat.le_of_ble_eq_true rfl) (Nat.le_of_ble_eq_true rfl) dX4_init_80 rfl (fun q9 => ?_)
  refine rz_dup C dX4_init_83 rfl rfl ?_
  refine rz_callI C (i_X1 l G q9) wl_X4_9 wc_yX1_init wn_X1 wi_yX1_init rfl (by decide +kernel) (by decide) (by decide) (Nat.le_of_ble_eq_true rfl) dX4_init_84 rfl (fun b9 hb9 => ?_)
  subst hb9
  refine rz_eq (w2 := [(q, .inr (4, [.ref (b1 0), .ref (b2 0), .ref (q3), .ref (q4), .ref (q5), .ref (b6 0), .ref (q7), .int 0])), (q3, .inl (rs_cy G 4, 2, .inr (.inr (.inr (.inr (va_up (fun _ => none) 0 (some (b8 0)))))))), (q4, .inl (rs_cy G 2, 2, .inl (fun _ => 0))), (q5, .inl (rs_cy G 5, 4, .inr (.inr (.inr (.inr (fun _ => none)))))), (q7, .inl (rs_cy G 0, 12, .inl (fun _ => 0)))] ++ ((((rs_pS G b1 ++ rs_pS G b2) ++ rs_pT G b6) ++ rs_pS G b8) ++ rs_pS G b9)) (rfl) ?_
  refine rz_astq (ci := 1) C 1 4 rfl rfl (List.mem_append_right _ (List.mem_append_right _ (rs_pS_m G b9))) rfl 1 (by decide) (vp_in_nI (n := 1) (by decide) (by decide)) dX4_init_87 rfl ?_
  refine rz_eq (w2 := [(q, .inr (4, [.ref (b1 0), .ref (b2 0), .ref (q3), .ref (q4), .ref (q5), .ref (b6 0), .ref (q7), .int 0])), (q3, .inl (rs_cy G 4, 2, .inr (.inr (.inr (.inr (va_up (va_up (fun _ => none) 0 (some (b8 0))) 1 (some (b9 0)))))))), (q4, .inl (rs_cy G 2, 2, .inl (fun _ => 0))), (q5, .inl (rs_cy G 5, 4, .inr (.inr (.inr (.inr (fun _ => none)))))), (q7, .inl (rs_cy G 0, 12, .inl (fun _ => 0)))] ++ ((((rs_pS G b1 ++ rs_pS G b2) ++ rs_pT G b6) ++ rs_pS G b8) ++ rs_pS G b9)) (rfl) ?_
  refine rz_iinc (v := 1) C dX4_init_88 rfl (by decide) (by decide) rfl ?_
  refine rz_subk (l2 := [(0, .ref (q)), (1, .int 2)]) ?_ (rs_ac rfl (rs_ac rfl rs_a0))
  refine rz_goto (tgt := 70) C dX4_init_91 (by decide) ?_
  refine rz_iload_n (i := 1) C dX4_init_70 rfl rfl rfl ?_
  refine rz_iconst (v := 2) C dX4_init_71 (by decide) rfl ?_
  refine rz_icmp_ge (tgt := 94) C dX4_init_72 (by decide) rfl (fun _ => ?_) (fun z => absurd (by decide) z)
  refine rz_iconst (v := 0) C dX4_init_94 (by decide) rfl ?_
  refine rz_istore_n (i := 1) C dX4_init_95 rfl (by decide) rfl ?_
  refine rz_iload_n (i := 1) C dX4_init_96 rfl rfl rfl ?_
  refine rz_iconst (v := 4) C dX4_init_97 (by decide) rfl ?_
  refine rz_icmp_ge (tgt := 120) C dX4_init_98 (by decide) rfl (fun z => absurd z (by decide)) (fun _ => ?_)
  refine rz_aload_n (i := 0) C dX4_init_101 rfl rfl rfl ?_
  refine rz_get C 0 rfl rfl wu_X4 4 (by decide) wl_X4_29 rfl rfl dX4_init_102 rfl ?_
  refine rz_iload_n (i := 1) C dX4_init_105 rfl rfl rfl ?_
  refine rz_new (ci := 2) (fs := [.null, .int 0, .int 0]) C wu_X2 tyX2 tyX2_ok wq_X4_27 wj_X2 wn_X2 rfl (fun j hj => by rcases (show j = 0 ∨ j = 1 ∨ j = 2 by omega) with rfl | rfl | rfl <;> rfl) (Nat.le_of_ble_eq_true rfl) (Nat.le_of_ble_eq_true rfl) dX4_init_106 rfl (fun q10 => ?_)
  refine rz_dup C dX4_init_109 rfl rfl ?_
  refine rz_callIN C (i_X2 l G q10) C.2.2.2.2.2.1.2.2.2.2.2.2 wc_yX2_init wn_X2 wi_yX2_init rfl (by decide +kernel) (by decide) (by decide) (Nat.le_of_ble_eq_true rfl) dX4_init_110 rfl (fun b10 hb10 => ?_)
  subst hb10
  refine rz_eq (w2 := [(q, .inr (4, [.ref (b1 0), .ref (b2 0), .ref (q3), .ref (q4), .ref (q5), .ref (b6 0), .ref (q7), .int 0])), (q3, .inl (rs_cy G 4, 2, .inr (.inr (.inr (.inr (va_up (va_up (fun _ => none) 0 (some (b8 0))) 1 (some (b9 0)))))))), (q4, .inl (rs_cy G 2, 2, .inl (fun _ => 0))), (q5, .inl (rs_cy G 5, 4, .inr (.inr (.inr (.inr (fun _ => none)))))), (q7, .inl (rs_cy G 0, 12, .inl (fun _ => 0)))] ++ (((((rs_pS G b1 ++ rs_pS G b2) ++ rs_pT G b6) ++ rs_pS G b8) ++ rs_pS G b9) ++ rs_pH G b10)) (rfl) ?_
  refine rz_astq (ci := 2) C 3 5 rfl rfl (List.mem_append_right _ (List.mem_append_right _ (rs_pH_m G b10))) rfl 0 (by decide) (vp_in_nI (n := 0) (by decide) (by decide)) dX4_init_113 rfl ?_
  refine rz_eq (w2 := [(q, .inr (4, [.ref (b1 0), .ref (b2 0), .ref (q3), .ref (q4), .ref (q5), .ref (b6 0), .ref (q7), .int 0])), (q3, .inl (rs_cy G 4, 2, .inr (.inr (.inr (.inr (va_up (va_up (fun _ => none) 0 (some (b8 0))) 1 (some (b9 0)))))))), (q4, .inl (rs_cy G 2, 2, .inl (fun _ => 0))), (q5, .inl (rs_cy G 5, 4, .inr (.inr (.inr (.inr (va_up (fun _ => none) 0 (some (b10 0)))))))), (q7, .inl (rs_cy G 0, 12, .inl (fun _ => 0)))] ++ (((((rs_pS G b1 ++ rs_pS G b2) ++ rs_pT G b6) ++ rs_pS G b8) ++ rs_pS G b9) ++ rs_pH G b10)) (rfl) ?_
  refine rz_iinc (v := 1) C dX4_init_114 rfl (by decide) (by decide) rfl ?_
  refine rz_subk (l2 := [(0, .ref (q)), (1, .int 1)]) ?_ (rs_ac rfl (rs_ac rfl rs_a0))
  refine rz_goto (tgt := 96) C dX4_init_117 (by decide) ?_
  refine rz_iload_n (i := 1) C dX4_init_96 rfl rfl rfl ?_
  refine rz_iconst (v := 4) C dX4_init_97 (by decide) rfl ?_
  refine rz_icmp_ge (tgt := 120) C dX4_init_98 (by decide) rfl (fun z => absurd z (by decide)) (fun _ => ?_)
  refine rz_aload_n (i := 0) C dX4_init_101 rfl rfl rfl ?_
  refine rz_get C 0 rfl rfl wu_X4 4 (by decide) wl_X4_29 rfl rfl dX4_init_102 rfl ?_
  refine rz_iload_n (i := 1) C dX4_init_105 rfl rfl rfl ?_
  refine rz_new (ci := 2) (fs := [.null, .int 0, .int 0]) C wu_X2 tyX2 tyX2_ok wq_X4_27 wj_X2 wn_X2 rfl (fun j hj => by rcases (show j = 0 ∨ j = 1 ∨ j = 2 by omega) with rfl | rfl | rfl <;> rfl) (Nat.le_of_ble_eq_true rfl) (Nat.le_of_ble_eq_true rfl) dX4_init_106 rfl (fun q11 => ?_)
  refine rz_dup C dX4_init_109 rfl rfl ?_
  refine rz_callIN C (i_X2 l G q11) C.2.2.2.2.2.1.2.2.2.2.2.2 wc_yX2_init wn_X2 wi_yX2_init rfl (by decide +kernel) (by decide) (by decide) (Nat.le_of_ble_eq_true rfl) dX4_init_110 rfl (fun b11 hb11 => ?_)
  subst hb11
  refine rz_eq (w2 := [(q, .inr (4, [.ref (b1 0), .ref (b2 0), .ref (q3), .ref (q4), .ref (q5), .ref (b6 0), .ref (q7), .int 0])), (q3, .inl (rs_cy G 4, 2, .inr (.inr (.inr (.inr (va_up (va_up (fun _ => none) 0 (some (b8 0))) 1 (some (b9 0)))))))), (q4, .inl (rs_cy G 2, 2, .inl (fun _ => 0))), (q5, .inl (rs_cy G 5, 4, .inr (.inr (.inr (.inr (va_up (fun _ => none) 0 (some (b10 0)))))))), (q7, .inl (rs_cy G 0, 12, .inl (fun _ => 0)))] ++ ((((((rs_pS G b1 ++ rs_pS G b2) ++ rs_pT G b6) ++ rs_pS G b8) ++ rs_pS G b9) ++ rs_pH G b10) ++ rs_pH G b11)) (rfl) ?_
  refine rz_astq (ci := 2) C 3 5 rfl rfl (List.mem_append_right _ (List.mem_append_right _ (rs_pH_m G b11))) rfl 1 (by decide) (vp_in_nI (n := 1) (by decide) (by decide)) dX4_init_113 rfl ?_
  refine rz_eq (w2 := [(q, .inr (4, [.ref (b1 0), .ref (b2 0), .ref (q3), .ref (q4), .ref (q5), .ref (b6 0), .ref (q7), .int 0])), (q3, .inl (rs_cy G 4, 2, .inr (.inr (.inr (.inr (va_up (va_up (fun _ => none) 0 (some (b8 0))) 1 (some (b9 0)))))))), (q4, .inl (rs_cy G 2, 2, .inl (fun _ => 0))), (q5, .inl (rs_cy G 5, 4, .inr (.inr (.inr (.inr (va_up (va_up (fun _ => none) 0 (some (b10 0))) 1 (some (b11 0)))))))), (q7, .inl (rs_cy G 0, 12, .inl (fun _ => 0)))] ++ ((((((rs_pS G b1 ++ rs_pS G b2) ++ rs_pT G b6) ++ rs_pS G b8) ++ rs_pS G b9) ++ rs_pH G b10) ++ rs_pH G b11)) (rfl) ?_
  refine rz_iinc (v := 1) C dX4_init_114 rfl (by decide) (by decide) rfl ?_
  refine rz_subk (l2 := [(0, .ref (q)), (1, .int 2)]) ?_ (rs_ac rfl (rs_ac rfl rs_a0))
  refine rz_goto (tgt := 96) C dX4_init_117 (by decide) ?_
  refine rz_iload_n (i := 1) C dX4_init_96 rfl rfl rfl ?_
  refine rz_iconst (v := 4) C dX4_init_97 (by decide) rfl ?_
  refine rz_icmp_ge (tgt := 120) C dX4_init_98 (by decide) rfl (fun z => absurd z (by decide)) (fun _ => ?_)
  refine rz_aload_n (i := 0) C dX4_init_101 rfl rfl rfl ?_
  refine rz_get C 0 rfl rfl wu_X4 4 (by decide) wl_X4_29 rfl rfl dX4_init_102 rfl ?_
  refine rz_iload_n (i := 1) C dX4_init_105 rfl rfl rfl ?_
  refine rz_new (ci := 2) (fs := [.null, .int 0, .int 0]) C wu_X2 tyX2 tyX2_ok wq_X4_27 wj_X2 wn_X2 rfl (fun j hj => by rcases (show j = 0 ∨ j = 1 ∨ j = 2 by omega) with rfl | rfl | rfl <;> rfl) (Nat.le_of_ble_eq_true rfl) (Nat.le_of_ble_eq_true rfl) dX4_init_106 rfl (fun q12 => ?_)
  refine rz_dup C dX4_init_109 rfl rfl ?_
  refine rz_callIN C (i_X2 l G q12) C.2.2.2.2.2.1.2.2.2.2.2.2 wc_yX2_init wn_X2 wi_yX2_init rfl (by decide +kernel) (by decide) (by decide) (Nat.le_of_ble_eq_true rfl) dX4_init_110 rfl (fun b12 hb12 => ?_)
  subst hb12
  refine rz_eq (w2 := [(q, .inr (4, [.ref (b1 0), .ref (b2 0), .ref (q3), .ref (q4), .ref (q5), .ref (b6 0), .ref (q7), .int 0])), (q3, .inl (rs_cy G 4, 2, .inr (.inr (.inr (.inr (va_up (va_up (fun _ => none) 0 (some (b8 0))) 1 (some (b9 0)))))))), (q4, .inl (rs_cy G 2, 2, .inl (fun _ => 0))), (q5, .inl (rs_cy G 5, 4, .inr (.inr (.inr (.inr (va_up (va_up (fun _ => none) 0 (some (b10 0))) 1 (some (b11 0)))))))), (q7, .inl (rs_cy G 0, 12, .inl (fun _ => 0)))] ++ (((((((rs_pS G b1 ++ rs_pS G b2) ++ rs_pT G b6) ++ rs_pS G b8) ++ rs_pS G b9) ++ rs_pH G b10) ++ rs_pH G b11) ++ rs_pH G b12)) (rfl) ?_
  refine rz_astq (ci := 2) C 3 5 rfl rfl (List.mem_append_right _ (List.mem_append_right _ (rs_pH_m G b12))) rfl 2 (by decide) (vp_in_nI (n := 2) (by decide) (by decide)) dX4_init_113 rfl ?_
  refine rz_eq (w2 := [(q, .inr (4, [.ref (b1 0), .ref (b2 0), .ref (q3), .ref (q4), .ref (q5), .ref (b6 0), .ref (q7), .int 0])), (q3, .inl (rs_cy G 4, 2, .inr (.inr (.inr (.inr (va_up (va_up (fun _ => none) 0 (some (b8 0))) 1 (some (b9 0)))))))), (q4, .inl (rs_cy G 2, 2, .inl (fun _ => 0))), (q5, .inl (rs_cy G 5, 4, .inr (.inr (.inr (.inr (va_up (va_up (va_up (fun _ => none) 0 (some (b10 0))) 1 (some (b11 0))) 2 (some (b12 0)))))))), (q7, .inl (rs_cy G 0, 12, .inl (fun _ => 0)))] ++ (((((((rs_pS G b1 ++ rs_pS G b2) ++ rs_pT G b6) ++ rs_pS G b8) ++ rs_pS G b9) ++ rs_pH G b10) ++ rs_pH G b11) ++ rs_pH G b12)) (rfl) ?_
  refine rz_iinc (v := 1) C dX4_init_114 rfl (by decide) (by decide) rfl ?_
  refine rz_subk (l2 := [(0, .ref (q)), (1, .int 3)]) ?_ (rs_ac rfl (rs_ac rfl rs_a0))
  refine rz_goto (tgt := 96) C dX4_init_117 (by decide) ?_
  refine rz_iload_n (i := 1) C dX4_init_96 rfl rfl rfl ?_
  refine rz_iconst (v := 4) C dX4_init_97 (by decide) rfl ?_
  refine rz_icmp_ge (tgt := 120) C dX4_init_98 (by decide) rfl (fun z => absurd z (by decide)) (fun _ => ?_)
  refine rz_aload_n (i := 0) C dX4_init_101 rfl rfl rfl ?_
  refine rz_get C 0 rfl rfl wu_X4 4 (by decide) wl_X4_29 rfl rfl dX4_init_102 rfl ?_
  refine rz_iload_n (i := 1) C dX4_init_105 rfl rfl rfl ?_
  refine rz_new (ci := 2) (fs := [.null, .int 0, .int 0]) C wu_X2 tyX2 tyX2_ok wq_X4_27 wj_X2 wn_X2 rfl (fun j hj => by rcases (show j = 0 ∨ j = 1 ∨ j = 2 by omega) with rfl | rfl | rfl <;> rfl) (Nat.le_of_ble_eq_true rfl) (Nat.le_of_ble_eq_true rfl) dX4_init_106 rfl (fun q13 => ?_)
  refine rz_dup C dX4_init_109 rfl rfl ?_
  refine rz_callIN C (i_X2 l G q13) C.2.2.2.2.2.1.2.2.2.2.2.2 wc_yX2_init wn_X2 wi_yX2_init rfl (by decide +kernel) (by decide) (by decide) (Nat.le_of_ble_eq_true rfl) dX4_init_110 rfl (fun b13 hb13 => ?_)
  subst hb13
  refine rz_eq (w2 := [(q, .inr (4, [.ref (b1 0), .ref (b2 0), .ref (q3), .ref (q4), .ref (q5), .ref (b6 0), .ref (q7), .int 0])), (q3, .inl (rs_cy G 4, 2, .inr (.inr (.inr (.inr (va_up (va_up (fun _ => none) 0 (some (b8 0))) 1 (some (b9 0)))))))), (q4, .inl (rs_cy G 2, 2, .inl (fun _ => 0))), (q5, .inl (rs_cy G 5, 4, .inr (.inr (.inr (.inr (va_up (va_up (va_up (fun _ => none) 0 (some (b10 0))) 1 (some (b11 0))) 2 (some (b12 0)))))))), (q7, .inl (rs_cy G 0, 12, .inl (fun _ => 0)))] ++ ((((((((rs_pS G b1 ++ rs_pS G b2) ++ rs_pT G b6) ++ rs_pS G b8) ++ rs_pS G b9) ++ rs_pH G b10) ++ rs_pH G b11) ++ rs_pH G b12) ++ rs_pH G b13)) (rfl) ?_
  refine rz_astq (ci := 2) C 3 5 rfl rfl (List.mem_append_right _ (List.mem_append_right _ (rs_pH_m G b13))) rfl 3 (by decide) (vp_in_nI (n := 3) (by decide) (by decide)) dX4_init_113 rfl ?_
  refine rz_eq (w2 := [(q, .inr (4, [.ref (b1 0), .ref (b2 0), .ref (q3), .ref (q4), .ref (q5), .ref (b6 0), .ref (q7), .int 0])), (q3, .inl (rs_cy G 4, 2, .inr (.inr (.inr (.inr (va_up (va_up (fun _ => none) 0 (some (b8 0))) 1 (some (b9 0)))))))), (q4, .inl (rs_cy G 2, 2, .inl (fun _ => 0))), (q5, .inl (rs_cy G 5, 4, .inr (.inr (.inr (.inr (va_up (va_up (va_up (va_up (fun _ => none) 0 (some (b10 0))) 1 (some (b11 0))) 2 (some (b12 0))) 3 (some (b13 0)))))))), (q7, .inl (rs_cy G 0, 12, .inl (fun _ => 0)))] ++ ((((((((rs_pS G b1 ++ rs_pS G b2) ++ rs_pT G b6) ++ rs_pS G b8) ++ rs_pS G b9) ++ rs_pH G b10) ++ rs_pH G b11) ++ rs_pH G b12) ++ rs_pH G b13)) (rfl) ?_
  refine rz_iinc (v := 1) C dX4_init_114 rfl (by decide) (by decide) rfl ?_
  refine rz_subk (l2 := [(0, .ref (q)), (1, .int 4)]) ?_ (rs_ac rfl (rs_ac rfl rs_a0))
  refine rz_goto (tgt := 96) C dX4_init_117 (by decide) ?_
  refine rz_iload_n (i := 1) C dX4_init_96 rfl rfl rfl ?_
  refine rz_iconst (v := 4) C dX4_init_97 (by decide) rfl ?_
  refine rz_icmp_ge (tgt := 120) C dX4_init_98 (by decide) rfl (fun _ => ?_) (fun z => absurd (by decide) z)
  refine rz_fun 1 (fun j => some (rs_ad (rs_wa G (rs_bm b1 b2 b8 b9 q q3 q4 q5 b6 q7 b10 b11 b12 b13)) (38 + 19 * j))) rfl (fun j hj => by rcases (show j = 0 ∨ j = 1 by omega) with rfl | rfl <;> rfl) ?_
  refine rz_eq (w2 := [(q, .inr (4, [.ref (b1 0), .ref (b2 0), .ref (q3), .ref (q4), .ref (q5), .ref (b6 0), .ref (q7), .int 0])), (q3, .inl (rs_cy G 4, 2, .inr (.inr (.inr (.inr (fun j => some (rs_ad (rs_wa G (rs_bm b1 b2 b8 b9 q q3 q4 q5 b6 q7 b10 b11 b12 b13)) (38 + 19 * j)))))))), (q4, .inl (rs_cy G 2, 2, .inl (fun _ => 0))), (q5, .inl (rs_cy G 5, 4, .inr (.inr (.inr (.inr (va_up (va_up (va_up (va_up (fun _ => none) 0 (some (b10 0))) 1 (some (b11 0))) 2 (some (b12 0))) 3 (some (b13 0)))))))), (q7, .inl (rs_cy G 0, 12, .inl (fun _ => 0)))] ++ ((((((((rs_pS G b1 ++ rs_pS G b2) ++ rs_pT G b6) ++ rs_pS G b8) ++ rs_pS G b9) ++ rs_pH G b10) ++ rs_pH G b11) ++ rs_pH G b12) ++ rs_pH G b13)) (rfl) ?_
  refine rz_fun 3 (fun j => some (rs_ad (rs_wa G (rs_bm b1 b2 b8 b9 q q3 q4 q5 b6 q7 b10 b11 b12 b13)) (83 + 2 * j))) rfl (fun j hj => by rcases (show j = 0 ∨ j = 1 ∨ j = 2 ∨ j = 3 by omega) with rfl | rfl | rfl | rfl <;> rfl) ?_
  refine rz_eq (w2 := [(q, .inr (4, [.ref (b1 0), .ref (b2 0), .ref (q3), .ref (q4), .ref (q5), .ref (b6 0), .ref (q7), .int 0])), (q3, .inl (rs_cy G 4, 2, .inr (.inr (.inr (.inr (fun j => some (rs_ad (rs_wa G (rs_bm b1 b2 b8 b9 q q3 q4 q5 b6 q7 b10 b11 b12 b13)) (38 + 19 * j)))))))), (q4, .inl (rs_cy G 2, 2, .inl (fun _ => 0))), (q5, .inl (rs_cy G 5, 4, .inr (.inr (.inr (.inr (fun j => some (rs_ad (rs_wa G (rs_bm b1 b2 b8 b9 q q3 q4 q5 b6 q7 b10 b11 b12 b13)) (83 + 2 * j)))))))), (q7, .inl (rs_cy G 0, 12, .inl (fun _ => 0)))] ++ ((((((((rs_pS G b1 ++ rs_pS G b2) ++ rs_pT G b6) ++ rs_pS G b8) ++ rs_pS G b9) ++ rs_pH G b10) ++ rs_pH G b11) ++ rs_pH G b12) ++ rs_pH G b13)) (rfl) ?_
  refine rz_eq (w2 := ([(q, .inr (4, [.ref (b1 0), .ref (b2 0), .ref (q3), .ref (q4), .ref (q5), .ref (b6 0), .ref (q7), .int 0])), (q3, .inl (rs_cy G 4, 2, .inr (.inr (.inr (.inr (fun j => some (rs_ad (rs_wa G (rs_bm b1 b2 b8 b9 q q3 q4 q5 b6 q7 b10 b11 b12 b13)) (38 + 19 * j)))))))), (q4, .inl (rs_cy G 2, 2, .inl (fun _ => 0))), (q5, .inl (rs_cy G 5, 4, .inr (.inr (.inr (.inr (fun j => some (rs_ad (rs_wa G (rs_bm b1 b2 b8 b9 q q3 q4 q5 b6 q7 b10 b11 b12 b13)) (83 + 2 * j))))))))] ++ [(q7, .inl (rs_cy G 0, 12, .inl (fun _ => 0)))]) ++ ((((((((rs_pS G b1 ++ rs_pS G b2) ++ rs_pT G b6) ++ rs_pS G b8) ++ rs_pS G b9) ++ rs_pH G b10) ++ rs_pH G b11) ++ rs_pH G b12) ++ rs_pH G b13)) (rfl) ?_
  refine rz_perm (rs_pm91 _ _ _ _ _ _ _ _ _ _ _) ?_
  have et : rs_p91 G (rs_bm b1 b2 b8 b9 q q3 q4 q5 b6 q7 b10 b11 b12 b13) = (rs_pSf G b1 (fun j => some (rs_ad (rs_wa G (rs_bm b1 b2 b8 b9 q q3 q4 q5 b6 q7 b10 b11 b12 b13)) (1 + 6 + 3 * j))) ++ (rs_pSf G b2 (fun j => some (rs_ad (rs_wa G (rs_bm b1 b2 b8 b9 q q3 q4 q5 b6 q7 b10 b11 b12 b13)) (20 + 6 + 3 * j))) ++ (rs_pSf G b8 (fun j => some (rs_ad (rs_wa G (rs_bm b1 b2 b8 b9 q q3 q4 q5 b6 q7 b10 b11 b12 b13)) (39 + 6 + 3 * j))) ++ (rs_pSf G b9 (fun j => some (rs_ad (rs_wa G (rs_bm b1 b2 b8 b9 q q3 q4 q5 b6 q7 b10 b11 b12 b13)) (58 + 6 + 3 * j))) ++ ([(q, .inr (4, [.ref (b1 0), .ref (b2 0), .ref (q3), .ref (q4), .ref (q5), .ref (b6 0), .ref (q7), .int 0])), (q3, .inl (rs_cy G 4, 2, .inr (.inr (.inr (.inr (fun j => some (rs_ad (rs_wa G (rs_bm b1 b2 b8 b9 q q3 q4 q5 b6 q7 b10 b11 b12 b13)) (38 + 19 * j)))))))), (q4, .inl (rs_cy G 2, 2, .inl (fun _ => 0))), (q5, .inl (rs_cy G 5, 4, .inr (.inr (.inr (.inr (fun j => some (rs_ad (rs_wa G (rs_bm b1 b2 b8 b9 q q3 q4 q5 b6 q7 b10 b11 b12 b13)) (83 + 2 * j))))))))] ++ (rs_pT G b6 ++ ([(q7, .inl (rs_cy G 0, 12, .inl (fun _ => 0)))] ++ (rs_pH G b10 ++ (rs_pH G b11 ++ (rs_pH G b12 ++ (rs_pH G b13)))))))))) : va_W) := rfl
  refine rz_vret2 (b := (rs_bm b1 b2 b8 b9 q q3 q4 q5 b6 q7 b10 b11 b12 b13)) C hr hlk rfl (fun H hP => ?_) (fun hD => ?_) dX4_init_120
  · rw [et]
    obtain ⟨p1, hP⟩ := rs_Ps hP
    obtain ⟨p2, hP⟩ := rs_Ps hP
    obtain ⟨p3, hP⟩ := rs_Ps hP
    obtain ⟨p4, hP⟩ := rs_Ps hP
    exact va_P.app (rs_pSf_to (f := fun j => some (rs_ad (rs_wa G b1) (1 + 6 + 3 * j))) p1 (fun j hj => by rcases (show j = 0 ∨ j = 1 ∨ j = 2 ∨ j = 3 by omega) with rfl | rfl | rfl | rfl <;> rfl)) (va_P.app (rs_pSf_to (f := fun j => some (rs_ad (rs_wa G b2) (1 + 6 + 3 * j))) p2 (fun j hj => by rcases (show j = 0 ∨ j = 1 ∨ j = 2 ∨ j = 3 by omega) with rfl | rfl | rfl | rfl <;> rfl)) (va_P.app (rs_pSf_to (f := fun j => some (rs_ad (rs_wa G b8) (1 + 6 + 3 * j))) p3 (fun j hj => by rcases (show j = 0 ∨ j = 1 ∨ j = 2 ∨ j = 3 by omega) with rfl | rfl | rfl | rfl <;> rfl)) (va_P.app (rs_pSf_to (f := fun j => some (rs_ad (rs_wa G b9) (1 + 6 + 3 * j))) p4 (fun j hj => by rcases (show j = 0 ∨ j = 1 ∨ j = 2 ∨ j = 3 by omega) with rfl | rfl | rfl | rfl <;> rfl)) (hP))))
  · rw [et]
    exact rs_D_fst hD rfl
