def rs_Y (G : rs_G) (nL : Nat) (p : Program) (l : Launch) (e : Env) (R : Room) (s : State) (m : MethodId) (args : Array Value) (below : List Frame) (meth : Method) (c : Code) (Q : State → Prop) (ce sl : Nat) (S : rs_St) (pc : Nat) (lv : List (Nat × Value)) (st : List Value) : Prop := ∀ (H : Heap) (locs : List Loc) (ls : Array Slot), va_P (rs_D0 G) rs_cl (rs_ww G S) H → va_S (rs_A G) s.heap H locs → lv_has ls nL lv → W p l e R s m args below meth c H locs ce sl Q (F0 m pc ls st)
section rsY
variable {G : rs_G} {cc : ByteArray} {nL : Nat} {own : String} {p : Program} {l : Launch} {e : Env} {R : Room} {s : State} {m : MethodId} {args : Array Value} {below : List Frame} {meth : Method} {c : Code} {Q : State → Prop} {ce sl : Nat} {S : rs_St} {pc pd : Nat} {lv : List (Nat × Value)} {st rest : List Value}
theorem ry_iconst (C : rs_C G cc nL own p s m args c) {n : Int} {v : Int32} (hd : decode cc pc = .ok (.iconst n, 1)) (hv : Int32.ofInt n = v) (hn : pc + 1 = pd) (k : rs_Y G nL p l e R s m args below meth c Q ce sl S pd lv (.int v :: rest)) : rs_Y G nL p l e R s m args below meth c Q ce sl S pc lv (rest) := by
  subst hn
  exact fun H locs ls hP hS hl => lv_iconst C.1 C.2.1 hd hv (k H locs ls hP hS hl)
theorem ry_bipush (C : rs_C G cc nL own p s m args c) {n : Int} {v : Int32} (hd : decode cc pc = .ok (.bipush n, 2)) (hv : (Int8.ofInt n).toInt32 = v) (hn : pc + 2 = pd) (k : rs_Y G nL p l e R s m args below meth c Q ce sl S pd lv (.int v :: rest)) : rs_Y G nL p l e R s m args below meth c Q ce sl S pc lv (rest) := by
  subst hn
  exact fun H locs ls hP hS hl => lv_bipush C.1 C.2.1 hd hv (k H locs ls hP hS hl)
theorem ry_sipush (C : rs_C G cc nL own p s m args c) {n : Int} {v : Int32} (hd : decode cc pc = .ok (.sipush n, 3)) (hv : (Int16.ofInt n).toInt32 = v) (hn : pc + 3 = pd) (k : rs_Y G nL p l e R s m args below meth c Q ce sl S pd lv (.int v :: rest)) : rs_Y G nL p l e R s m args below meth c Q ce sl S pc lv (rest) := by
  subst hn
  exact fun H locs ls hP hS hl => lv_sipush C.1 C.2.1 hd hv (k H locs ls hP hS hl)
theorem ry_iload_n (C : rs_C G cc nL own p s m args c) {k0 : Fin 4} {i : Nat} {x : Int32} (hd : decode cc pc = .ok (.iload_n k0, 1)) (hi : (k0 : Nat) = i) (ha : rs_at lv i = some (.int x)) (hn : pc + 1 = pd) (k : rs_Y G nL p l e R s m args below meth c Q ce sl S pd lv (.int x :: rest)) : rs_Y G nL p l e R s m args below meth c Q ce sl S pc lv (rest) := by
  subst hn
  exact fun H locs ls hP hS hl => lv_iload_n C.1 C.2.1 hd hi (rs_at_has hl ha) (k H locs ls hP hS hl)
theorem ry_aload_n (C : rs_C G cc nL own p s m args c) {k0 : Fin 4} {i : Nat} {x : Nat} (hd : decode cc pc = .ok (.aload_n k0, 1)) (hi : (k0 : Nat) = i) (ha : rs_at lv i = some (.ref x)) (hn : pc + 1 = pd) (k : rs_Y G nL p l e R s m args below meth c Q ce sl S pd lv (.ref x :: rest)) : rs_Y G nL p l e R s m args below meth c Q ce sl S pc lv (rest) := by
  subst hn
  exact fun H locs ls hP hS hl => lv_aload_n C.1 C.2.1 hd hi (rs_at_has hl ha) (k H locs ls hP hS hl)
theorem ry_istore_n (C : rs_C G cc nL own p s m args c) {k0 : Fin 4} {i : Nat} {x : Int32} (hd : decode cc pc = .ok (.istore_n k0, 1)) (hi : (k0 : Nat) = i) (hb : i < nL) (hn : pc + 1 = pd) (k : rs_Y G nL p l e R s m args below meth c Q ce sl S pd (rs_set lv i (.int x)) rest) : rs_Y G nL p l e R s m args below meth c Q ce sl S pc lv (.int x :: rest) := by
  subst hn
  exact fun H locs ls hP hS hl => lv_istore_n C.1 C.2.1 hd hi hl hb rfl (fun ls2 hl2 => k H locs ls2 hP hS hl2)
theorem ry_astore_n (C : rs_C G cc nL own p s m args c) {k0 : Fin 4} {i : Nat} {x : Nat} (hd : decode cc pc = .ok (.astore_n k0, 1)) (hi : (k0 : Nat) = i) (hb : i < nL) (hn : pc + 1 = pd) (k : rs_Y G nL p l e R s m args below meth c Q ce sl S pd (rs_set lv i (.ref x)) rest) : rs_Y G nL p l e R s m args below meth c Q ce sl S pc lv (.ref x :: rest) := by
  subst hn
  exact fun H locs ls hP hS hl => lv_astore_n C.1 C.2.1 hd hi hl hb rfl (fun ls2 hl2 => k H locs ls2 hP hS hl2)
theorem ry_iinc (C : rs_C G cc nL own p s m args c) {i : Nat} {n : Int} {x v : Int32} (hd : decode cc pc = .ok (.iinc i n, 3)) (ha : rs_at lv i = some (.int x)) (hv : Int32.ofInt n = v) (hb : i < nL) (hn : pc + 3 = pd) (k : rs_Y G nL p l e R s m args below meth c Q ce sl S pd (rs_set lv i (.int (x + v))) rest) : rs_Y G nL p l e R s m args below meth c Q ce sl S pc lv rest := by
  subst hn
  subst hv
  obtain ⟨q, hq⟩ := rs_iinc_aux ha
  exact fun H locs ls hP hS hl => lv_iinc C.1 C.2.1 hd hl hq rfl hb rfl (fun ls2 hl2 => k H locs ls2 hP hS hl2)
theorem ry_iadd (C : rs_C G cc nL own p s m args c) {x y : Int32} (hd : decode cc pc = .ok (.iadd, 1)) (hn : pc + 1 = pd) (k : rs_Y G nL p l e R s m args below meth c Q ce sl S pd lv (.int (x + y) :: rest)) : rs_Y G nL p l e R s m args below meth c Q ce sl S pc lv (.int y :: .int x :: rest) := by
  subst hn
  exact fun H locs ls hP hS hl => lv_iadd C.1 C.2.1 hd (k H locs ls hP hS hl)
theorem ry_isub (C : rs_C G cc nL own p s m args c) {x y : Int32} (hd : decode cc pc = .ok (.isub, 1)) (hn : pc + 1 = pd) (k : rs_Y G nL p l e R s m args below meth c Q ce sl S pd lv (.int (x - y) :: rest)) : rs_Y G nL p l e R s m args below meth c Q ce sl S pc lv (.int y :: .int x :: rest) := by
  subst hn
  exact fun H locs ls hP hS hl => lv_isub C.1 C.2.1 hd (k H locs ls hP hS hl)
theorem ry_iand (C : rs_C G cc nL own p s m args c) {x y : Int32} (hd : decode cc pc = .ok (.iand, 1)) (hn : pc + 1 = pd) (k : rs_Y G nL p l e R s m args below meth c Q ce sl S pd lv (.int (x &&& y) :: rest)) : rs_Y G nL p l e R s m args below meth c Q ce sl S pc lv (.int y :: .int x :: rest) := by
  subst hn
  exact fun H locs ls hP hS hl => lv_iand C.1 C.2.1 hd (k H locs ls hP hS hl)
theorem ry_icmp_eq (C : rs_C G cc nL own p s m args c) {x y : Int32} {off : Int} {tgt : Nat} (hd : decode cc pc = .ok (.if_icmp .eq off, 3)) (ht : (pc : Int) + off = (tgt : Int)) (hn : pc + 3 = pd) (kt : x = y → rs_Y G nL p l e R s m args below meth c Q ce sl S tgt lv rest) (kf : ¬ x = y → rs_Y G nL p l e R s m args below meth c Q ce sl S pd lv rest) : rs_Y G nL p l e R s m args below meth c Q ce sl S pc lv (.int y :: .int x :: rest) := by
  subst hn
  exact fun H locs ls hP hS hl => lv_icmp_eq C.1 C.2.1 hd ht (fun z => kt z H locs ls hP hS hl) (fun z => kf z H locs ls hP hS hl)
theorem ry_icmp_ne (C : rs_C G cc nL own p s m args c) {x y : Int32} {off : Int} {tgt : Nat} (hd : decode cc pc = .ok (.if_icmp .ne off, 3)) (ht : (pc : Int) + off = (tgt : Int)) (hn : pc + 3 = pd) (kt : ¬ x = y → rs_Y G nL p l e R s m args below meth c Q ce sl S tgt lv rest) (kf : x = y → rs_Y G nL p l e R s m args below meth c Q ce sl S pd lv rest) : rs_Y G nL p l e R s m args below meth c Q ce sl S pc lv (.int y :: .int x :: rest) := by
  subst hn
  exact fun H locs ls hP hS hl => lv_icmp_ne C.1 C.2.1 hd ht (fun z => kt z H locs ls hP hS hl) (fun z => kf z H locs ls hP hS hl)
theorem ry_icmp_lt (C : rs_C G cc nL own p s m args c) {x y : Int32} {off : Int} {tgt : Nat} (hd : decode cc pc = .ok (.if_icmp .lt off, 3)) (ht : (pc : Int) + off = (tgt : Int)) (hn : pc + 3 = pd) (kt : x < y → rs_Y G nL p l e R s m args below meth c Q ce sl S tgt lv rest) (kf : ¬ x < y → rs_Y G nL p l e R s m args below meth c Q ce sl S pd lv rest) : rs_Y G nL p l e R s m args below meth c Q ce sl S pc lv (.int y :: .int x :: rest) := by
  subst hn
  exact fun H locs ls hP hS hl => lv_icmp_lt C.1 C.2.1 hd ht (fun z => kt z H locs ls hP hS hl) (fun z => kf z H locs ls hP hS hl)
theorem ry_icmp_ge (C : rs_C G cc nL own p s m args c) {x y : Int32} {off : Int} {tgt : Nat} (hd : decode cc pc = .ok (.if_icmp .ge off, 3)) (ht : (pc : Int) + off = (tgt : Int)) (hn : pc + 3 = pd) (kt : y ≤ x → rs_Y G nL p l e R s m args below meth c Q ce sl S tgt lv rest) (kf : ¬ y ≤ x → rs_Y G nL p l e R s m args below meth c Q ce sl S pd lv rest) : rs_Y G nL p l e R s m args below meth c Q ce sl S pc lv (.int y :: .int x :: rest) := by
  subst hn
  exact fun H locs ls hP hS hl => lv_icmp_ge C.1 C.2.1 hd ht (fun z => kt z H locs ls hP hS hl) (fun z => kf z H locs ls hP hS hl)
theorem ry_icmp_gt (C : rs_C G cc nL own p s m args c) {x y : Int32} {off : Int} {tgt : Nat} (hd : decode cc pc = .ok (.if_icmp .gt off, 3)) (ht : (pc : Int) + off = (tgt : Int)) (hn : pc + 3 = pd) (kt : y < x → rs_Y G nL p l e R s m args below meth c Q ce sl S tgt lv rest) (kf : ¬ y < x → rs_Y G nL p l e R s m args below meth c Q ce sl S pd lv rest) : rs_Y G nL p l e R s m args below meth c Q ce sl S pc lv (.int y :: .int x :: rest) := by
  subst hn
  exact fun H locs ls hP hS hl => lv_icmp_gt C.1 C.2.1 hd ht (fun z => kt z H locs ls hP hS hl) (fun z => kf z H locs ls hP hS hl)
theorem ry_icmp_le (C : rs_C G cc nL own p s m args c) {x y : Int32} {off : Int} {tgt : Nat} (hd : decode cc pc = .ok (.if_icmp .le off, 3)) (ht : (pc : Int) + off = (tgt : Int)) (hn : pc + 3 = pd) (kt : x ≤ y → rs_Y G nL p l e R s m args below meth c Q ce sl S tgt lv rest) (kf : ¬ x ≤ y → rs_Y G nL p l e R s m args below meth c Q ce sl S pd lv rest) : rs_Y G nL p l e R s m args below meth c Q ce sl S pc lv (.int y :: .int x :: rest) := by
  subst hn
  exact fun H locs ls hP hS hl => lv_icmp_le C.1 C.2.1 hd ht (fun z => kt z H locs ls hP hS hl) (fun z => kf z H locs ls hP hS hl)
theorem ry_if_eq (C : rs_C G cc nL own p s m args c) {x : Int32} {off : Int} {tgt : Nat} (hd : decode cc pc = .ok (.ifCond .eq off, 3)) (ht : (pc : Int) + off = (tgt : Int)) (hn : pc + 3 = pd) (kt : x = 0 → rs_Y G nL p l e R s m args below meth c Q ce sl S tgt lv rest) (kf : ¬ x = 0 → rs_Y G nL p l e R s m args below meth c Q ce sl S pd lv rest) : rs_Y G nL p l e R s m args below meth c Q ce sl S pc lv (.int x :: rest) := by
  subst hn
  exact fun H locs ls hP hS hl => lv_if_eq C.1 C.2.1 hd ht (fun z => kt z H locs ls hP hS hl) (fun z => kf z H locs ls hP hS hl)
theorem ry_if_ne (C : rs_C G cc nL own p s m args c) {x : Int32} {off : Int} {tgt : Nat} (hd : decode cc pc = .ok (.ifCond .ne off, 3)) (ht : (pc : Int) + off = (tgt : Int)) (hn : pc + 3 = pd) (kt : ¬ x = 0 → rs_Y G nL p l e R s m args below meth c Q ce sl S tgt lv rest) (kf : x = 0 → rs_Y G nL p l e R s m args below meth c Q ce sl S pd lv rest) : rs_Y G nL p l e R s m args below meth c Q ce sl S pc lv (.int x :: rest) := by
  subst hn
  exact fun H locs ls hP hS hl => lv_if_ne C.1 C.2.1 hd ht (fun z => kt z H locs ls hP hS hl) (fun z => kf z H locs ls hP hS hl)
theorem ry_goto (C : rs_C G cc nL own p s m args c) {off : Int} {tgt : Nat} (hd : decode cc pc = .ok (.goto off, 3)) (ht : (pc : Int) + off = (tgt : Int)) (k : rs_Y G nL p l e R s m args below meth c Q ce sl S tgt lv rest) : rs_Y G nL p l e R s m args below meth c Q ce sl S pc lv rest := fun H locs ls hP hS hl => lv_goto C.1 C.2.1 hd ht (k H locs ls hP hS hl)
theorem ry_tabIn (C : rs_C G cc nL own p s m args c) {dflt lo hi : Int} {offs : Array Int} {len : Nat} {x : Int32} (off : Int) {tgt : Nat} (hd : decode cc pc = .ok (.tableswitch dflt lo hi offs, len)) (v : Int32) (hx : x = v) (h1 : ¬ v.toInt < lo) (h2 : ¬ hi < v.toInt) (ho : offs[(v.toInt - lo).toNat]? = some off) (ht : (pc : Int) + off = (tgt : Int)) (k : rs_Y G nL p l e R s m args below meth c Q ce sl S tgt lv rest) : rs_Y G nL p l e R s m args below meth c Q ce sl S pc lv (.int x :: rest) := by
  subst hx
  exact fun H locs ls hP hS hl => lv_tableIn C.1 C.2.1 hd h1 h2 ho ht (k H locs ls hP hS hl)
theorem ry_tabOut (C : rs_C G cc nL own p s m args c) {dflt lo hi : Int} {offs : Array Int} {len : Nat} {x : Int32} {tgt : Nat} (hd : decode cc pc = .ok (.tableswitch dflt lo hi offs, len)) (h : x.toInt < lo ∨ hi < x.toInt) (ht : (pc : Int) + dflt = (tgt : Int)) (k : rs_Y G nL p l e R s m args below meth c Q ce sl S tgt lv rest) : rs_Y G nL p l e R s m args below meth c Q ce sl S pc lv (.int x :: rest) := fun H locs ls hP hS hl => lv_tableOut C.1 C.2.1 hd h ht (k H locs ls hP hS hl)
theorem ry_lcmp (C : rs_C G cc nL own p s m args c) {x y : Int64} (hd : decode cc pc = .ok (.lcmp, 1)) (hn : pc + 1 = pd) (k : rs_Y G nL p l e R s m args below meth c Q ce sl S pd lv (.int (lg_cmp x y) :: rest)) : rs_Y G nL p l e R s m args below meth c Q ce sl S pc lv (.long y :: .long x :: rest) := by
  subst hn
  exact fun H locs ls hP hS hl => W.lcmp C.1 C.2.1 hd (k H locs ls hP hS hl)
theorem ry_sub {l2 : List (Nat × Value)} (h : rs_all lv l2) (k : rs_Y G nL p l e R s m args below meth c Q ce sl S pc l2 st) : rs_Y G nL p l e R s m args below meth c Q ce sl S pc lv st := fun H locs ls hP hS hl => k H locs ls hP hS (rs_all_has hl h)
theorem ry_get (C : rs_C G cc nL own p s m args c) {ref Cn : String} {T : u_T} {N ci index k : Nat} {fs : List Value} (hk : k < 106) (he : rs_ee G S k = .inr (ci, fs)) (hc : rs_cl[ci]? = some (Cn, T, N)) (hin : ∀ w ∈ u_ws Cn T N, w ∈ rs_wg) (j : Nat) (hj : j < N) (hl0 : Cond.fieldLink own index ref (T j).2.1 (T j).2.2.1 ∈ rs_wg) (hs : (T j).1 = ref) {v : Value} (hv : fs[j]? = some v) (hd : decode cc pc = .ok (.getfield index, 3)) (hn : pc + 3 = pd) (k2 : rs_Y G nL p l e R s m args below meth c Q ce sl S pd lv (v :: rest)) : rs_Y G nL p l e R s m args below meth c Q ce sl S pc lv (.ref (rs_ad G k) :: rest) := by
  subst hn
  exact fun H locs ls hP hS hl => va_get C.1 C.2.1 C.2.2.2.2.1 hin C.2.2.2.1 C.2.2.2.2.2.1.1 hP k (by rw [rs_ww_get G S hk, he]) hc j hj (C.2.2.2.2.1 _ hl0) (fun x hx => by rw [← hs]; exact hx) hv hd (k2 H locs ls hP hS hl)
theorem ry_iast (C : rs_C G cc nL own p s m args c) {k : Nat} {i x : Int32} (hk : rs_kd k = 6) (hi : ¬ (i < 0 ∨ rs_ln k ≤ i.toNatClampNeg)) (hd : decode cc pc = .ok (.iastore, 1)) (hn : pc + 1 = pd) (k2 : rs_Y G nL p l e R s m args below meth c Q ce sl (rs_si S k i.toNatClampNeg x) pd lv rest) : rs_Y G nL p l e R s m args below meth c Q ce sl S pc lv (.int x :: .int i :: .ref (rs_ad G k) :: rest) := by
  subst hn
  intro H locs ls hP hS hl
  refine va_iast C.1 C.2.1 C.2.2.2.2.2.1.1 hP (rs_va_D C.2.2.2.2.2.2 S) hS k 0 (by rw [rs_ww_get G S (rs_kd_lt hk (by decide)), rs_e6 hk]) rfl hi hd (fun H1 locs1 hP1 _ hS1 => ?_)
  rw [rs_ww_set G S (rs_si S k i.toNatClampNeg x) (rs_kd_lt hk (by decide)) _ (by rw [rs_e6 hk, rs_si_arr]) (fun a ha => rs_ee_si a ha)] at hP1
  exact k2 H1 locs1 ls hP1 hS1 hl
theorem ry_callVi (C : rs_C G cc nL own p s m args c) {y : MethodName} {b : ByteArray} {n ar index : Nat} {r : Option FieldType} {rm : Room} {As : List Value} {r0 : Int32} {S0 : rs_St} {k ci N : Nat} {Cn : String} {T : u_T} {fs : List Value} (hk : k < 106) (he : rs_ee G S k = .inr (ci, fs)) (hc : rs_cl[ci]? = some (Cn, T, N)) (hM : Met l y (rs_wz y b n r) rm (va_Pc (.ref (rs_ad G k) :: As) (rs_pre G S)) (va_Qi (fun r S2 => (r, S2) = (r0, S0)) (rs_post G) (rs_A G)) 0 0 (rs_A G)) (wd : rs_cwv own index Cn y b n r) (hy : y.cls = Cn ∧ y.cls ≠ "java/lang/invoke/MethodHandle" ∧ y.cls ≠ "java/lang/invoke/VarHandle" ∧ (parseMethodDescriptor y.desc).map (fun d => d.parameters.length) = some ar) (hce : ce ≤ R.cells ∧ sl ≤ R.slots) (hR : rm.frames + 1 ≤ R.frames ∧ 8 + (n + 11) + rm.locals ≤ R.locals) (hrm : rm.cells = 0 ∧ rm.slots = 0) (hn2 : As.length = ar) (hsk : st = As.reverse ++ .ref (rs_ad G k) :: rest) (hst : (rest.map fun v => v.category).sum ≤ 8) (hd : decode cc pc = .ok (.invokevirtual index, 3)) (hn : pc + 3 = pd) (k2 : rs_Y G nL p l e R s m args below meth c Q ce sl S0 pd lv (.int r0 :: rest)) : rs_Y G nL p l e R s m args below meth c Q ce sl S pc lv st := by
  subst hn
  subst hsk
  intro H locs ls hP hS hl
  refine va_calli (va_runV (As := As) (rest := rest) ⟨C.1, C.2.1, C.2.2.1, C.2.2.2.1, C.2.2.2.2.1⟩ hM (cwV ar C.2.2.2.2.1 (rs_goodv wd) rfl hrm.1 hrm.2 hy hR) ⟨rs_blind G S _, rs_recv C.2.2.2.2.2.1.1 hP hk he hc, fun U hU hW => ⟨rfl, by rw [hU]; exact hP, rs_kf_to C.2.2.2.2.2.1 hS hU hW⟩⟩ rfl hn2 hl.1 rfl (lv_room hst) hd hce) hS (fun q _ h => h) (fun q h => h) (fun r u t H1 locs1 ht hvm hw hB hz1 hk1 hS1 => ?_)
  have hB : va_P (rs_D0 G) rs_cl (rs_ww G u) t.heap := hB
  rw [ht] at hB
  obtain ⟨e1, e2⟩ := Prod.mk.inj hw
  subst e1
  subst e2
  exact k2 H1 locs1 ls hB hS1 hl
theorem ry_callVl (C : rs_C G cc nL own p s m args c) {y : MethodName} {b : ByteArray} {n ar index : Nat} {r : Option FieldType} {rm : Room} {As : List Value} {r0 : Int64} {S0 : rs_St} {k ci N : Nat} {Cn : String} {T : u_T} {fs : List Value} (hk : k < 106) (he : rs_ee G S k = .inr (ci, fs)) (hc : rs_cl[ci]? = some (Cn, T, N)) (hM : Met l y (rs_wz y b n r) rm (va_Pc (.ref (rs_ad G k) :: As) (rs_pre G S)) (va_Ql (fun r S2 => (r, S2) = (r0, S0)) (rs_post G) (rs_A G)) 0 0 (rs_A G)) (wd : rs_cwv own index Cn y b n r) (hy : y.cls = Cn ∧ y.cls ≠ "java/lang/invoke/MethodHandle" ∧ y.cls ≠ "java/lang/invoke/VarHandle" ∧ (parseMethodDescriptor y.desc).map (fun d => d.parameters.length) = some ar) (hce : ce ≤ R.cells ∧ sl ≤ R.slots) (hR : rm.frames + 1 ≤ R.frames ∧ 8 + (n + 11) + rm.locals ≤ R.locals) (hrm : rm.cells = 0 ∧ rm.slots = 0) (hn2 : As.length = ar) (hsk : st = As.reverse ++ .ref (rs_ad G k) :: rest) (hst : (rest.map fun v => v.category).sum ≤ 8) (hd : decode cc pc = .ok (.invokevirtual index, 3)) (hn : pc + 3 = pd) (k2 : rs_Y G nL p l e R s m args below meth c Q ce sl S0 pd lv (.long r0 :: rest)) : rs_Y G nL p l e R s m args below meth c Q ce sl S pc lv st := by
  subst hn
  subst hsk
  intro H locs ls hP hS hl
  refine va_calll (va_runV (As := As) (rest := rest) ⟨C.1, C.2.1, C.2.2.1, C.2.2.2.1, C.2.2.2.2.1⟩ hM (cwV ar C.2.2.2.2.1 (rs_goodv wd) rfl hrm.1 hrm.2 hy hR) ⟨rs_blind G S _, rs_recv C.2.2.2.2.2.1.1 hP hk he hc, fun U hU hW => ⟨rfl, by rw [hU]; exact hP, rs_kf_to C.2.2.2.2.2.1 hS hU hW⟩⟩ rfl hn2 hl.1 rfl (lv_room hst) hd hce) hS (fun q _ h => h) (fun q h => h) (fun r u t H1 locs1 ht hvm hw hB hz1 hk1 hS1 => ?_)
  have hB : va_P (rs_D0 G) rs_cl (rs_ww G u) t.heap := hB
  rw [ht] at hB
  obtain ⟨e1, e2⟩ := Prod.mk.inj hw
  subst e1
  subst e2
  exact k2 H1 locs1 ls hB hS1 hl
theorem ry_callVv (C : rs_C G cc nL own p s m args c) {y : MethodName} {b : ByteArray} {n ar index : Nat} {r : Option FieldType} {rm : Room} {As : List Value} {S0 : rs_St} {k ci N : Nat} {Cn : String} {T : u_T} {fs : List Value} (hk : k < 106) (he : rs_ee G S k = .inr (ci, fs)) (hc : rs_cl[ci]? = some (Cn, T, N)) (hM : Met l y (rs_wz y b n r) rm (va_Pc (.ref (rs_ad G k) :: As) (rs_pre G S)) (va_Qv (fun S2 => S2 = S0) (rs_post G) (rs_A G)) 0 0 (rs_A G)) (wd : rs_cwv own index Cn y b n r) (hy : y.cls = Cn ∧ y.cls ≠ "java/lang/invoke/MethodHandle" ∧ y.cls ≠ "java/lang/invoke/VarHandle" ∧ (parseMethodDescriptor y.desc).map (fun d => d.parameters.length) = some ar) (hce : ce ≤ R.cells ∧ sl ≤ R.slots) (hR : rm.frames + 1 ≤ R.frames ∧ 8 + (n + 11) + rm.locals ≤ R.locals) (hrm : rm.cells = 0 ∧ rm.slots = 0) (hn2 : As.length = ar) (hsk : st = As.reverse ++ .ref (rs_ad G k) :: rest) (hst : (rest.map fun v => v.category).sum ≤ 8) (hd : decode cc pc = .ok (.invokevirtual index, 3)) (hn : pc + 3 = pd) (k2 : rs_Y G nL p l e R s m args below meth c Q ce sl S0 pd lv (rest)) : rs_Y G nL p l e R s m args below meth c Q ce sl S pc lv st := by
  subst hn
  subst hsk
  intro H locs ls hP hS hl
  refine va_callv (va_runV (As := As) (rest := rest) ⟨C.1, C.2.1, C.2.2.1, C.2.2.2.1, C.2.2.2.2.1⟩ hM (cwV ar C.2.2.2.2.1 (rs_goodv wd) rfl hrm.1 hrm.2 hy hR) ⟨rs_blind G S _, rs_recv C.2.2.2.2.2.1.1 hP hk he hc, fun U hU hW => ⟨rfl, by rw [hU]; exact hP, rs_kf_to C.2.2.2.2.2.1 hS hU hW⟩⟩ rfl hn2 hl.1 rfl (lv_room hst) hd hce) hS (fun q _ h => h) (fun q h => h) (fun u t H1 locs1 ht hvm hw hB hz1 hk1 hS1 => ?_)
  have hB : va_P (rs_D0 G) rs_cl (rs_ww G u) t.heap := hB
  rw [ht] at hB
  subst hw
  exact k2 H1 locs1 ls hB hS1 hl
theorem ry_subk {l2 : List (Nat × Value)} (k : rs_Y G nL p l e R s m args below meth c Q ce sl S pc l2 st) (h : rs_all lv l2) : rs_Y G nL p l e R s m args below meth c Q ce sl S pc lv st := ry_sub h k
theorem ry_sld (C : rs_C G cc nL own p s m args c) {b L : Nat} {xs : Nat → Int32} (hX : va_X b L xs s s.heap) (hbl : b < s.heap.size) (hbA : ¬ rs_A G b) {i : Int32} (hin : vp_in i L) (hd : decode cc pc = .ok (.iaload, 1)) (hn : pc + 1 = pd) (k2 : rs_Y G nL p l e R s m args below meth c Q ce sl S pd lv (.int (xs i.toNatClampNeg) :: rest)) : rs_Y G nL p l e R s m args below meth c Q ce sl S pc lv (.int i :: .ref b :: rest) := by
  subst hn
  exact fun H locs ls hP hS hl => va_sld C.1 C.2.1 hX hbl hbA hS hin hd (k2 H locs ls hP hS hl)
theorem ry_slen (C : rs_C G cc nL own p s m args c) {b L : Nat} {xs : Nat → Int32} (hX : va_X b L xs s s.heap) (hbl : b < s.heap.size) (hbA : ¬ rs_A G b) (hd : decode cc pc = .ok (.arraylength, 1)) (hn : pc + 1 = pd) (k2 : rs_Y G nL p l e R s m args below meth c Q ce sl S pd lv (.int (Int32.ofNat L) :: rest)) : rs_Y G nL p l e R s m args below meth c Q ce sl S pc lv (.ref b :: rest) := by
  subst hn
  exact fun H locs ls hP hS hl => va_slen C.1 C.2.1 hX hbl hbA hS hd (k2 H locs ls hP hS hl)
end rsY
