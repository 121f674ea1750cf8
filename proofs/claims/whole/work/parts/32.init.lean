def rs_kc (G : rs_G) (U : State) : Prop := rs_kf G U ∧ va_AO RX0 U ∧ va_AO RX1 U ∧ va_AO RX2 U ∧ va_Nw (.methodLinkNest RX1 33 yX0_init RX4) U ∧ va_Nw (.methodLinkNest RX4 35 yX3_init RX4) U ∧ va_Nw (.methodLinkNest RX4 44 yX2_init RX4) U
theorem rs_kc_to {G : rs_G} {A : Nat → Prop} {s U : State} {H : Heap} {locs : List Loc} (h : rs_kc G s) (hAr : ∀ q, A q → rs_A G q) (hS : va_S A s.heap H locs) (hU : U.heap = H) (hW : s.WarmedH U.vm) : rs_kc G U := by
  obtain ⟨h1, h2, h3, h4, h5, h6, h7⟩ := h
  exact ⟨rs_kf_to h1 ⟨hS.1, fun q a b => hS.2.1 q a (fun z => b (hAr q z)), fun q hq => hAr _ (hS.2.2 q hq)⟩ hU hW, va_AO.moved hW.alike h2, va_AO.moved hW.alike h3, va_AO.moved hW.alike h4, h5.warmM hW, h6.warmM hW, h7.warmM hW⟩
theorem rs_kc_blind {G : rs_G} {U : State} {g : JFrame} {mk : MethodId} {a : Array Value} (h : rs_kc G U) : rs_kc G (U.calling g mk a) := by
  obtain ⟨h1, h2, h3, h4, h5, h6, h7⟩ := h
  have hvm : U.vm.Alike (U.calling g mk a).vm := Vm.Alike.refl U.vm
  exact ⟨rs_kf_blind h1, va_AO.moved hvm h2, va_AO.moved hvm h3, va_AO.moved hvm h4, h5.same rfl rfl, h6.same rfl rfl, h7.same rfl rfl⟩
def rs_Z (G : rs_G) (A : Nat → Prop) (nL : Nat) (p : Program) (l : Launch) (e : Env) (R : Room) (s : State) (m : MethodId) (args : Array Value) (below : List Frame) (meth : Method) (c : Code) (Q : State → Prop) (ce sl : Nat) (ws : va_W) (pc : Nat) (lv : List (Nat × Value)) (st : List Value) : Prop := ∀ (H : Heap) (locs : List Loc) (ls : Array Slot), va_P (rs_D0 G) rs_cl ws H → va_D A ws → va_S A s.heap H locs → lv_has ls nL lv → W p l e R s m args below meth c H locs ce sl Q (F0 m pc ls st)
def rs_CZ (G : rs_G) (A : Nat → Prop) (cc : ByteArray) (nL : Nat) (own : String) (p : Program) (s : State) (m : MethodId) (args : Array Value) (c : Code) : Prop := p.tables.exec = Jvm.exec ∧ c.code = cc ∧ c.maxLocals = nL ∧ s.vm.findClass own = some m.cls ∧ (∀ w ∈ rs_wg, w.before args s = true) ∧ rs_kc G s ∧ (∀ q, s.heap.size ≤ q → A q) ∧ ∀ q, A q → rs_A G q
section rsZ
variable {G : rs_G} {A : Nat → Prop} {cc : ByteArray} {nL : Nat} {own : String} {p : Program} {l : Launch} {e : Env} {R : Room} {s : State} {m : MethodId} {args : Array Value} {below : List Frame} {meth : Method} {c : Code} {Q : State → Prop} {ce sl : Nat} {ws : va_W} {pc pd : Nat} {lv : List (Nat × Value)} {st rest : List Value}
theorem rz_iconst (C : rs_CZ G A cc nL own p s m args c) {n : Int} {v : Int32} (hd : decode cc pc = .ok (.iconst n, 1)) (hv : Int32.ofInt n = v) (hn : pc + 1 = pd) (k : rs_Z G A nL p l e R s m args below meth c Q ce sl ws pd lv (.int v :: rest)) : rs_Z G A nL p l e R s m args below meth c Q ce sl ws pc lv (rest) := by
  subst hn
  exact fun H locs ls hP hD hS hl => lv_iconst C.1 C.2.1 hd hv (k H locs ls hP hD hS hl)
theorem rz_bipush (C : rs_CZ G A cc nL own p s m args c) {n : Int} {v : Int32} (hd : decode cc pc = .ok (.bipush n, 2)) (hv : (Int8.ofInt n).toInt32 = v) (hn : pc + 2 = pd) (k : rs_Z G A nL p l e R s m args below meth c Q ce sl ws pd lv (.int v :: rest)) : rs_Z G A nL p l e R s m args below meth c Q ce sl ws pc lv (rest) := by
  subst hn
  exact fun H locs ls hP hD hS hl => lv_bipush C.1 C.2.1 hd hv (k H locs ls hP hD hS hl)
theorem rz_sipush (C : rs_CZ G A cc nL own p s m args c) {n : Int} {v : Int32} (hd : decode cc pc = .ok (.sipush n, 3)) (hv : (Int16.ofInt n).toInt32 = v) (hn : pc + 3 = pd) (k : rs_Z G A nL p l e R s m args below meth c Q ce sl ws pd lv (.int v :: rest)) : rs_Z G A nL p l e R s m args below meth c Q ce sl ws pc lv (rest) := by
  subst hn
  exact fun H locs ls hP hD hS hl => lv_sipush C.1 C.2.1 hd hv (k H locs ls hP hD hS hl)
theorem rz_iload_n (C : rs_CZ G A cc nL own p s m args c) {k0 : Fin 4} {i : Nat} {x : Int32} (hd : decode cc pc = .ok (.iload_n k0, 1)) (hi : (k0 : Nat) = i) (ha : rs_at lv i = some (.int x)) (hn : pc + 1 = pd) (k : rs_Z G A nL p l e R s m args below meth c Q ce sl ws pd lv (.int x :: rest)) : rs_Z G A nL p l e R s m args below meth c Q ce sl ws pc lv (rest) := by
  subst hn
  exact fun H locs ls hP hD hS hl => lv_iload_n C.1 C.2.1 hd hi (rs_at_has hl ha) (k H locs ls hP hD hS hl)
theorem rz_aload_n (C : rs_CZ G A cc nL own p s m args c) {k0 : Fin 4} {i : Nat} {x : Nat} (hd : decode cc pc = .ok (.aload_n k0, 1)) (hi : (k0 : Nat) = i) (ha : rs_at lv i = some (.ref x)) (hn : pc + 1 = pd) (k : rs_Z G A nL p l e R s m args below meth c Q ce sl ws pd lv (.ref x :: rest)) : rs_Z G A nL p l e R s m args below meth c Q ce sl ws pc lv (rest) := by
  subst hn
  exact fun H locs ls hP hD hS hl => lv_aload_n C.1 C.2.1 hd hi (rs_at_has hl ha) (k H locs ls hP hD hS hl)
theorem rz_istore_n (C : rs_CZ G A cc nL own p s m args c) {k0 : Fin 4} {i : Nat} {x : Int32} (hd : decode cc pc = .ok (.istore_n k0, 1)) (hi : (k0 : Nat) = i) (hb : i < nL) (hn : pc + 1 = pd) (k : rs_Z G A nL p l e R s m args below meth c Q ce sl ws pd (rs_set lv i (.int x)) rest) : rs_Z G A nL p l e R s m args below meth c Q ce sl ws pc lv (.int x :: rest) := by
  subst hn
  exact fun H locs ls hP hD hS hl => lv_istore_n C.1 C.2.1 hd hi hl hb rfl (fun ls2 hl2 => k H locs ls2 hP hD hS hl2)
theorem rz_astore_n (C : rs_CZ G A cc nL own p s m args c) {k0 : Fin 4} {i : Nat} {x : Nat} (hd : decode cc pc = .ok (.astore_n k0, 1)) (hi : (k0 : Nat) = i) (hb : i < nL) (hn : pc + 1 = pd) (k : rs_Z G A nL p l e R s m args below meth c Q ce sl ws pd (rs_set lv i (.ref x)) rest) : rs_Z G A nL p l e R s m args below meth c Q ce sl ws pc lv (.ref x :: rest) := by
  subst hn
  exact fun H locs ls hP hD hS hl => lv_astore_n C.1 C.2.1 hd hi hl hb rfl (fun ls2 hl2 => k H locs ls2 hP hD hS hl2)
theorem rz_iinc (C : rs_CZ G A cc nL own p s m args c) {i : Nat} {n : Int} {x v : Int32} (hd : decode cc pc = .ok (.iinc i n, 3)) (ha : rs_at lv i = some (.int x)) (hv : Int32.ofInt n = v) (hb : i < nL) (hn : pc + 3 = pd) (k : rs_Z G A nL p l e R s m args below meth c Q ce sl ws pd (rs_set lv i (.int (x + v))) rest) : rs_Z G A nL p l e R s m args below meth c Q ce sl ws pc lv rest := by
  subst hn
  subst hv
  obtain ⟨q, hq⟩ := rs_iinc_aux ha
  exact fun H locs ls hP hD hS hl => lv_iinc C.1 C.2.1 hd hl hq rfl hb rfl (fun ls2 hl2 => k H locs ls2 hP hD hS hl2)
theorem rz_icmp_ge (C : rs_CZ G A cc nL own p s m args c) {x y : Int32} {off : Int} {tgt : Nat} (hd : decode cc pc = .ok (.if_icmp .ge off, 3)) (ht : (pc : Int) + off = (tgt : Int)) (hn : pc + 3 = pd) (kt : y ≤ x → rs_Z G A nL p l e R s m args below meth c Q ce sl ws tgt lv rest) (kf : ¬ y ≤ x → rs_Z G A nL p l e R s m args below meth c Q ce sl ws pd lv rest) : rs_Z G A nL p l e R s m args below meth c Q ce sl ws pc lv (.int y :: .int x :: rest) := by
  subst hn
  exact fun H locs ls hP hD hS hl => lv_icmp_ge C.1 C.2.1 hd ht (fun z => kt z H locs ls hP hD hS hl) (fun z => kf z H locs ls hP hD hS hl)
theorem rz_goto (C : rs_CZ G A cc nL own p s m args c) {off : Int} {tgt : Nat} (hd : decode cc pc = .ok (.goto off, 3)) (ht : (pc : Int) + off = (tgt : Int)) (k : rs_Z G A nL p l e R s m args below meth c Q ce sl ws tgt lv rest) : rs_Z G A nL p l e R s m args below meth c Q ce sl ws pc lv rest := fun H locs ls hP hD hS hl => lv_goto C.1 C.2.1 hd ht (k H locs ls hP hD hS hl)
theorem rz_dup (C : rs_CZ G A cc nL own p s m args c) {va : Value} (hd : decode cc pc = .ok (.dup, 1)) (hv : va.category = 1) (hn : pc + 1 = pd) (k : rs_Z G A nL p l e R s m args below meth c Q ce sl ws pd lv (va :: va :: rest)) : rs_Z G A nL p l e R s m args below meth c Q ce sl ws pc lv (va :: rest) := by
  subst hn
  exact fun H locs ls hP hD hS hl => lv_dup C.1 C.2.1 hd hv (k H locs ls hP hD hS hl)
theorem rz_obj (C : rs_CZ G A cc nL own p s m args c) {idx a : Nat} (hl0 : Cond.methodLink own idx objectInit ∈ rs_wg) (hf : 1 ≤ R.frames) (hlo : (rest.map fun v => v.category).sum + 12 ≤ R.locals) (hd : decode cc pc = .ok (.invokespecial idx, 3)) (hn : pc + 3 = pd) (k : rs_Z G A nL p l e R s m args below meth c Q ce sl ws pd lv rest) : rs_Z G A nL p l e R s m args below meth c Q ce sl ws pc lv (.ref a :: rest) := by
  subst hn
  intro H locs ls hP hD hS hl
  refine W.objInit C.1 C.2.1 C.2.2.2.1 (C.2.2.2.2.1 _ hl0) (C.2.2.2.2.1 _ wi_objectInit) (C.2.2.2.2.1 _ wc_objectInit) rfl (by rw [C.2.2.1]; exact hl.1) rfl hd hf (by show 2 * 0 + _ + 12 ≤ _; omega) ?_
  exact W.eq (g2 := F0 m (pc + 3) ls rest) rfl (k H locs ls hP hD hS hl)
theorem rz_new (C : rs_CZ G A cc nL own p s m args c) {Cn : String} {T : u_T} {N ci index : Nat} {fs : List Value} (hin : ∀ w ∈ u_ws Cn T N, w ∈ rs_wg) (ty : Nat → FieldType) (hty : ∀ k, k < N → parseFieldDescriptor (T k).2.2.1 = some (ty k)) (hcl : Cond.classLink own index Cn ∈ rs_wg) (hinst : Cond.instantiable Cn N ∈ rs_wg) (hini : Cond.initialized Cn ∈ rs_wg) (hc : rs_cl[ci]? = some (Cn, T, N)) (hfs : ∀ j, j < N → defaultValue (ty j) = vp_V fs j) (hcells : ce + 1 ≤ R.cells) (hslots : sl + N ≤ R.slots) (hd : decode cc pc = .ok (.new index, 3)) (hn : pc + 3 = pd) (k : ∀ q, rs_Z G A nL p l e R s m args below meth c Q (ce + 1) (sl + N) (ws ++ [(q, .inr (ci, fs))]) pd lv (.ref q :: rest)) : rs_Z G A nL p l e R s m args below meth c Q ce sl ws pc lv rest := by
  subst hn
  exact fun H locs ls hP hD hS hl => va_new C.1 C.2.1 C.2.2.2.2.1 hin ty hty C.2.2.2.1 (C.2.2.2.2.1 _ hcl) (C.2.2.2.2.1 _ hinst) (C.2.2.2.2.1 _ hini) C.2.2.2.2.2.1.1.1 hP hD hS C.2.2.2.2.2.2.1 hc hfs hcells hslots hd (fun q H1 hP1 hD1 hS1 => k q H1 locs ls hP1 hD1 hS1 hl)
theorem rz_newi (C : rs_CZ G A cc nL own p s m args c) {n : Int32} {N : Nat} (hz : ¬ n < 0) (hN : n.toNatClampNeg = N) (hby : N * componentBytes .int ≤ 536870912) (hcells : ce + 1 ≤ R.cells) (hslots : sl + N ≤ R.slots) (hd : decode cc pc = .ok (.newarray .int, 2)) (hn : pc + 2 = pd) (k : ∀ q, rs_Z G A nL p l e R s m args below meth c Q (ce + 1) (sl + N) (ws ++ [(q, .inl (rs_cy G 0, N, .inl (fun _ => 0)))]) pd lv (.ref q :: rest)) : rs_Z G A nL p l e R s m args below meth c Q ce sl ws pc lv (.int n :: rest) := by
  subst hn
  refine fun H locs ls hP hD hS hl => va_newa (atype := .int) (a0 := (N, .inl (fun _ => 0))) C.1 C.2.1 (C.2.2.2.2.1 _ (rs_lk1 (i := 45) rfl rfl)) rfl C.2.2.2.2.2.1.1.1 hP hD hS C.2.2.2.2.2.2.1 (fun cA => rfl) hz hN hby hcells hslots hd (fun q cA H1 hK1 hP1 hD1 hS1 => ?_)
  have e1 : s.vm.findClass ("[" ++ FieldType.toString .int) = some cA := (hK1.2 6 _ rfl).2
  have e2 : s.vm.findClass ("[" ++ FieldType.toString .int) = some (rs_cy G 0) := (C.2.2.2.2.2.1.1.1.2 0 _ rfl).2
  have e3 : cA = rs_cy G 0 := Option.some.inj (e1.symm.trans e2)
  subst e3
  exact k q H1 locs ls hP1 hD1 hS1 hl
theorem rz_newz (C : rs_CZ G A cc nL own p s m args c) {n : Int32} {N : Nat} (hz : ¬ n < 0) (hN : n.toNatClampNeg = N) (hby : N * componentBytes .boolean ≤ 536870912) (hcells : ce + 1 ≤ R.cells) (hslots : sl + N ≤ R.slots) (hd : decode cc pc = .ok (.newarray .boolean, 2)) (hn : pc + 2 = pd) (k : ∀ q, rs_Z G A nL p l e R s m args below meth c Q (ce + 1) (sl + N) (ws ++ [(q, .inl (rs_cy G 2, N, .inl (fun _ => 0)))]) pd lv (.ref q :: rest)) : rs_Z G A nL p l e R s m args below meth c Q ce sl ws pc lv (.int n :: rest) := by
  subst hn
  refine fun H locs ls hP hD hS hl => va_newa (atype := .boolean) (a0 := (N, .inl (fun _ => 0))) C.1 C.2.1 (C.2.2.2.2.1 _ (rs_lk1 (i := 128) rfl rfl)) rfl C.2.2.2.2.2.1.1.1 hP hD hS C.2.2.2.2.2.2.1 (fun cA => rfl) hz hN hby hcells hslots hd (fun q cA H1 hK1 hP1 hD1 hS1 => ?_)
  have e1 : s.vm.findClass ("[" ++ FieldType.toString .boolean) = some cA := (hK1.2 6 _ rfl).2
  have e2 : s.vm.findClass ("[" ++ FieldType.toString .boolean) = some (rs_cy G 2) := (C.2.2.2.2.2.1.1.1.2 2 _ rfl).2
  have e3 : cA = rs_cy G 2 := Option.some.inj (e1.symm.trans e2)
  subst e3
  exact k q H1 locs ls hP1 hD1 hS1 hl
theorem rz_newb (C : rs_CZ G A cc nL own p s m args c) {n : Int32} {N : Nat} (hz : ¬ n < 0) (hN : n.toNatClampNeg = N) (hby : N * componentBytes .byte ≤ 536870912) (hcells : ce + 1 ≤ R.cells) (hslots : sl + N ≤ R.slots) (hd : decode cc pc = .ok (.newarray .byte, 2)) (hn : pc + 2 = pd) (k : ∀ q, rs_Z G A nL p l e R s m args below meth c Q (ce + 1) (sl + N) (ws ++ [(q, .inl (rs_cy G 1, N, .inl (fun _ => 0)))]) pd lv (.ref q :: rest)) : rs_Z G A nL p l e R s m args below meth c Q ce sl ws pc lv (.int n :: rest) := by
  subst hn
  refine fun H locs ls hP hD hS hl => va_newa (atype := .byte) (a0 := (N, .inl (fun _ => 0))) C.1 C.2.1 (C.2.2.2.2.1 _ (rs_lk1 (i := 129) rfl rfl)) rfl C.2.2.2.2.2.1.1.1 hP hD hS C.2.2.2.2.2.2.1 (fun cA => rfl) hz hN hby hcells hslots hd (fun q cA H1 hK1 hP1 hD1 hS1 => ?_)
  have e1 : s.vm.findClass ("[" ++ FieldType.toString .byte) = some cA := (hK1.2 6 _ rfl).2
  have e2 : s.vm.findClass ("[" ++ FieldType.toString .byte) = some (rs_cy G 1) := (C.2.2.2.2.2.1.1.1.2 1 _ rfl).2
  have e3 : cA = rs_cy G 1 := Option.some.inj (e1.symm.trans e2)
  subst e3
  exact k q H1 locs ls hP1 hD1 hS1 hl
theorem rz_newq0 (C : rs_CZ G A cc nL own p s m args c) {index : Nat} {n : Int32} {N : Nat} (hcl : Cond.classLink own index RX0 ∈ rs_wg) (hz : ¬ n < 0) (hN : n.toNatClampNeg = N) (hby : N * 4 ≤ 536870912) (hcells : ce + 1 ≤ R.cells) (hslots : sl + N ≤ R.slots) (hd : decode cc pc = .ok (.anewarray index, 3)) (hn : pc + 3 = pd) (k : ∀ q, rs_Z G A nL p l e R s m args below meth c Q (ce + 1) (sl + N) (ws ++ [(q, .inl (rs_cy G 3, N, .inr (.inr (.inr (.inr (fun _ => none))))))]) pd lv (.ref q :: rest)) : rs_Z G A nL p l e R s m args below meth c Q ce sl ws pc lv (.int n :: rest) := by
  subst hn
  refine fun H locs ls hP hD hS hl => va_newq C.1 C.2.1 C.2.2.2.1 (C.2.2.2.2.1 _ hcl) C.2.2.2.2.2.1.2.1 C.2.2.2.2.2.1.1.1 hP hD hS C.2.2.2.2.2.2.1 hz hN hby hcells hslots hd (fun q cA H1 hK1 hP1 hD1 hS1 => ?_)
  obtain ⟨-, -, -, -, -, e1⟩ := (hK1.2 6 _ rfl).2
  obtain ⟨-, -, -, -, -, e2⟩ := (C.2.2.2.2.2.1.1.1.2 3 _ rfl).2
  have e3 : cA = rs_cy G 3 := Option.some.inj (e1.symm.trans e2)
  subst e3
  exact k q H1 locs ls hP1 hD1 hS1 hl
theorem rz_newq1 (C : rs_CZ G A cc nL own p s m args c) {index : Nat} {n : Int32} {N : Nat} (hcl : Cond.classLink own index RX1 ∈ rs_wg) (hz : ¬ n < 0) (hN : n.toNatClampNeg = N) (hby : N * 4 ≤ 536870912) (hcells : ce + 1 ≤ R.cells) (hslots : sl + N ≤ R.slots) (hd : decode cc pc = .ok (.anewarray index, 3)) (hn : pc + 3 = pd) (k : ∀ q, rs_Z G A nL p l e R s m args below meth c Q (ce + 1) (sl + N) (ws ++ [(q, .inl (rs_cy G 4, N, .inr (.inr (.inr (.inr (fun _ => none))))))]) pd lv (.ref q :: rest)) : rs_Z G A nL p l e R s m args below meth c Q ce sl ws pc lv (.int n :: rest) := by
  subst hn
  refine fun H locs ls hP hD hS hl => va_newq C.1 C.2.1 C.2.2.2.1 (C.2.2.2.2.1 _ hcl) C.2.2.2.2.2.1.2.2.1 C.2.2.2.2.2.1.1.1 hP hD hS C.2.2.2.2.2.2.1 hz hN hby hcells hslots hd (fun q cA H1 hK1 hP1 hD1 hS1 => ?_)
  obtain ⟨-, -, -, -, -, e1⟩ := (hK1.2 6 _ rfl).2
  obtain ⟨-, -, -, -, -, e2⟩ := (C.2.2.2.2.2.1.1.1.2 4 _ rfl).2
  have e3 : cA = rs_cy G 4 := Option.some.inj (e1.symm.trans e2)
  subst e3
  exact k q H1 locs ls hP1 hD1 hS1 hl
theorem rz_newq2 (C : rs_CZ G A cc nL own p s m args c) {index : Nat} {n : Int32} {N : Nat} (hcl : Cond.classLink own index RX2 ∈ rs_wg) (hz : ¬ n < 0) (hN : n.toNatClampNeg = N) (hby : N * 4 ≤ 536870912) (hcells : ce + 1 ≤ R.cells) (hslots : sl + N ≤ R.slots) (hd : decode cc pc = .ok (.anewarray index, 3)) (hn : pc + 3 = pd) (k : ∀ q, rs_Z G A nL p l e R s m args below meth c Q (ce + 1) (sl + N) (ws ++ [(q, .inl (rs_cy G 5, N, .inr (.inr (.inr (.inr (fun _ => none))))))]) pd lv (.ref q :: rest)) : rs_Z G A nL p l e R s m args below meth c Q ce sl ws pc lv (.int n :: rest) := by
  subst hn
  refine fun H locs ls hP hD hS hl => va_newq C.1 C.2.1 C.2.2.2.1 (C.2.2.2.2.1 _ hcl) C.2.2.2.2.2.1.2.2.2.1 C.2.2.2.2.2.1.1.1 hP hD hS C.2.2.2.2.2.2.1 hz hN hby hcells hslots hd (fun q cA H1 hK1 hP1 hD1 hS1 => ?_)
  obtain ⟨-, -, -, -, -, e1⟩ := (hK1.2 6 _ rfl).2
  obtain ⟨-, -, -, -, -, e2⟩ := (C.2.2.2.2.2.1.1.1.2 5 _ rfl).2
  have e3 : cA = rs_cy G 5 := Option.some.inj (e1.symm.trans e2)
  subst e3
  exact k q H1 locs ls hP1 hD1 hS1 hl
theorem rz_get (C : rs_CZ G A cc nL own p s m args c) {ref Cn : String} {T : u_T} {N ci index a : Nat} {fs : List Value} (q0 : Nat) (he : ws[q0]? = some (a, .inr (ci, fs))) (hc : rs_cl[ci]? = some (Cn, T, N)) (hin : ∀ w ∈ u_ws Cn T N, w ∈ rs_wg) (j : Nat) (hj : j < N) (hl0 : Cond.fieldLink own index ref (T j).2.1 (T j).2.2.1 ∈ rs_wg) (hs : (T j).1 = ref) {v : Value} (hv : fs[j]? = some v) (hd : decode cc pc = .ok (.getfield index, 3)) (hn : pc + 3 = pd) (k2 : rs_Z G A nL p l e R s m args below meth c Q ce sl ws pd lv (v :: rest)) : rs_Z G A nL p l e R s m args below meth c Q ce sl ws pc lv (.ref a :: rest) := by
  subst hn
  exact fun H locs ls hP hD hS hl => va_get C.1 C.2.1 C.2.2.2.2.1 hin C.2.2.2.1 C.2.2.2.2.2.1.1.1 hP q0 he hc j hj (C.2.2.2.2.1 _ hl0) (fun x hx => by rw [← hs]; exact hx) hv hd (k2 H locs ls hP hD hS hl)
theorem rz_put (C : rs_CZ G A cc nL own p s m args c) {ref Cn : String} {T : u_T} {N ci index a : Nat} {fs : List Value} (q0 : Nat) (he : ws[q0]? = some (a, .inr (ci, fs))) (hc : rs_cl[ci]? = some (Cn, T, N)) (hin : ∀ w ∈ u_ws Cn T N, w ∈ rs_wg) (ty0 : Nat → FieldType) (hty : ∀ k, k < N → parseFieldDescriptor (T k).2.2.1 = some (ty0 k)) (hnm : ∀ a, a < N → ∀ b, b < N → a ≠ b → (T a).2.1 ≠ (T b).2.1) (j : Nat) (hj : j < N) (hl0 : Cond.fieldLink own index ref (T j).2.1 (T j).2.2.1 ∈ rs_wg) (hs : (T j).1 = ref) (hfin : (T j).2.2.2 = false) {ty : FieldType} {v : Value} (hds : parseFieldDescriptor (T j).2.2.1 = some ty) (hnw : narrow ty v = v) (hfit : fits ty v = true) (hlen : j < fs.length) (hd : decode cc pc = .ok (.putfield index, 3)) (hn : pc + 3 = pd) (k2 : rs_Z G A nL p l e R s m args below meth c Q ce sl (ws.set q0 (a, .inr (ci, fs.set j v))) pd lv rest) : rs_Z G A nL p l e R s m args below meth c Q ce sl ws pc lv (v :: .ref a :: rest) := by
  subst hn
  exact fun H locs ls hP hD hS hl => va_put C.1 C.2.1 C.2.2.2.2.1 hin ty0 hty hnm C.2.2.2.1 C.2.2.2.2.2.1.1.1 hP hD hS q0 he hc j hj (C.2.2.2.2.1 _ hl0) (fun x hx => by rw [← hs]; exact hx) hfin hds hnw hfit hlen hd (fun H1 locs1 hP1 hD1 hS1 => k2 H1 locs1 ls hP1 hD1 hS1 hl)
theorem rz_putF (C : rs_CZ G A cc nL own p s m args c) {ref Cn : String} {T : u_T} {N ci index a : Nat} {fs : List Value} (q0 : Nat) (he : ws[q0]? = some (a, .inr (ci, fs))) (hc : rs_cl[ci]? = some (Cn, T, N)) (hin : ∀ w ∈ u_ws Cn T N, w ∈ rs_wg) (ty0 : Nat → FieldType) (hty : ∀ k, k < N → parseFieldDescriptor (T k).2.2.1 = some (ty0 k)) (hnm : ∀ a, a < N → ∀ b, b < N → a ≠ b → (T a).2.1 ≠ (T b).2.1) (j : Nat) (hj : j < N) (hl0 : Cond.fieldLink own index ref (T j).2.1 (T j).2.2.1 ∈ rs_wg) (hs : (T j).1 = ref) (hfin : (T j).2.2.2 = true) (hi : meth.name = "<init>") (hdc : (T j).1 = own) {ty : FieldType} {v : Value} (hds : parseFieldDescriptor (T j).2.2.1 = some ty) (hnw : narrow ty v = v) (hfit : fits ty v = true) (hlen : j < fs.length) (hd : decode cc pc = .ok (.putfield index, 3)) (hn : pc + 3 = pd) (k2 : rs_Z G A nL p l e R s m args below meth c Q ce sl (ws.set q0 (a, .inr (ci, fs.set j v))) pd lv rest) : rs_Z G A nL p l e R s m args below meth c Q ce sl ws pc lv (v :: .ref a :: rest) := by
  subst hn
  exact fun H locs ls hP hD hS hl => va_putF C.1 C.2.1 C.2.2.2.2.1 hin ty0 hty hnm C.2.2.2.1 C.2.2.2.2.2.1.1.1 hP hD hS q0 he hc j hj (C.2.2.2.2.1 _ hl0) (fun x hx => by rw [← hs]; exact hx) hfin hi hdc hds hnw hfit hlen hd (fun H1 locs1 hP1 hD1 hS1 => k2 H1 locs1 ls hP1 hD1 hS1 hl)
theorem rz_iast (C : rs_CZ G A cc nL own p s m args c) {a n : Nat} {f : Nat → Int32} {i x : Int32} (q0 : Nat) (he : ws[q0]? = some (a, .inl (rs_cy G 0, n, .inl f))) (j : Nat) (hj : i.toNatClampNeg = j) (hin : vp_in i n) (hd : decode cc pc = .ok (.iastore, 1)) (hn : pc + 1 = pd) (k2 : rs_Z G A nL p l e R s m args below meth c Q ce sl (ws.set q0 (a, .inl (rs_cy G 0, n, .inl (upd f j x)))) pd lv rest) : rs_Z G A nL p l e R s m args below meth c Q ce sl ws pc lv (.int x :: .int i :: .ref a :: rest) := by
  subst hn
  subst hj
  exact fun H locs ls hP hD hS hl => va_iast C.1 C.2.1 C.2.2.2.2.2.1.1.1 hP hD hS q0 0 he rfl hin hd (fun H1 locs1 hP1 hD1 hS1 => k2 H1 locs1 ls hP1 hD1 hS1 hl)
theorem rz_astq (C : rs_CZ G A cc nL own p s m args c) {a n v ci : Nat} {r : vw_C} {cA : ClassId} {vs : List Value} {f : Nat → Option Nat} {i : Int32} (q0 t0 : Nat) (he : ws[q0]? = some (a, .inl (cA, n, .inr (.inr (.inr (.inr f)))))) (ht : (rs_tys G)[t0]? = some (cA, .object r.1)) (hv : (v, Sum.inr (ci, vs)) ∈ ws) (hc : rs_cl[ci]? = some r) (j : Nat) (hj : i.toNatClampNeg = j) (hin : vp_in i n) (hd : decode cc pc = .ok (.aastore, 1)) (hn : pc + 1 = pd) (k2 : rs_Z G A nL p l e R s m args below meth c Q ce sl (ws.set q0 (a, .inl (cA, n, .inr (.inr (.inr (.inr (va_up f j (some v)))))))) pd lv rest) : rs_Z G A nL p l e R s m args below meth c Q ce sl ws pc lv (.ref v :: .int i :: .ref a :: rest) := by
  subst hn
  subst hj
  obtain ⟨qk, hqk⟩ := List.mem_iff_getElem?.mp hv
  exact fun H locs ls hP hD hS hl => va_astq C.1 C.2.1 C.2.2.2.2.2.1.1.1 hP hD hS q0 t0 qk ci he ht hqk hc hin hd (fun H1 locs1 hP1 hD1 hS1 => k2 H1 locs1 ls hP1 hD1 hS1 hl)
theorem rz_getsN (C : rs_CZ G A cc nL own p s m args c) {index : Nat} (i : Nat) (hi : i < 5) (hl0 : (own, index, rs_sn i) ∈ rs_nf) (hd : decode cc pc = .ok (.getstatic index, 3)) (hn : pc + 3 = pd) (k2 : rs_Z G A nL p l e R s m args below meth c Q ce sl ws pd lv (.ref (rs_tb G i) :: rest)) : rs_Z G A nL p l e R s m args below meth c Q ce sl ws pc lv rest := by
  subst hn
  exact fun H locs ls hP hD hS hl => va_getsN C.1 C.2.1 ((C.2.2.2.2.2.1.1.2.2.2.2.1 i hi).1.narrow C.2.2.2.2.2.2.2) hS C.2.2.2.1 (va_Nw.use rfl (C.2.2.2.2.2.1.1.2.2.1 _ hl0)) (fun x hx => hx) hd (k2 H locs ls hP hD hS hl)
theorem rz_copyT (C : rs_CZ G A cc nL own p s m args c) {index : Nat} (hl0 : Cond.methodLink own index arraycopyName ∈ rs_wg) {q b nb : Nat} {g : Nat → Int32} {sp dp n : Int32} (hq : q < 5) (q0 : Nat) (he : ws[q0]? = some (b, .inl (rs_cy G 0, nb, .inl g))) (i j d : Nat) (hi : sp.toNatClampNeg = i) (hj : dp.toNatClampNeg = j) (hdn : n.toNatClampNeg = d) (h1 : ¬ sp < 0) (h2 : ¬ dp < 0) (h3 : ¬ n < 0) (h4 : i + d ≤ 4) (h5 : j + d ≤ nb) (hfr : 1 ≤ R.frames) (hlo : (rest.map fun v => v.category).sum + (nativeFrameWords "java/lang/System" "arraycopy" 5 + 11) ≤ R.locals) (hd : decode cc pc = .ok (.invokestatic index, 3)) (hn : pc + 3 = pd) (k2 : rs_Z G A nL p l e R s m args below meth c Q ce sl (ws.set q0 (b, .inl (rs_cy G 0, nb, .inl (va_cpy (rs_sv q) g i j d)))) pd lv rest) : rs_Z G A nL p l e R s m args below meth c Q ce sl ws pc lv (.int n :: .int dp :: .ref b :: .int sp :: .ref (rs_tb G q) :: rest) := by
  subst hn
  subst hi
  subst hj
  subst hdn
  have hz := C.2.2.2.2.2.1.1.2.2.2.2.1 q hq
  exact fun H locs ls hP hD hS hl => va_copyx C.1 C.2.1 (C.2.2.1.trans hl.1.symm) C.2.2.2.1 (C.2.2.2.2.1 _ hl0) (C.2.2.2.2.1 _ wn_arraycopy) (C.2.2.2.2.1 _ ws_arraycopyName) (C.2.2.2.2.1 _ wn_J10) C.2.2.2.2.2.1.1.1 hP hD hS hz.2.1 (Nat.lt_of_lt_of_le hz.2.2 C.2.2.2.2.2.1.1.2.1) (fun z => Nat.not_le.mpr hz.2.2 (C.2.2.2.2.2.2.2 _ z)) q0 0 he rfl h1 h2 h3 h4 h5 hfr hlo hd (fun H1 locs1 hP1 hD1 hS1 => k2 H1 locs1 ls hP1 hD1 hS1 hl)
theorem rs_D_iff {A : Nat → Prop} {ws : va_W} : va_D A ws ↔ List.Pairwise (fun x y : Nat => x ≠ y) (ws.map Prod.fst) ∧ ∀ q ∈ ws, A q.1 := by
  constructor
  · intro h
    refine ⟨?_, fun q hq => ?_⟩
    · rw [List.pairwise_iff_getElem]
      intro i j hi hj hij he
      rw [List.length_map] at hi hj
      rw [List.getElem_map, List.getElem_map] at he
      have := h.1 i j _ _ (List.getElem?_eq_getElem hi) (List.getElem?_eq_getElem hj) he
      omega
    · obtain ⟨k, hk⟩ := List.mem_iff_getElem?.mp hq
      exact h.2 k q hk
  · intro h
    have hp := List.pairwise_iff_getElem.mp h.1
    refine ⟨fun i j x y hi hj e => ?_, fun k q hk => h.2 q (List.mem_of_getElem? hk)⟩
    obtain ⟨hi1, hi2⟩ := List.getElem?_eq_some_iff.mp hi
    obtain ⟨hj1, hj2⟩ := List.getElem?_eq_some_iff.mp hj
    rcases Nat.lt_trichotomy i j with z | z | z
    · refine absurd ?_ (hp i j (by rw [List.length_map]; exact hi1) (by rw [List.length_map]; exact hj1) z)
      rw [List.getElem_map, List.getElem_map, hi2, hj2]
      exact e
    · exact z
    · refine absurd ?_ (hp j i (by rw [List.length_map]; exact hj1) (by rw [List.length_map]; exact hi1) z)
      rw [List.getElem_map, List.getElem_map, hi2, hj2]
      exact e.symm
theorem rs_P_perm {D : va_G} {cl : List vw_C} {ws w2 : va_W} {H : Heap} (hp : ws.Perm w2) (h : va_P D cl ws H) : va_P D cl w2 H := by
  intro k q hk
  obtain ⟨j, hj⟩ := List.mem_iff_getElem?.mp (hp.mem_iff.mpr (List.mem_of_getElem? hk))
  exact h j q hj
theorem rs_D_perm {A : Nat → Prop} {ws w2 : va_W} (hp : ws.Perm w2) (h : va_D A ws) : va_D A w2 := by
  rw [rs_D_iff] at h ⊢
  exact ⟨(hp.map Prod.fst).pairwise h.1 (fun z => z.symm), fun q hq => h.2 q (hp.mem_iff.mpr hq)⟩
theorem rz_perm {w2 : va_W} (hp : ws.Perm w2) (k : rs_Z G A nL p l e R s m args below meth c Q ce sl w2 pc lv st) : rs_Z G A nL p l e R s m args below meth c Q ce sl ws pc lv st := fun H locs ls hP hD hS hl => k H locs ls (rs_P_perm hp hP) (rs_D_perm hp hD) hS hl
theorem rz_eq {w2 : va_W} (hp : ws = w2) (k : rs_Z G A nL p l e R s m args below meth c Q ce sl w2 pc lv st) : rs_Z G A nL p l e R s m args below meth c Q ce sl ws pc lv st := by
  subst hp
  exact k
theorem rz_subk {l2 : List (Nat × Value)} (k : rs_Z G A nL p l e R s m args below meth c Q ce sl ws pc l2 st) (h : rs_all lv l2) : rs_Z G A nL p l e R s m args below meth c Q ce sl ws pc lv st := fun H locs ls hP hD hS hl => k H locs ls hP hD hS (rs_all_has hl h)
theorem rs_pm1 {α : Type} (E O : List α) (x : α) : ((E ++ O) ++ [x]).Perm ((E ++ [x]) ++ O) := by
  rw [List.append_assoc, List.append_assoc]
  exact List.Perm.append_left E List.perm_append_comm
def rs_ip0 (G : rs_G) (q : Nat) (e0 : va_E) (sz : Nat) (U : State) : Prop := U.heap.size = sz ∧ va_P (rs_D0 G) rs_cl [(q, e0)] U.heap ∧ rs_kc G U ∧ rs_s0 G ≤ q
theorem rs_iblind (G : rs_G) (q : Nat) (e0 : va_E) (sz : Nat) (av : List Value) : FrameBlind (va_Pc av (rs_ip0 G q e0 sz)) := fun _ _ _ _ z => ⟨z.1, z.2.1, z.2.2.1, rs_kc_blind z.2.2.2.1, z.2.2.2.2⟩
abbrev rs_im (l : Launch) (y : MethodName) (b : ByteArray) (n : Nat) (G : rs_G) (q : Nat) (e0 : va_E) (w1 : (Nat → Nat) → va_W) (r : Nat) (mc ms d : Nat) : Prop := ∀ sz, Met l y (rs_wz y b n none) { frames := d, cells := mc, slots := ms, locals := 36 * d } (va_Pc [.ref q] (rs_ip0 G q e0 sz)) (va_Qv (fun b : Nat → Nat => b r = q) (fun b t => va_P (rs_D0 G) rs_cl (w1 b) t.heap ∧ va_D (va_A [(q, e0)] sz) (w1 b)) (va_A [(q, e0)] sz)) mc ms (va_A [(q, e0)] sz)
theorem rs_grow {D : va_G} {A : Nat → Prop} {ws w1 : va_W} {q : Nat} {e0 : va_E} {H H1 : Heap} (hP : va_P D rs_cl (ws ++ [(q, e0)]) H) (hD : va_D A (ws ++ [(q, e0)])) (hF : ∀ z, va_A [(q, e0)] H.size z → A z) (hk : ∀ z : Nat, z < H.size → ¬ va_A [(q, e0)] H.size z → H1[z]? = H[z]?) (hP1 : va_P D rs_cl w1 H1) (hD1 : va_D (va_A [(q, e0)] H.size) w1) : va_P D rs_cl (ws ++ w1) H1 ∧ va_D A (ws ++ w1) := by
  have hq : (ws ++ [(q, e0)])[ws.length]? = some (q, e0) := by rw [List.getElem?_append_right (Nat.le_refl _), Nat.sub_self]; rfl
  have hl : ∀ (k : Nat) (x : Nat × va_E), ws[k]? = some x → (ws ++ [(q, e0)])[k]? = some x := fun k x hx => by rw [List.getElem?_append_left (List.getElem?_eq_some_iff.mp hx).1]; exact hx
  have hn : ∀ (k : Nat) (x : Nat × va_E), ws[k]? = some x → x.1 < H.size ∧ ¬ va_A [(q, e0)] H.size x.1 := by
    intro k x hx
    have h1 := (hP k x (hl k x hx)).lt
    refine ⟨h1, fun z => ?_⟩
    rcases z with ⟨i, e1, hi⟩ | z
    · have hi0 : i < 1 := (List.getElem?_eq_some_iff.mp hi).1
      rw [show i = 0 by omega] at hi
      have e2 : (q, e0) = (x.1, e1) := Option.some.inj hi
      have := hD.1 k ws.length x (q, e0) (hl k x hx) hq (congrArg Prod.fst e2).symm
      have h3 := (List.getElem?_eq_some_iff.mp hx).1
      omega
    · omega
  have hPw : va_P D rs_cl ws H1 := fun k x hx => (hP k x (hl k x hx)).kept (hk x.1 (hn k x hx).1 (hn k x hx).2)
  have hDw : va_D A ws := ⟨fun i j x y hi hj => hD.1 i j x y (hl i x hi) (hl j y hj), fun k x hx => hD.2 k x (hl k x hx)⟩
  refine ⟨hPw.app hP1, hDw.app (hD1.weaken (fun _ _ _ h => hF _ h)) (fun i j x y hi hj e => ?_)⟩
  have := hD1.2 j y hj
  rw [← e] at this
  exact (hn i x hi).2 this
theorem rz_callI (C : rs_CZ G A cc nL own p s m args c) {y : MethodName} {b : ByteArray} {n index q r mc ms d : Nat} {e0 : va_E} {w1 : (Nat → Nat) → va_W} (hM : rs_im l y b n G q e0 w1 r mc ms d) (hl0 : Cond.methodLink own index y ∈ rs_wg) (hco : Cond.code y b n none ∈ rs_wg) (hini : Cond.initialized y.cls ∈ rs_wg) (hins : Cond.instanceMethod y ∈ rs_wg) (hyn : y.name = "<init>") (hy : y.cls ≠ "java/lang/invoke/MethodHandle" ∧ y.cls ≠ "java/lang/invoke/VarHandle" ∧ (parseMethodDescriptor y.desc).map (fun d => d.parameters.length) = some 0) (hR : d + 1 ≤ R.frames ∧ 8 + (n + 11) + 36 * d ≤ R.locals) (hsp : ce + mc ≤ R.cells ∧ sl + ms ≤ R.slots) (hst : (rest.map fun v => v.category).sum ≤ 8) (hd : decode cc pc = .ok (.invokespecial index, 3)) (hn : pc + 3 = pd) (k : ∀ b : Nat → Nat, b r = q → rs_Z G A nL p l e R s m args below meth c Q (ce + mc) (sl + ms) (ws ++ w1 b) pd lv rest) : rs_Z G A nL p l e R s m args below meth c Q ce sl (ws ++ [(q, e0)]) pc lv (.ref q :: rest) := by
  subst hn
  intro H locs ls hP hD hS hl
  have hq : (ws ++ [(q, e0)])[ws.length]? = some (q, e0) := by rw [List.getElem?_append_right (Nat.le_refl _), Nat.sub_self]; rfl
  have hAq : A q := hD.2 _ _ hq
  have hPc : va_P (rs_D0 G) rs_cl [(q, e0)] H := fun k x hx => by
    have hk : k < 1 := (List.getElem?_eq_some_iff.mp hx).1
    rw [show k = 0 by omega] at hx
    have e2 : (q, e0) = x := Option.some.inj hx
    rw [← e2]
    exact hP _ _ hq
  have hFc : ∀ z, va_A [(q, e0)] H.size z → A z := by
    intro z hz
    rcases hz with ⟨i, e1, hi⟩ | hz
    · have hi0 : i < 1 := (List.getElem?_eq_some_iff.mp hi).1
      rw [show i = 0 by omega] at hi
      have e2 : (q, e0) = (z, e1) := Option.some.inj hi
      have e3 : q = z := congrArg Prod.fst e2
      rw [← e3]
      exact hAq
    · exact C.2.2.2.2.2.2.1 z (Nat.le_trans hS.1 hz)
  refine va_callv (va_runI (As := []) (rest := rest) ⟨C.1, C.2.1, C.2.2.1, C.2.2.2.1, C.2.2.2.2.1⟩ (hM H.size) (cwI 0 C.2.2.2.2.1 (rs_goodz hco) rfl rfl rfl (C.2.2.2.2.1 _ hini) (C.2.2.2.2.1 _ hl0) (C.2.2.2.2.1 _ hins) hyn hy hR) ⟨rs_iblind G q e0 H.size _, fun U hU hW => ⟨rfl, by rw [hU], by rw [hU]; exact hPc, rs_kc_to C.2.2.2.2.2.1 C.2.2.2.2.2.2.2 hS hU hW, C.2.2.2.2.2.2.2 q hAq⟩⟩ rfl rfl hl.1 rfl (lv_room hst) hd hsp) hS (fun z _ h => hFc z h) hFc (fun u t H1 locs1 ht hvm hw hB hz1 hk1 hS1 => ?_)
  obtain ⟨hP1, hD1⟩ := hB
  rw [ht] at hP1
  obtain ⟨hP2, hD2⟩ := rs_grow hP hD hFc hk1 hP1 hD1
  exact k u hw H1 locs1 ls hP2 hD2 hS1 hl
theorem rz_callIN (C : rs_CZ G A cc nL own p s m args c) {y : MethodName} {b : ByteArray} {n index q r mc ms d : Nat} {e0 : va_E} {w1 : (Nat → Nat) → va_W} (hM : rs_im l y b n G q e0 w1 r mc ms d) (hl0 : va_Nw (.methodLinkNest own index y RX4) s) (hco : Cond.code y b n none ∈ rs_wg) (hini : Cond.initialized y.cls ∈ rs_wg) (hins : Cond.instanceMethod y ∈ rs_wg) (hyn : y.name = "<init>") (hy : y.cls ≠ "java/lang/invoke/MethodHandle" ∧ y.cls ≠ "java/lang/invoke/VarHandle" ∧ (parseMethodDescriptor y.desc).map (fun d => d.parameters.length) = some 0) (hR : d + 1 ≤ R.frames ∧ 8 + (n + 11) + 36 * d ≤ R.locals) (hsp : ce + mc ≤ R.cells ∧ sl + ms ≤ R.slots) (hst : (rest.map fun v => v.category).sum ≤ 8) (hd : decode cc pc = .ok (.invokespecial index, 3)) (hn : pc + 3 = pd) (k : ∀ b : Nat → Nat, b r = q → rs_Z G A nL p l e R s m args below meth c Q (ce + mc) (sl + ms) (ws ++ w1 b) pd lv rest) : rs_Z G A nL p l e R s m args below meth c Q ce sl (ws ++ [(q, e0)]) pc lv (.ref q :: rest) := by
  subst hn
  intro H locs ls hP hD hS hl
  have hq : (ws ++ [(q, e0)])[ws.length]? = some (q, e0) := by rw [List.getElem?_append_right (Nat.le_refl _), Nat.sub_self]; rfl
  have hAq : A q := hD.2 _ _ hq
  have hPc : va_P (rs_D0 G) rs_cl [(q, e0)] H := fun k x hx => by
    have hk : k < 1 := (List.getElem?_eq_some_iff.mp hx).1
    rw [show k = 0 by omega] at hx
    have e2 : (q, e0) = x := Option.some.inj hx
    rw [← e2]
    exact hP _ _ hq
  have hFc : ∀ z, va_A [(q, e0)] H.size z → A z := by
    intro z hz
    rcases hz with ⟨i, e1, hi⟩ | hz
    · have hi0 : i < 1 := (List.getElem?_eq_some_iff.mp hi).1
      rw [show i = 0 by omega] at hi
      have e2 : (q, e0) = (z, e1) := Option.some.inj hi
      have e3 : q = z := congrArg Prod.fst e2
      rw [← e3]
      exact hAq
    · exact C.2.2.2.2.2.2.1 z (Nat.le_trans hS.1 hz)
  refine va_callv (va_runIN (As := []) (rest := rest) ⟨C.1, C.2.1, C.2.2.1, C.2.2.2.1, C.2.2.2.2.1⟩ (hM H.size) (⟨va_cnB 0 C.2.2.2.2.1 (rs_goodz hco) rfl rfl rfl hl0 (C.2.2.2.2.1 _ hini) hy hR, hyn, C.2.2.2.2.1 _ hins⟩) ⟨rs_iblind G q e0 H.size _, fun U hU hW => ⟨rfl, by rw [hU], by rw [hU]; exact hPc, rs_kc_to C.2.2.2.2.2.1 C.2.2.2.2.2.2.2 hS hU hW, C.2.2.2.2.2.2.2 q hAq⟩⟩ rfl rfl hl.1 rfl (lv_room hst) hd hsp) hS (fun z _ h => hFc z h) hFc (fun u t H1 locs1 ht hvm hw hB hz1 hk1 hS1 => ?_)
  obtain ⟨hP1, hD1⟩ := hB
  rw [ht] at hP1
  obtain ⟨hP2, hD2⟩ := rs_grow hP hD hFc hk1 hP1 hD1
  exact k u hw H1 locs1 ls hP2 hD2 hS1 hl
theorem rz_vret (C : rs_CZ G A cc nL own p s m args c) {b : Nat → Nat} {q r : Nat} {w1 : (Nat → Nat) → va_W} (hr : meth.sig.returnType = none) (hlk : meth.locks = false) (hb : b r = q) (hw : ws.Perm (w1 b)) (hd : decode cc pc = .ok (.return_, 1)) : rs_Z G A nL p l e R s m args below meth c (MQ below (va_Qv (fun b : Nat → Nat => b r = q) (fun b t => va_P (rs_D0 G) rs_cl (w1 b) t.heap ∧ va_D A (w1 b)) A) args s ce sl A) ce sl ws pc lv [] := by
  intro H locs ls hP hD hS hl
  exact W.vret C.1 C.2.1 hr (fun t ht hW => ⟨⟨b, rfl, hb, by rw [ht]; exact rs_P_perm hw hP, rs_D_perm hw hD⟩, hS.F ht⟩) hS.2.2 hd hlk
end rsZ
theorem rs_imet {l : Launch} {y : MethodName} {cc : ByteArray} {maxL q r mc ms d : Nat} {G : rs_G} {e0 : va_E} {w1 : (Nat → Nat) → va_W} (hy : plainName y.cls = true) (hyn : y.name = "<init>") (hav : 1 ≤ maxL) (body : ∀ (sz : Nat) (p : Program) (e : Env) (s : State) (m : MethodId) (args : Array Value) (below : List Frame) (meth : Method) (c : Code), rs_CZ G (va_A [(q, e0)] sz) cc maxL y.cls p s m args c → meth.sig.returnType = none → meth.locks = false → meth.name = "<init>" → rs_Z G (va_A [(q, e0)] sz) maxL p l e { frames := d, cells := mc, slots := ms, locals := 36 * d } s m args below meth c (MQ below (va_Qv (fun b : Nat → Nat => b r = q) (fun b t => va_P (rs_D0 G) rs_cl (w1 b) t.heap ∧ va_D (va_A [(q, e0)] sz) (w1 b)) (va_A [(q, e0)] sz)) args s mc ms (va_A [(q, e0)] sz)) 0 0 [(q, e0)] 0 [(0, .ref q)] []) : rs_im l y cc maxL G q e0 w1 r mc ms d := by
  intro sz
  refine Met.ofW (cc := cc) (maxL := maxL) (ret := none) hy rfl ?_
  intro p e s m args below meth c s₁ B hml hv
  obtain ⟨rfl, rfl, hP, hK, hq⟩ := hv
  have hts := atoms_spec (ws := rs_wz y cc maxL none) B.pre
  have hl := lv_entry [Value.ref q] (n := maxL) (by show 1 ≤ maxL; exact hav)
  rw [lg_entry_eq]
  refine body s.heap.size p e s m _ below meth c ⟨B.exec, B.bytes, hml, findClass_of_methodNamed B.named, fun w hw => hts w (List.mem_cons_of_mem _ hw), hK, fun q h => Or.inr h, fun z hz => ?_⟩ B.returns B.notSynchronized ((name_of_methodNamed B.named B.method).1.trans hyn) s.heap [] _ hP ?_ va_S.rf hl
  · rcases hz with ⟨i, e1, hi⟩ | hz
    · have hi0 : i < 1 := (List.getElem?_eq_some_iff.mp hi).1
      rw [show i = 0 by omega] at hi
      have e2 : (q, e0) = (z, e1) := Option.some.inj hi
      have e3 : q = z := congrArg Prod.fst e2
      rw [← e3]
      exact hq
    · exact Nat.le_trans hK.1.2.1 hz
  · refine ⟨fun i j x y hi hj _ => ?_, fun k x hx => Or.inl ⟨k, x.2, hx⟩⟩
    have hi0 : i < 1 := (List.getElem?_eq_some_iff.mp hi).1
    have hj0 : j < 1 := (List.getElem?_eq_some_iff.mp hj).1
    omega
