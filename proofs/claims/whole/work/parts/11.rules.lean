/-! the words: the good ones of the tables; what else a state must say -/
def rs_wg : List Cond := lw_tbl.filter goodWord
def rs_wz (y : MethodName) (b : ByteArray) (n : Nat) (r : Option FieldType) : List Cond := .code y b n r :: rs_wg
def rs_nf : List (String × Nat × String) := [(RX1, 34, "RULE_FIRST"), (RX3, 60, "PART_LEAST"), (RX3, 64, "PART_MOST"), (RX3, 75, "RULE_LEAST"), (RX3, 78, "RULE_MOST")]
def rs_nm : List (String × Nat × MethodName) := [(RX3, 84, yX4_outside), (RX0, 24, yX4_isPart)]
def rs_sn (i : Nat) : String := ["PART_LEAST", "PART_MOST", "RULE_LEAST", "RULE_MOST", "RULE_FIRST"].getD i ""
def rs_sv (i : Nat) : Nat → Int32 := fun j => (([[0, 1, 1, 0], [3, 9, 12, 11], [1, 0, 1, 1], [8, 9, 20, 60], [4, 2, 4, 20]] : List (List Int32)).getD i []).getD j 0
def rs_tx (i : Nat) : String := ["steady", "blink", "saw", "pair", "rows", "delay", "expose", "pace"].getD i ""
def rs_tl : List Nat := [6, 5, 3, 4, 4, 5, 6, 4]
def rs_tv : List (List Int32) := [[115, 116, 101, 97, 100, 121], [98, 108, 105, 110, 107], [115, 97, 119], [112, 97, 105, 114], [114, 111, 119, 115], [100, 101, 108, 97, 121], [101, 120, 112, 111, 115, 101], [112, 97, 99, 101]]
def rs_ks (G : rs_G) (U : State) : Prop := (∀ i, i < 8 → vk_R RX3 (108 + 2 * i) (rs_tx i) (rs_tb G (5 + i)) U) ∧ vk_S 8 rs_tl rs_tv (fun i => rs_tb G (5 + i)) (fun i => rs_tb G (13 + i)) (rs_A G) U U.heap ∧ va_Z "java/lang/String" "COMPACT_STRINGS" "Z" (.int 1) (rs_A G) U U.heap ∧ va_Zq "jdk/internal/util/Preconditions" "SIOOBE_FORMATTER" "Ljava/util/function/BiFunction;" (rs_A G) U U.heap
def rs_kf (G : rs_G) (U : State) : Prop := va_K (rs_D0 G) rs_cl (rs_tys G) U ∧ rs_s0 G ≤ U.heap.size ∧ (∀ q ∈ rs_nf, va_Nw (.fieldLinkNest q.1 q.2.1 RX4 q.2.2 "[I" RX4) U) ∧ (∀ q ∈ rs_nm, va_Nw (.methodLinkNest q.1 q.2.1 q.2.2 RX4) U) ∧ (∀ i, i < 5 → va_Z RX4 (rs_sn i) "[I" (.ref (rs_tb G i)) (rs_A G) U U.heap ∧ va_X (rs_tb G i) 4 (rs_sv i) U U.heap ∧ rs_tb G i < rs_s0 G) ∧ rs_ks G U
theorem rs_kf_to {G : rs_G} {s U : State} {H : Heap} {locs : List Loc} (h : rs_kf G s) (hS : va_S (rs_A G) s.heap H locs) (hU : U.heap = H) (hW : s.WarmedH U.vm) : rs_kf G U := by
  obtain ⟨h1, h2, h3, h4, h5, h6, h7, h8, h9⟩ := h
  have hvm := hW.alike
  have hq : ∀ a : Nat, a < s.heap.size → ¬ rs_A G a → H[a]? = s.heap[a]? := hS.2.1
  subst hU
  refine ⟨va_K.moved hvm h1, Nat.le_trans h2 hS.1, fun q hq => (h3 q hq).warmF hW, fun q hq => (h4 q hq).warmM hW, fun i hi => ?_, fun i hi => (h6 i hi).warm hW, (vk_S.moved hvm h7).kept hq, (va_Z.moved hvm h8).kept hq, (va_Zq.moved hvm h9).kept hq⟩
  obtain ⟨a1, a2, a3⟩ := h5 i hi
  exact ⟨(va_Z.moved hvm a1).kept hq, (va_X.moved hvm a2).kept (hq _ (Nat.lt_of_lt_of_le a3 h2) (Nat.not_le.mpr a3)), a3⟩
theorem rs_kf_blind {G : rs_G} {U : State} {g : JFrame} {mk : MethodId} {a : Array Value} (h : rs_kf G U) : rs_kf G (U.calling g mk a) := by
  obtain ⟨h1, h2, h3, h4, h5, h6, h7, h8, h9⟩ := h
  have hvm : U.vm.Alike (U.calling g mk a).vm := Vm.Alike.refl U.vm
  refine ⟨va_K.moved hvm h1, h2, fun q hq => (h3 q hq).same rfl rfl, fun q hq => (h4 q hq).same rfl rfl, fun i hi => ⟨va_Z.moved hvm (h5 i hi).1, va_X.moved hvm (h5 i hi).2.1, (h5 i hi).2.2⟩, fun i hi => (h6 i hi).same rfl, vk_S.moved hvm h7, va_Z.moved hvm h8, va_Zq.moved hvm h9⟩
def rs_pre (G : rs_G) (S : rs_St) (U : State) : Prop := va_P (rs_D0 G) rs_cl (rs_ww G S) U.heap ∧ rs_kf G U
def rs_post (G : rs_G) (S : rs_St) (t : State) : Prop := va_P (rs_D0 G) rs_cl (rs_ww G S) t.heap
theorem rs_blind (G : rs_G) (S : rs_St) (av : List Value) : FrameBlind (va_Pc av (rs_pre G S)) := fun _ _ _ _ q => ⟨q.1, q.2.1, rs_kf_blind q.2.2⟩
/-! locals -/
def rs_at : List (Nat × Value) → Nat → Option Value
  | [], _ => none
  | q :: t, i => bif Nat.beq q.1 i then some q.2 else rs_at t i
theorem rs_at_mem : ∀ {lv : List (Nat × Value)} {i : Nat} {v : Value}, rs_at lv i = some v → (i, v) ∈ lv
  | [], _, _, h => by cases h
  | q :: t, i, v, h => by
    unfold rs_at at h
    cases hb : Nat.beq q.1 i with
    | true =>
      rw [hb] at h
      have e : q.1 = i := Nat.eq_of_beq_eq_true hb
      have e2 : q.2 = v := Option.some.inj h
      rw [← e, ← e2]
      exact List.mem_cons_self
    | false =>
      rw [hb] at h
      exact List.mem_cons_of_mem _ (rs_at_mem h)
theorem rs_at_has {ls : Array Slot} {nL : Nat} {lv : List (Nat × Value)} {i : Nat} {v : Value} (h : lv_has ls nL lv) (ha : rs_at lv i = some v) : ls[i]? = some (.val v) := h.2.2 (i, v) (rs_at_mem ha)
def rs_set (lv : List (Nat × Value)) (i : Nat) (v : Value) : List (Nat × Value) := (i, v) :: lv.filter (fun q => !(q.1 == i) && !(q.1 + 1 == i && q.2.category == 2))
def rs_set2 (lv : List (Nat × Value)) (i : Nat) (v : Value) : List (Nat × Value) := (i, v) :: lv.filter (fun q => !(q.1 == i) && (!(q.1 == i + 1) && !(q.1 + 1 == i && q.2.category == 2)))
def rs_all (lv : List (Nat × Value)) : List (Nat × Value) → Prop
  | [] => True
  | q :: t => rs_at lv q.1 = some q.2 ∧ rs_all lv t
theorem rs_all_has {ls : Array Slot} {nL : Nat} {lv : List (Nat × Value)} (h : lv_has ls nL lv) : ∀ {l2 : List (Nat × Value)}, rs_all lv l2 → lv_has ls nL l2
  | [], _ => ⟨h.1, h.2.1, fun _ q => by cases q⟩
  | q :: t, ha => by
    refine ⟨h.1, h.2.1, fun z hz => ?_⟩
    rcases List.mem_cons.mp hz with e | e
    · rw [e]
      exact rs_at_has h ha.1
    · exact (rs_all_has h ha.2).2.2 z e
/-! the judgement, without heap and slots -/
def rs_X (G : rs_G) (nL : Nat) (p : Program) (l : Launch) (e : Env) (R : Room) (s : State) (m : MethodId) (args : Array Value) (below : List Frame) (meth : Method) (c : Code) (Q : State → Prop) (S : rs_St) (pc : Nat) (lv : List (Nat × Value)) (st : List Value) : Prop := ∀ (H : Heap) (locs : List Loc) (ls : Array Slot), va_P (rs_D0 G) rs_cl (rs_ww G S) H → va_S (rs_A G) s.heap H locs → lv_has ls nL lv → W p l e R s m args below meth c H locs 0 0 Q (F0 m pc ls st)
def rs_C (G : rs_G) (cc : ByteArray) (nL : Nat) (own : String) (p : Program) (s : State) (m : MethodId) (args : Array Value) (c : Code) : Prop := p.tables.exec = Jvm.exec ∧ c.code = cc ∧ c.maxLocals = nL ∧ s.vm.findClass own = some m.cls ∧ (∀ w ∈ rs_wg, w.before args s = true) ∧ rs_kf G s ∧ rs_ok G
theorem rs_ip {α : Sort _} {c : Prop} [d : Decidable c] {a b : α} {P : α → Prop} (hc : c) (h : P (if c then a else b)) : P a := by rw [if_pos hc] at h; exact h
theorem rs_it {α : Type} {c : Prop} [d : Decidable c] {a b : Option α} {o : Option α} (hc : c) (h : (if c then a else b) = o) : a = o := by rw [if_pos hc] at h; exact h
theorem rs_if {α : Type} {c : Prop} [d : Decidable c] {a b : Option α} {o : Option α} (hc : ¬ c) (h : (if c then a else b) = o) : b = o := by rw [if_neg hc] at h; exact h
theorem rs_ck {α : Type} {c : Prop} [d : Decidable c] {b : Option α} {o : α} (h : (if c then none else b) = some o) : ¬ c ∧ b = some o := by
  by_cases hc : c
  · rw [if_pos hc] at h; cases h
  · rw [if_neg hc] at h; exact ⟨hc, h⟩
theorem rs_ckp {α : Type} {c : Prop} [d : Decidable c] {b : Option α} {o : α} (h : (if c then b else none) = some o) : c ∧ b = some o := by
  by_cases hc : c
  · rw [if_pos hc] at h; exact ⟨hc, h⟩
  · rw [if_neg hc] at h; cases h
theorem rs_bd {α β : Type} {x : Option α} {f : α → Option β} {o : β} (h : x.bind f = some o) : ∃ a, x = some a ∧ f a = some o := Option.bind_eq_some_iff.mp h
section rsRules
variable {G : rs_G} {cc : ByteArray} {nL : Nat} {own : String} {p : Program} {l : Launch} {e : Env} {R : Room} {s : State} {m : MethodId} {args : Array Value} {below : List Frame} {meth : Method} {c : Code} {Q : State → Prop} {S : rs_St} {pc pd : Nat} {lv : List (Nat × Value)} {st rest : List Value}
theorem rs_iconst (C : rs_C G cc nL own p s m args c) {n : Int} {v : Int32} (hd : decode cc pc = .ok (.iconst n, 1)) (hv : Int32.ofInt n = v) (hn : pc + 1 = pd) (k : rs_X G nL p l e R s m args below meth c Q S pd lv (.int v :: rest)) : rs_X G nL p l e R s m args below meth c Q S pc lv (rest) := by
  subst hn
  exact fun H locs ls hP hS hl => lv_iconst C.1 C.2.1 hd hv (k H locs ls hP hS hl)
theorem rs_bipush (C : rs_C G cc nL own p s m args c) {n : Int} {v : Int32} (hd : decode cc pc = .ok (.bipush n, 2)) (hv : (Int8.ofInt n).toInt32 = v) (hn : pc + 2 = pd) (k : rs_X G nL p l e R s m args below meth c Q S pd lv (.int v :: rest)) : rs_X G nL p l e R s m args below meth c Q S pc lv (rest) := by
  subst hn
  exact fun H locs ls hP hS hl => lv_bipush C.1 C.2.1 hd hv (k H locs ls hP hS hl)
theorem rs_sipush (C : rs_C G cc nL own p s m args c) {n : Int} {v : Int32} (hd : decode cc pc = .ok (.sipush n, 3)) (hv : (Int16.ofInt n).toInt32 = v) (hn : pc + 3 = pd) (k : rs_X G nL p l e R s m args below meth c Q S pd lv (.int v :: rest)) : rs_X G nL p l e R s m args below meth c Q S pc lv (rest) := by
  subst hn
  exact fun H locs ls hP hS hl => lv_sipush C.1 C.2.1 hd hv (k H locs ls hP hS hl)
theorem rs_lconst (C : rs_C G cc nL own p s m args c) {n : Fin 2} {v : Int64} (hd : decode cc pc = .ok (.lconst n, 1)) (hv : Int64.ofNat (n : Nat) = v) (hn : pc + 1 = pd) (k : rs_X G nL p l e R s m args below meth c Q S pd lv (.long v :: rest)) : rs_X G nL p l e R s m args below meth c Q S pc lv (rest) := by
  subst hn
  exact fun H locs ls hP hS hl => lv_lconst C.1 C.2.1 hd hv (k H locs ls hP hS hl)
theorem rs_ldc (C : rs_C G cc nL own p s m args c) {index : Nat} {v : Int32} (hd : decode cc pc = .ok (.ldc index, 2)) (hw : Cond.constant own index v ∈ rs_wg) (hn : pc + 2 = pd) (k : rs_X G nL p l e R s m args below meth c Q S pd lv (.int v :: rest)) : rs_X G nL p l e R s m args below meth c Q S pc lv (rest) := by
  subst hn
  exact fun H locs ls hP hS hl => lv_ldc C.1 C.2.1 C.2.2.2.1 (C.2.2.2.2.1 _ hw) hd (k H locs ls hP hS hl)
theorem rs_ldcw (C : rs_C G cc nL own p s m args c) {index : Nat} {v : Int32} (hd : decode cc pc = .ok (.ldc_w index, 3)) (hw : Cond.constant own index v ∈ rs_wg) (hn : pc + 3 = pd) (k : rs_X G nL p l e R s m args below meth c Q S pd lv (.int v :: rest)) : rs_X G nL p l e R s m args below meth c Q S pc lv (rest) := by
  subst hn
  exact fun H locs ls hP hS hl => lv_ldcw C.1 C.2.1 C.2.2.2.1 (C.2.2.2.2.1 _ hw) hd (k H locs ls hP hS hl)
theorem rs_ldc2 (C : rs_C G cc nL own p s m args c) {index : Nat} {v : Int64} (hd : decode cc pc = .ok (.ldc2_w index, 3)) (hw : Cond.constantLong own index v ∈ rs_wg) (hn : pc + 3 = pd) (k : rs_X G nL p l e R s m args below meth c Q S pd lv (.long v :: rest)) : rs_X G nL p l e R s m args below meth c Q S pc lv (rest) := by
  subst hn
  exact fun H locs ls hP hS hl => lv_ldc2 C.1 C.2.1 C.2.2.2.1 (C.2.2.2.2.1 _ hw) hd (k H locs ls hP hS hl)
theorem rs_null (C : rs_C G cc nL own p s m args c)  (hd : decode cc pc = .ok (.aconst_null, 1)) (hn : pc + 1 = pd) (k : rs_X G nL p l e R s m args below meth c Q S pd lv (.null :: rest)) : rs_X G nL p l e R s m args below meth c Q S pc lv (rest) := by
  subst hn
  exact fun H locs ls hP hS hl => lv_null C.1 C.2.1 hd (k H locs ls hP hS hl)
theorem rs_iload_n (C : rs_C G cc nL own p s m args c) {k0 : Fin 4} {i : Nat} {x : Int32} (hd : decode cc pc = .ok (.iload_n k0, 1)) (hi : (k0 : Nat) = i) (ha : rs_at lv i = some (.int x)) (hn : pc + 1 = pd) (k : rs_X G nL p l e R s m args below meth c Q S pd lv (.int x :: rest)) : rs_X G nL p l e R s m args below meth c Q S pc lv (rest) := by
  subst hn
  exact fun H locs ls hP hS hl => lv_iload_n C.1 C.2.1 hd hi (rs_at_has hl ha) (k H locs ls hP hS hl)
theorem rs_iload (C : rs_C G cc nL own p s m args c) {i : Nat} {x : Int32} (hd : decode cc pc = .ok (.iload i, 2)) (ha : rs_at lv i = some (.int x)) (hn : pc + 2 = pd) (k : rs_X G nL p l e R s m args below meth c Q S pd lv (.int x :: rest)) : rs_X G nL p l e R s m args below meth c Q S pc lv (rest) := by
  subst hn
  exact fun H locs ls hP hS hl => lv_iload C.1 C.2.1 hd (rs_at_has hl ha) (k H locs ls hP hS hl)
theorem rs_lload_n (C : rs_C G cc nL own p s m args c) {k0 : Fin 4} {i : Nat} {x : Int64} (hd : decode cc pc = .ok (.lload_n k0, 1)) (hi : (k0 : Nat) = i) (ha : rs_at lv i = some (.long x)) (hn : pc + 1 = pd) (k : rs_X G nL p l e R s m args below meth c Q S pd lv (.long x :: rest)) : rs_X G nL p l e R s m args below meth c Q S pc lv (rest) := by
  subst hn
  exact fun H locs ls hP hS hl => lv_lload_n C.1 C.2.1 hd hi (rs_at_has hl ha) (k H locs ls hP hS hl)
theorem rs_lload (C : rs_C G cc nL own p s m args c) {i : Nat} {x : Int64} (hd : decode cc pc = .ok (.lload i, 2)) (ha : rs_at lv i = some (.long x)) (hn : pc + 2 = pd) (k : rs_X G nL p l e R s m args below meth c Q S pd lv (.long x :: rest)) : rs_X G nL p l e R s m args below meth c Q S pc lv (rest) := by
  subst hn
  exact fun H locs ls hP hS hl => lv_lload C.1 C.2.1 hd (rs_at_has hl ha) (k H locs ls hP hS hl)
theorem rs_aload_n (C : rs_C G cc nL own p s m args c) {k0 : Fin 4} {i : Nat} {x : Nat} (hd : decode cc pc = .ok (.aload_n k0, 1)) (hi : (k0 : Nat) = i) (ha : rs_at lv i = some (.ref x)) (hn : pc + 1 = pd) (k : rs_X G nL p l e R s m args below meth c Q S pd lv (.ref x :: rest)) : rs_X G nL p l e R s m args below meth c Q S pc lv (rest) := by
  subst hn
  exact fun H locs ls hP hS hl => lv_aload_n C.1 C.2.1 hd hi (rs_at_has hl ha) (k H locs ls hP hS hl)
theorem rs_aload (C : rs_C G cc nL own p s m args c) {i : Nat} {x : Nat} (hd : decode cc pc = .ok (.aload i, 2)) (ha : rs_at lv i = some (.ref x)) (hn : pc + 2 = pd) (k : rs_X G nL p l e R s m args below meth c Q S pd lv (.ref x :: rest)) : rs_X G nL p l e R s m args below meth c Q S pc lv (rest) := by
  subst hn
  exact fun H locs ls hP hS hl => lv_aload C.1 C.2.1 hd (rs_at_has hl ha) (k H locs ls hP hS hl)
theorem rs_istore_n (C : rs_C G cc nL own p s m args c) {k0 : Fin 4} {i : Nat} {x : Int32} (hd : decode cc pc = .ok (.istore_n k0, 1)) (hi : (k0 : Nat) = i) (hb : i < nL) (hn : pc + 1 = pd) (k : rs_X G nL p l e R s m args below meth c Q S pd (rs_set lv i (.int x)) rest) : rs_X G nL p l e R s m args below meth c Q S pc lv (.int x :: rest) := by
  subst hn
  exact fun H locs ls hP hS hl => lv_istore_n C.1 C.2.1 hd hi hl hb rfl (fun ls2 hl2 => k H locs ls2 hP hS hl2)
theorem rs_istore (C : rs_C G cc nL own p s m args c) {i : Nat} {x : Int32} (hd : decode cc pc = .ok (.istore i, 2)) (hb : i < nL) (hn : pc + 2 = pd) (k : rs_X G nL p l e R s m args below meth c Q S pd (rs_set lv i (.int x)) rest) : rs_X G nL p l e R s m args below meth c Q S pc lv (.int x :: rest) := by
  subst hn
  exact fun H locs ls hP hS hl => lv_istore C.1 C.2.1 hd hl hb rfl (fun ls2 hl2 => k H locs ls2 hP hS hl2)
theorem rs_astore_n (C : rs_C G cc nL own p s m args c) {k0 : Fin 4} {i : Nat} {x : Nat} (hd : decode cc pc = .ok (.astore_n k0, 1)) (hi : (k0 : Nat) = i) (hb : i < nL) (hn : pc + 1 = pd) (k : rs_X G nL p l e R s m args below meth c Q S pd (rs_set lv i (.ref x)) rest) : rs_X G nL p l e R s m args below meth c Q S pc lv (.ref x :: rest) := by
  subst hn
  exact fun H locs ls hP hS hl => lv_astore_n C.1 C.2.1 hd hi hl hb rfl (fun ls2 hl2 => k H locs ls2 hP hS hl2)
theorem rs_astore (C : rs_C G cc nL own p s m args c) {i : Nat} {x : Nat} (hd : decode cc pc = .ok (.astore i, 2)) (hb : i < nL) (hn : pc + 2 = pd) (k : rs_X G nL p l e R s m args below meth c Q S pd (rs_set lv i (.ref x)) rest) : rs_X G nL p l e R s m args below meth c Q S pc lv (.ref x :: rest) := by
  subst hn
  exact fun H locs ls hP hS hl => lv_astore C.1 C.2.1 hd hl hb rfl (fun ls2 hl2 => k H locs ls2 hP hS hl2)
theorem rs_lstore_n (C : rs_C G cc nL own p s m args c) {k0 : Fin 4} {i : Nat} {x : Int64} (hd : decode cc pc = .ok (.lstore_n k0, 1)) (hi : (k0 : Nat) = i) (hb : i + 1 < nL) (hn : pc + 1 = pd) (k : rs_X G nL p l e R s m args below meth c Q S pd (rs_set2 lv i (.long x)) rest) : rs_X G nL p l e R s m args below meth c Q S pc lv (.long x :: rest) := by
  subst hn
  exact fun H locs ls hP hS hl => lv_lstore_n C.1 C.2.1 hd hi hl hb rfl (fun ls2 hl2 => k H locs ls2 hP hS hl2)
theorem rs_lstore (C : rs_C G cc nL own p s m args c) {i : Nat} {x : Int64} (hd : decode cc pc = .ok (.lstore i, 2)) (hb : i + 1 < nL) (hn : pc + 2 = pd) (k : rs_X G nL p l e R s m args below meth c Q S pd (rs_set2 lv i (.long x)) rest) : rs_X G nL p l e R s m args below meth c Q S pc lv (.long x :: rest) := by
  subst hn
  exact fun H locs ls hP hS hl => lv_lstore C.1 C.2.1 hd hl hb rfl (fun ls2 hl2 => k H locs ls2 hP hS hl2)
theorem rs_iinc_aux {lv : List (Nat × Value)} {i : Nat} {x : Int32} (h : rs_at lv i = some (.int x)) : ∃ k : Nat, lv[k]? = some (i, .int x) := List.mem_iff_getElem?.mp (rs_at_mem h)
theorem rs_iinc (C : rs_C G cc nL own p s m args c) {i : Nat} {n : Int} {x v : Int32} (hd : decode cc pc = .ok (.iinc i n, 3)) (ha : rs_at lv i = some (.int x)) (hv : Int32.ofInt n = v) (hb : i < nL) (hn : pc + 3 = pd) (k : rs_X G nL p l e R s m args below meth c Q S pd (rs_set lv i (.int (x + v))) rest) : rs_X G nL p l e R s m args below meth c Q S pc lv rest := by
  subst hn
  subst hv
  obtain ⟨q, hq⟩ := rs_iinc_aux ha
  exact fun H locs ls hP hS hl => lv_iinc C.1 C.2.1 hd hl hq rfl hb rfl (fun ls2 hl2 => k H locs ls2 hP hS hl2)
theorem rs_iadd (C : rs_C G cc nL own p s m args c) {x y : Int32} (hd : decode cc pc = .ok (.iadd, 1)) (hn : pc + 1 = pd) (k : rs_X G nL p l e R s m args below meth c Q S pd lv (.int (x + y) :: rest)) : rs_X G nL p l e R s m args below meth c Q S pc lv (.int y :: .int x :: rest) := by
  subst hn
  exact fun H locs ls hP hS hl => lv_iadd C.1 C.2.1 hd (k H locs ls hP hS hl)
theorem rs_isub (C : rs_C G cc nL own p s m args c) {x y : Int32} (hd : decode cc pc = .ok (.isub, 1)) (hn : pc + 1 = pd) (k : rs_X G nL p l e R s m args below meth c Q S pd lv (.int (x - y) :: rest)) : rs_X G nL p l e R s m args below meth c Q S pc lv (.int y :: .int x :: rest) := by
  subst hn
  exact fun H locs ls hP hS hl => lv_isub C.1 C.2.1 hd (k H locs ls hP hS hl)
theorem rs_imul (C : rs_C G cc nL own p s m args c) {x y : Int32} (hd : decode cc pc = .ok (.imul, 1)) (hn : pc + 1 = pd) (k : rs_X G nL p l e R s m args below meth c Q S pd lv (.int (x * y) :: rest)) : rs_X G nL p l e R s m args below meth c Q S pc lv (.int y :: .int x :: rest) := by
  subst hn
  exact fun H locs ls hP hS hl => lv_imul C.1 C.2.1 hd (k H locs ls hP hS hl)
theorem rs_iand (C : rs_C G cc nL own p s m args c) {x y : Int32} (hd : decode cc pc = .ok (.iand, 1)) (hn : pc + 1 = pd) (k : rs_X G nL p l e R s m args below meth c Q S pd lv (.int (x &&& y) :: rest)) : rs_X G nL p l e R s m args below meth c Q S pc lv (.int y :: .int x :: rest) := by
  subst hn
  exact fun H locs ls hP hS hl => lv_iand C.1 C.2.1 hd (k H locs ls hP hS hl)
theorem rs_ior (C : rs_C G cc nL own p s m args c) {x y : Int32} (hd : decode cc pc = .ok (.ior, 1)) (hn : pc + 1 = pd) (k : rs_X G nL p l e R s m args below meth c Q S pd lv (.int (x ||| y) :: rest)) : rs_X G nL p l e R s m args below meth c Q S pc lv (.int y :: .int x :: rest) := by
  subst hn
  exact fun H locs ls hP hS hl => lv_ior C.1 C.2.1 hd (k H locs ls hP hS hl)
theorem rs_ixor (C : rs_C G cc nL own p s m args c) {x y : Int32} (hd : decode cc pc = .ok (.ixor, 1)) (hn : pc + 1 = pd) (k : rs_X G nL p l e R s m args below meth c Q S pd lv (.int (x ^^^ y) :: rest)) : rs_X G nL p l e R s m args below meth c Q S pc lv (.int y :: .int x :: rest) := by
  subst hn
  exact fun H locs ls hP hS hl => lv_ixor C.1 C.2.1 hd (k H locs ls hP hS hl)
theorem rs_ladd (C : rs_C G cc nL own p s m args c) {x y : Int64} (hd : decode cc pc = .ok (.ladd, 1)) (hn : pc + 1 = pd) (k : rs_X G nL p l e R s m args below meth c Q S pd lv (.long (x + y) :: rest)) : rs_X G nL p l e R s m args below meth c Q S pc lv (.long y :: .long x :: rest) := by
  subst hn
  exact fun H locs ls hP hS hl => lv_ladd C.1 C.2.1 hd (k H locs ls hP hS hl)
theorem rs_lsub (C : rs_C G cc nL own p s m args c) {x y : Int64} (hd : decode cc pc = .ok (.lsub, 1)) (hn : pc + 1 = pd) (k : rs_X G nL p l e R s m args below meth c Q S pd lv (.long (x - y) :: rest)) : rs_X G nL p l e R s m args below meth c Q S pc lv (.long y :: .long x :: rest) := by
  subst hn
  exact fun H locs ls hP hS hl => lv_lsub C.1 C.2.1 hd (k H locs ls hP hS hl)
theorem rs_lmul (C : rs_C G cc nL own p s m args c) {x y : Int64} (hd : decode cc pc = .ok (.lmul, 1)) (hn : pc + 1 = pd) (k : rs_X G nL p l e R s m args below meth c Q S pd lv (.long (x * y) :: rest)) : rs_X G nL p l e R s m args below meth c Q S pc lv (.long y :: .long x :: rest) := by
  subst hn
  exact fun H locs ls hP hS hl => lv_lmul C.1 C.2.1 hd (k H locs ls hP hS hl)
theorem rs_idiv (C : rs_C G cc nL own p s m args c) {x y : Int32} (hd : decode cc pc = .ok (.idiv, 1)) (hz : ¬ y = 0) (hn : pc + 1 = pd) (k : rs_X G nL p l e R s m args below meth c Q S pd lv (.int (x / y) :: rest)) : rs_X G nL p l e R s m args below meth c Q S pc lv (.int y :: .int x :: rest) := by
  subst hn
  exact fun H locs ls hP hS hl => lv_idiv C.1 C.2.1 hd hz (k H locs ls hP hS hl)
theorem rs_irem (C : rs_C G cc nL own p s m args c) {x y : Int32} (hd : decode cc pc = .ok (.irem, 1)) (hz : ¬ y = 0) (hn : pc + 1 = pd) (k : rs_X G nL p l e R s m args below meth c Q S pd lv (.int (x - x / y * y) :: rest)) : rs_X G nL p l e R s m args below meth c Q S pc lv (.int y :: .int x :: rest) := by
  subst hn
  exact fun H locs ls hP hS hl => lv_irem C.1 C.2.1 hd hz (k H locs ls hP hS hl)
theorem rs_ldiv (C : rs_C G cc nL own p s m args c) {x y : Int64} (hd : decode cc pc = .ok (.ldiv, 1)) (hz : ¬ y = 0) (hn : pc + 1 = pd) (k : rs_X G nL p l e R s m args below meth c Q S pd lv (.long (x / y) :: rest)) : rs_X G nL p l e R s m args below meth c Q S pc lv (.long y :: .long x :: rest) := by
  subst hn
  exact fun H locs ls hP hS hl => lv_ldiv C.1 C.2.1 hd hz (k H locs ls hP hS hl)
theorem rs_lrem (C : rs_C G cc nL own p s m args c) {x y : Int64} (hd : decode cc pc = .ok (.lrem, 1)) (hz : ¬ y = 0) (hn : pc + 1 = pd) (k : rs_X G nL p l e R s m args below meth c Q S pd lv (.long (x - x / y * y) :: rest)) : rs_X G nL p l e R s m args below meth c Q S pc lv (.long y :: .long x :: rest) := by
  subst hn
  exact fun H locs ls hP hS hl => lv_lrem C.1 C.2.1 hd hz (k H locs ls hP hS hl)
theorem rs_ineg (C : rs_C G cc nL own p s m args c) {x : Int32} (hd : decode cc pc = .ok (.ineg, 1)) (hn : pc + 1 = pd) (k : rs_X G nL p l e R s m args below meth c Q S pd lv (.int (-x) :: rest)) : rs_X G nL p l e R s m args below meth c Q S pc lv (.int x :: rest) := by
  subst hn
  exact fun H locs ls hP hS hl => lv_ineg C.1 C.2.1 hd (k H locs ls hP hS hl)
theorem rs_ishl (C : rs_C G cc nL own p s m args c) {x y : Int32} (hd : decode cc pc = .ok (.ishl, 1)) (hn : pc + 1 = pd) (k : rs_X G nL p l e R s m args below meth c Q S pd lv (.int (x <<< (y &&& 31)) :: rest)) : rs_X G nL p l e R s m args below meth c Q S pc lv (.int y :: .int x :: rest) := by
  subst hn
  exact fun H locs ls hP hS hl => lv_ishl C.1 C.2.1 hd (k H locs ls hP hS hl)
theorem rs_ishr (C : rs_C G cc nL own p s m args c) {x y : Int32} (hd : decode cc pc = .ok (.ishr, 1)) (hn : pc + 1 = pd) (k : rs_X G nL p l e R s m args below meth c Q S pd lv (.int (x >>> (y &&& 31)) :: rest)) : rs_X G nL p l e R s m args below meth c Q S pc lv (.int y :: .int x :: rest) := by
  subst hn
  exact fun H locs ls hP hS hl => lv_ishr C.1 C.2.1 hd (k H locs ls hP hS hl)
theorem rs_iushr (C : rs_C G cc nL own p s m args c) {x y : Int32} (hd : decode cc pc = .ok (.iushr, 1)) (hn : pc + 1 = pd) (k : rs_X G nL p l e R s m args below meth c Q S pd lv (.int (x.toUInt32 >>> (y.toUInt32 &&& Int32.toUInt32 31)).toInt32 :: rest)) : rs_X G nL p l e R s m args below meth c Q S pc lv (.int y :: .int x :: rest) := by
  subst hn
  exact fun H locs ls hP hS hl => lv_iushr C.1 C.2.1 hd rfl (k H locs ls hP hS hl)
theorem rs_i2l (C : rs_C G cc nL own p s m args c) {x : Int32} (hd : decode cc pc = .ok (.i2l, 1)) (hn : pc + 1 = pd) (k : rs_X G nL p l e R s m args below meth c Q S pd lv (.long x.toInt64 :: rest)) : rs_X G nL p l e R s m args below meth c Q S pc lv (.int x :: rest) := by
  subst hn
  exact fun H locs ls hP hS hl => lv_i2l C.1 C.2.1 hd rfl (k H locs ls hP hS hl)
theorem rs_l2i (C : rs_C G cc nL own p s m args c) {x : Int64} (hd : decode cc pc = .ok (.l2i, 1)) (hn : pc + 1 = pd) (k : rs_X G nL p l e R s m args below meth c Q S pd lv (.int x.toInt32 :: rest)) : rs_X G nL p l e R s m args below meth c Q S pc lv (.long x :: rest) := by
  subst hn
  exact fun H locs ls hP hS hl => lv_l2i C.1 C.2.1 hd rfl (k H locs ls hP hS hl)
theorem rs_i2b (C : rs_C G cc nL own p s m args c) {x : Int32} (hd : decode cc pc = .ok (.i2b, 1)) (hn : pc + 1 = pd) (k : rs_X G nL p l e R s m args below meth c Q S pd lv (.int x.toInt8.toInt32 :: rest)) : rs_X G nL p l e R s m args below meth c Q S pc lv (.int x :: rest) := by
  subst hn
  exact fun H locs ls hP hS hl => lv_i2b C.1 C.2.1 hd rfl (k H locs ls hP hS hl)
theorem rs_i2s (C : rs_C G cc nL own p s m args c) {x : Int32} (hd : decode cc pc = .ok (.i2s, 1)) (hn : pc + 1 = pd) (k : rs_X G nL p l e R s m args below meth c Q S pd lv (.int x.toInt16.toInt32 :: rest)) : rs_X G nL p l e R s m args below meth c Q S pc lv (.int x :: rest) := by
  subst hn
  exact fun H locs ls hP hS hl => lv_i2s C.1 C.2.1 hd rfl (k H locs ls hP hS hl)
theorem rs_i2c (C : rs_C G cc nL own p s m args c) {x : Int32} (hd : decode cc pc = .ok (.i2c, 1)) (hn : pc + 1 = pd) (k : rs_X G nL p l e R s m args below meth c Q S pd lv (.int (x.toUInt32 % 65536).toInt32 :: rest)) : rs_X G nL p l e R s m args below meth c Q S pc lv (.int x :: rest) := by
  subst hn
  exact fun H locs ls hP hS hl => lv_i2c C.1 C.2.1 hd rfl (k H locs ls hP hS hl)
theorem rs_lcmp (C : rs_C G cc nL own p s m args c) {x y : Int64} (hd : decode cc pc = .ok (.lcmp, 1)) (hn : pc + 1 = pd) (k : rs_X G nL p l e R s m args below meth c Q S pd lv (.int (lg_cmp x y) :: rest)) : rs_X G nL p l e R s m args below meth c Q S pc lv (.long y :: .long x :: rest) := by
  subst hn
  exact fun H locs ls hP hS hl => W.lcmp C.1 C.2.1 hd (k H locs ls hP hS hl)
theorem rs_dup (C : rs_C G cc nL own p s m args c) {va : Value} (hd : decode cc pc = .ok (.dup, 1)) (hv : va.category = 1) (hn : pc + 1 = pd) (k : rs_X G nL p l e R s m args below meth c Q S pd lv (va :: va :: rest)) : rs_X G nL p l e R s m args below meth c Q S pc lv (va :: rest) := by
  subst hn
  exact fun H locs ls hP hS hl => lv_dup C.1 C.2.1 hd hv (k H locs ls hP hS hl)
theorem rs_dup2 (C : rs_C G cc nL own p s m args c) {va vb : Value} (hd : decode cc pc = .ok (.dup2, 1)) (hv : va.category = 1) (hu : vb.category = 1) (hn : pc + 1 = pd) (k : rs_X G nL p l e R s m args below meth c Q S pd lv (va :: vb :: va :: vb :: rest)) : rs_X G nL p l e R s m args below meth c Q S pc lv (va :: vb :: rest) := by
  subst hn
  exact fun H locs ls hP hS hl => lv_dup2_11 C.1 C.2.1 hd hv hu (k H locs ls hP hS hl)
theorem rs_pop (C : rs_C G cc nL own p s m args c) {va : Value} (hd : decode cc pc = .ok (.pop, 1)) (hv : va.category = 1) (hn : pc + 1 = pd) (k : rs_X G nL p l e R s m args below meth c Q S pd lv (rest)) : rs_X G nL p l e R s m args below meth c Q S pc lv (va :: rest) := by
  subst hn
  exact fun H locs ls hP hS hl => lv_pop C.1 C.2.1 hd hv (k H locs ls hP hS hl)
theorem rs_if_eq (C : rs_C G cc nL own p s m args c) {x : Int32} {off : Int} {tgt : Nat} (hd : decode cc pc = .ok (.ifCond .eq off, 3)) (ht : (pc : Int) + off = (tgt : Int)) (hn : pc + 3 = pd) (kt : x = 0 → rs_X G nL p l e R s m args below meth c Q S tgt lv rest) (kf : ¬ x = 0 → rs_X G nL p l e R s m args below meth c Q S pd lv rest) : rs_X G nL p l e R s m args below meth c Q S pc lv (.int x :: rest) := by
  subst hn
  exact fun H locs ls hP hS hl => lv_if_eq C.1 C.2.1 hd ht (fun z => kt z H locs ls hP hS hl) (fun z => kf z H locs ls hP hS hl)
theorem rs_if_ne (C : rs_C G cc nL own p s m args c) {x : Int32} {off : Int} {tgt : Nat} (hd : decode cc pc = .ok (.ifCond .ne off, 3)) (ht : (pc : Int) + off = (tgt : Int)) (hn : pc + 3 = pd) (kt : ¬ x = 0 → rs_X G nL p l e R s m args below meth c Q S tgt lv rest) (kf : x = 0 → rs_X G nL p l e R s m args below meth c Q S pd lv rest) : rs_X G nL p l e R s m args below meth c Q S pc lv (.int x :: rest) := by
  subst hn
  exact fun H locs ls hP hS hl => lv_if_ne C.1 C.2.1 hd ht (fun z => kt z H locs ls hP hS hl) (fun z => kf z H locs ls hP hS hl)
theorem rs_if_lt (C : rs_C G cc nL own p s m args c) {x : Int32} {off : Int} {tgt : Nat} (hd : decode cc pc = .ok (.ifCond .lt off, 3)) (ht : (pc : Int) + off = (tgt : Int)) (hn : pc + 3 = pd) (kt : x < 0 → rs_X G nL p l e R s m args below meth c Q S tgt lv rest) (kf : ¬ x < 0 → rs_X G nL p l e R s m args below meth c Q S pd lv rest) : rs_X G nL p l e R s m args below meth c Q S pc lv (.int x :: rest) := by
  subst hn
  exact fun H locs ls hP hS hl => lv_if_lt C.1 C.2.1 hd ht (fun z => kt z H locs ls hP hS hl) (fun z => kf z H locs ls hP hS hl)
theorem rs_if_ge (C : rs_C G cc nL own p s m args c) {x : Int32} {off : Int} {tgt : Nat} (hd : decode cc pc = .ok (.ifCond .ge off, 3)) (ht : (pc : Int) + off = (tgt : Int)) (hn : pc + 3 = pd) (kt : 0 ≤ x → rs_X G nL p l e R s m args below meth c Q S tgt lv rest) (kf : ¬ 0 ≤ x → rs_X G nL p l e R s m args below meth c Q S pd lv rest) : rs_X G nL p l e R s m args below meth c Q S pc lv (.int x :: rest) := by
  subst hn
  exact fun H locs ls hP hS hl => lv_if_ge C.1 C.2.1 hd ht (fun z => kt z H locs ls hP hS hl) (fun z => kf z H locs ls hP hS hl)
theorem rs_if_gt (C : rs_C G cc nL own p s m args c) {x : Int32} {off : Int} {tgt : Nat} (hd : decode cc pc = .ok (.ifCond .gt off, 3)) (ht : (pc : Int) + off = (tgt : Int)) (hn : pc + 3 = pd) (kt : 0 < x → rs_X G nL p l e R s m args below meth c Q S tgt lv rest) (kf : ¬ 0 < x → rs_X G nL p l e R s m args below meth c Q S pd lv rest) : rs_X G nL p l e R s m args below meth c Q S pc lv (.int x :: rest) := by
  subst hn
  exact fun H locs ls hP hS hl => lv_if_gt C.1 C.2.1 hd ht (fun z => kt z H locs ls hP hS hl) (fun z => kf z H locs ls hP hS hl)
theorem rs_if_le (C : rs_C G cc nL own p s m args c) {x : Int32} {off : Int} {tgt : Nat} (hd : decode cc pc = .ok (.ifCond .le off, 3)) (ht : (pc : Int) + off = (tgt : Int)) (hn : pc + 3 = pd) (kt : x ≤ 0 → rs_X G nL p l e R s m args below meth c Q S tgt lv rest) (kf : ¬ x ≤ 0 → rs_X G nL p l e R s m args below meth c Q S pd lv rest) : rs_X G nL p l e R s m args below meth c Q S pc lv (.int x :: rest) := by
  subst hn
  exact fun H locs ls hP hS hl => lv_if_le C.1 C.2.1 hd ht (fun z => kt z H locs ls hP hS hl) (fun z => kf z H locs ls hP hS hl)
theorem rs_icmp_eq (C : rs_C G cc nL own p s m args c) {x y : Int32} {off : Int} {tgt : Nat} (hd : decode cc pc = .ok (.if_icmp .eq off, 3)) (ht : (pc : Int) + off = (tgt : Int)) (hn : pc + 3 = pd) (kt : x = y → rs_X G nL p l e R s m args below meth c Q S tgt lv rest) (kf : ¬ x = y → rs_X G nL p l e R s m args below meth c Q S pd lv rest) : rs_X G nL p l e R s m args below meth c Q S pc lv (.int y :: .int x :: rest) := by
  subst hn
  exact fun H locs ls hP hS hl => lv_icmp_eq C.1 C.2.1 hd ht (fun z => kt z H locs ls hP hS hl) (fun z => kf z H locs ls hP hS hl)
theorem rs_icmp_ne (C : rs_C G cc nL own p s m args c) {x y : Int32} {off : Int} {tgt : Nat} (hd : decode cc pc = .ok (.if_icmp .ne off, 3)) (ht : (pc : Int) + off = (tgt : Int)) (hn : pc + 3 = pd) (kt : ¬ x = y → rs_X G nL p l e R s m args below meth c Q S tgt lv rest) (kf : x = y → rs_X G nL p l e R s m args below meth c Q S pd lv rest) : rs_X G nL p l e R s m args below meth c Q S pc lv (.int y :: .int x :: rest) := by
  subst hn
  exact fun H locs ls hP hS hl => lv_icmp_ne C.1 C.2.1 hd ht (fun z => kt z H locs ls hP hS hl) (fun z => kf z H locs ls hP hS hl)
theorem rs_icmp_lt (C : rs_C G cc nL own p s m args c) {x y : Int32} {off : Int} {tgt : Nat} (hd : decode cc pc = .ok (.if_icmp .lt off, 3)) (ht : (pc : Int) + off = (tgt : Int)) (hn : pc + 3 = pd) (kt : x < y → rs_X G nL p l e R s m args below meth c Q S tgt lv rest) (kf : ¬ x < y → rs_X G nL p l e R s m args below meth c Q S pd lv rest) : rs_X G nL p l e R s m args below meth c Q S pc lv (.int y :: .int x :: rest) := by
  subst hn
  exact fun H locs ls hP hS hl => lv_icmp_lt C.1 C.2.1 hd ht (fun z => kt z H locs ls hP hS hl) (fun z => kf z H locs ls hP hS hl)
theorem rs_icmp_ge (C : rs_C G cc nL own p s m args c) {x y : Int32} {off : Int} {tgt : Nat} (hd : decode cc pc = .ok (.if_icmp .ge off, 3)) (ht : (pc : Int) + off = (tgt : Int)) (hn : pc + 3 = pd) (kt : y ≤ x → rs_X G nL p l e R s m args below meth c Q S tgt lv rest) (kf : ¬ y ≤ x → rs_X G nL p l e R s m args below meth c Q S pd lv rest) : rs_X G nL p l e R s m args below meth c Q S pc lv (.int y :: .int x :: rest) := by
  subst hn
  exact fun H locs ls hP hS hl => lv_icmp_ge C.1 C.2.1 hd ht (fun z => kt z H locs ls hP hS hl) (fun z => kf z H locs ls hP hS hl)
theorem rs_icmp_gt (C : rs_C G cc nL own p s m args c) {x y : Int32} {off : Int} {tgt : Nat} (hd : decode cc pc = .ok (.if_icmp .gt off, 3)) (ht : (pc : Int) + off = (tgt : Int)) (hn : pc + 3 = pd) (kt : y < x → rs_X G nL p l e R s m args below meth c Q S tgt lv rest) (kf : ¬ y < x → rs_X G nL p l e R s m args below meth c Q S pd lv rest) : rs_X G nL p l e R s m args below meth c Q S pc lv (.int y :: .int x :: rest) := by
  subst hn
  exact fun H locs ls hP hS hl => lv_icmp_gt C.1 C.2.1 hd ht (fun z => kt z H locs ls hP hS hl) (fun z => kf z H locs ls hP hS hl)
theorem rs_icmp_le (C : rs_C G cc nL own p s m args c) {x y : Int32} {off : Int} {tgt : Nat} (hd : decode cc pc = .ok (.if_icmp .le off, 3)) (ht : (pc : Int) + off = (tgt : Int)) (hn : pc + 3 = pd) (kt : x ≤ y → rs_X G nL p l e R s m args below meth c Q S tgt lv rest) (kf : ¬ x ≤ y → rs_X G nL p l e R s m args below meth c Q S pd lv rest) : rs_X G nL p l e R s m args below meth c Q S pc lv (.int y :: .int x :: rest) := by
  subst hn
  exact fun H locs ls hP hS hl => lv_icmp_le C.1 C.2.1 hd ht (fun z => kt z H locs ls hP hS hl) (fun z => kf z H locs ls hP hS hl)
theorem rs_goto (C : rs_C G cc nL own p s m args c) {off : Int} {tgt : Nat} (hd : decode cc pc = .ok (.goto off, 3)) (ht : (pc : Int) + off = (tgt : Int)) (k : rs_X G nL p l e R s m args below meth c Q S tgt lv rest) : rs_X G nL p l e R s m args below meth c Q S pc lv rest := fun H locs ls hP hS hl => lv_goto C.1 C.2.1 hd ht (k H locs ls hP hS hl)
theorem rs_ifnull_r (C : rs_C G cc nL own p s m args c) {x : Nat} {off : Int} (hd : decode cc pc = .ok (.ifnull off, 3)) (hn : pc + 3 = pd) (k : rs_X G nL p l e R s m args below meth c Q S pd lv rest) : rs_X G nL p l e R s m args below meth c Q S pc lv (.ref x :: rest) := by
  subst hn
  exact fun H locs ls hP hS hl => lv_ifnull C.1 C.2.1 hd (k H locs ls hP hS hl)
theorem rs_ifnull_n (C : rs_C G cc nL own p s m args c) {off : Int} {tgt : Nat} (hd : decode cc pc = .ok (.ifnull off, 3)) (ht : (pc : Int) + off = (tgt : Int)) (k : rs_X G nL p l e R s m args below meth c Q S tgt lv rest) : rs_X G nL p l e R s m args below meth c Q S pc lv (.null :: rest) := fun H locs ls hP hS hl => lv_ifnullN C.1 C.2.1 hd ht (k H locs ls hP hS hl)
theorem rs_ifnonnull_r (C : rs_C G cc nL own p s m args c) {x : Nat} {off : Int} {tgt : Nat} (hd : decode cc pc = .ok (.ifnonnull off, 3)) (ht : (pc : Int) + off = (tgt : Int)) (k : rs_X G nL p l e R s m args below meth c Q S tgt lv rest) : rs_X G nL p l e R s m args below meth c Q S pc lv (.ref x :: rest) := fun H locs ls hP hS hl => lv_ifnonnull C.1 C.2.1 hd ht (k H locs ls hP hS hl)
theorem rs_ifnonnull_n (C : rs_C G cc nL own p s m args c) {off : Int} (hd : decode cc pc = .ok (.ifnonnull off, 3)) (hn : pc + 3 = pd) (k : rs_X G nL p l e R s m args below meth c Q S pd lv rest) : rs_X G nL p l e R s m args below meth c Q S pc lv (.null :: rest) := by
  subst hn
  exact fun H locs ls hP hS hl => lv_ifnonnullN C.1 C.2.1 hd (k H locs ls hP hS hl)
theorem rs_tabIn (C : rs_C G cc nL own p s m args c) {dflt lo hi : Int} {offs : Array Int} {len : Nat} {x : Int32} (off : Int) {tgt : Nat} (hd : decode cc pc = .ok (.tableswitch dflt lo hi offs, len)) (v : Int32) (hx : x = v) (h1 : ¬ v.toInt < lo) (h2 : ¬ hi < v.toInt) (ho : offs[(v.toInt - lo).toNat]? = some off) (ht : (pc : Int) + off = (tgt : Int)) (k : rs_X G nL p l e R s m args below meth c Q S tgt lv rest) : rs_X G nL p l e R s m args below meth c Q S pc lv (.int x :: rest) := by
  subst hx
  exact fun H locs ls hP hS hl => lv_tableIn C.1 C.2.1 hd h1 h2 ho ht (k H locs ls hP hS hl)
theorem rs_tabOut (C : rs_C G cc nL own p s m args c) {dflt lo hi : Int} {offs : Array Int} {len : Nat} {x : Int32} {tgt : Nat} (hd : decode cc pc = .ok (.tableswitch dflt lo hi offs, len)) (h : x.toInt < lo ∨ hi < x.toInt) (ht : (pc : Int) + dflt = (tgt : Int)) (k : rs_X G nL p l e R s m args below meth c Q S tgt lv rest) : rs_X G nL p l e R s m args below meth c Q S pc lv (.int x :: rest) := fun H locs ls hP hS hl => lv_tableOut C.1 C.2.1 hd h ht (k H locs ls hP hS hl)
theorem rs_look (C : rs_C G cc nL own p s m args c) {dflt : Int} {ps : Array (Int × Int)} {len : Nat} {x : Int32} (off : Int) {tgt : Nat} (hd : decode cc pc = .ok (.lookupswitch dflt ps, len)) (hp : (ps.toList.zip (ps.toList.drop 1)).all (fun (a, next) => a.1 < next.1) = true) (ho : Op.lookupswitch.offset ps.toList dflt x.toInt = off) (ht : (pc : Int) + off = (tgt : Int)) (k : rs_X G nL p l e R s m args below meth c Q S tgt lv rest) : rs_X G nL p l e R s m args below meth c Q S pc lv (.int x :: rest) := fun H locs ls hP hS hl => lv_lookup C.1 C.2.1 hd hp ho ht (k H locs ls hP hS hl)
theorem rs_sub {l2 : List (Nat × Value)} (h : rs_all lv l2) (k : rs_X G nL p l e R s m args below meth c Q S pc l2 st) : rs_X G nL p l e R s m args below meth c Q S pc lv st := fun H locs ls hP hS hl => k H locs ls hP hS (rs_all_has hl h)
theorem rs_get (C : rs_C G cc nL own p s m args c) {ref Cn : String} {T : u_T} {N ci index k : Nat} {fs : List Value} (hk : k < 106) (he : rs_ee G S k = .inr (ci, fs)) (hc : rs_cl[ci]? = some (Cn, T, N)) (hin : ∀ w ∈ u_ws Cn T N, w ∈ rs_wg) (j : Nat) (hj : j < N) (hl0 : Cond.fieldLink own index ref (T j).2.1 (T j).2.2.1 ∈ rs_wg) (hs : (T j).1 = ref) {v : Value} (hv : fs[j]? = some v) (hd : decode cc pc = .ok (.getfield index, 3)) (hn : pc + 3 = pd) (k2 : rs_X G nL p l e R s m args below meth c Q S pd lv (v :: rest)) : rs_X G nL p l e R s m args below meth c Q S pc lv (.ref (rs_ad G k) :: rest) := by
  subst hn
  exact fun H locs ls hP hS hl => va_get C.1 C.2.1 C.2.2.2.2.1 hin C.2.2.2.1 C.2.2.2.2.2.1.1 hP k (by rw [rs_ww_get G S hk, he]) hc j hj (C.2.2.2.2.1 _ hl0) (fun x hx => by rw [← hs]; exact hx) hv hd (k2 H locs ls hP hS hl)
theorem rs_put (C : rs_C G cc nL own p s m args c) {ref Cn : String} {T : u_T} {N ci index k : Nat} {fs : List Value} {S2 : rs_St} (hk : k < 106) (he : rs_ee G S k = .inr (ci, fs)) (hc : rs_cl[ci]? = some (Cn, T, N)) (hin : ∀ w ∈ u_ws Cn T N, w ∈ rs_wg) (ty0 : Nat → FieldType) (hty : ∀ k, k < N → parseFieldDescriptor (T k).2.2.1 = some (ty0 k)) (hnm : ∀ a, a < N → ∀ b, b < N → a ≠ b → (T a).2.1 ≠ (T b).2.1) (j : Nat) (hj : j < N) (hl0 : Cond.fieldLink own index ref (T j).2.1 (T j).2.2.1 ∈ rs_wg) (hs : (T j).1 = ref) (hfin : (T j).2.2.2 = false) {ty : FieldType} {v : Value} (hds : parseFieldDescriptor (T j).2.2.1 = some ty) (hnw : narrow ty v = v) (hfit : fits ty v = true) (hlen : j < fs.length) (he2 : rs_ee G S2 k = .inr (ci, fs.set j v)) (ho : ∀ a, a ≠ k → rs_ee G S2 a = rs_ee G S a) (hd : decode cc pc = .ok (.putfield index, 3)) (hn : pc + 3 = pd) (k2 : rs_X G nL p l e R s m args below meth c Q S2 pd lv rest) : rs_X G nL p l e R s m args below meth c Q S pc lv (v :: .ref (rs_ad G k) :: rest) := by
  subst hn
  intro H locs ls hP hS hl
  refine va_put C.1 C.2.1 C.2.2.2.2.1 hin ty0 hty hnm C.2.2.2.1 C.2.2.2.2.2.1.1 hP (rs_va_D C.2.2.2.2.2.2 S) hS k (by rw [rs_ww_get G S hk, he]) hc j hj (C.2.2.2.2.1 _ hl0) (fun x hx => by rw [← hs]; exact hx) hfin hds hnw hfit hlen hd (fun H1 locs1 hP1 _ hS1 => ?_)
  rw [rs_ww_set G S S2 hk _ he2 ho] at hP1
  exact k2 H1 locs1 ls hP1 hS1 hl
theorem rs_iald (C : rs_C G cc nL own p s m args c) {k : Nat} {i : Int32} (hk : rs_kd k = 6) (hi : ¬ (i < 0 ∨ rs_ln k ≤ i.toNatClampNeg)) (hd : decode cc pc = .ok (.iaload, 1)) (hn : pc + 1 = pd) (k2 : rs_X G nL p l e R s m args below meth c Q S pd lv (.int (rs_gi S k i.toNatClampNeg) :: rest)) : rs_X G nL p l e R s m args below meth c Q S pc lv (.int i :: .ref (rs_ad G k) :: rest) := by
  subst hn
  exact fun H locs ls hP hS hl => va_iald (f := S.1 k) C.1 C.2.1 C.2.2.2.2.2.1.1 hP k 0 (by rw [rs_ww_get G S (rs_kd_lt hk (by decide)), rs_e6 hk]) rfl hi hd (k2 H locs ls hP hS hl)
theorem rs_bald (C : rs_C G cc nL own p s m args c) {k : Nat} {i : Int32} (hk : rs_kd k = 7) (hi : ¬ (i < 0 ∨ rs_ln k ≤ i.toNatClampNeg)) (hd : decode cc pc = .ok (.baload, 1)) (hn : pc + 1 = pd) (k2 : rs_X G nL p l e R s m args below meth c Q S pd lv (.int (rs_gi S k i.toNatClampNeg) :: rest)) : rs_X G nL p l e R s m args below meth c Q S pc lv (.int i :: .ref (rs_ad G k) :: rest) := by
  subst hn
  exact fun H locs ls hP hS hl => va_bald (f := S.1 k) C.1 C.2.1 C.2.2.2.2.2.1.1 hP k 1 (by rw [rs_ww_get G S (rs_kd_lt hk (by decide)), rs_e7 hk]) rfl hi hd (k2 H locs ls hP hS hl)
theorem rs_zald (C : rs_C G cc nL own p s m args c) {k : Nat} {i : Int32} (hk : rs_kd k = 8) (hi : ¬ (i < 0 ∨ rs_ln k ≤ i.toNatClampNeg)) (hd : decode cc pc = .ok (.baload, 1)) (hn : pc + 1 = pd) (k2 : rs_X G nL p l e R s m args below meth c Q S pd lv (.int (rs_gi S k i.toNatClampNeg) :: rest)) : rs_X G nL p l e R s m args below meth c Q S pc lv (.int i :: .ref (rs_ad G k) :: rest) := by
  subst hn
  exact fun H locs ls hP hS hl => va_zald (f := S.1 k) C.1 C.2.1 C.2.2.2.2.2.1.1 hP k 2 (by rw [rs_ww_get G S (rs_kd_lt hk (by decide)), rs_e8 hk]) rfl hi hd (k2 H locs ls hP hS hl)
theorem rs_iast (C : rs_C G cc nL own p s m args c) {k : Nat} {i x : Int32} (hk : rs_kd k = 6) (hi : ¬ (i < 0 ∨ rs_ln k ≤ i.toNatClampNeg)) (hd : decode cc pc = .ok (.iastore, 1)) (hn : pc + 1 = pd) (k2 : rs_X G nL p l e R s m args below meth c Q (rs_si S k i.toNatClampNeg x) pd lv rest) : rs_X G nL p l e R s m args below meth c Q S pc lv (.int x :: .int i :: .ref (rs_ad G k) :: rest) := by
  subst hn
  intro H locs ls hP hS hl
  refine va_iast C.1 C.2.1 C.2.2.2.2.2.1.1 hP (rs_va_D C.2.2.2.2.2.2 S) hS k 0 (by rw [rs_ww_get G S (rs_kd_lt hk (by decide)), rs_e6 hk]) rfl hi hd (fun H1 locs1 hP1 _ hS1 => ?_)
  rw [rs_ww_set G S (rs_si S k i.toNatClampNeg x) (rs_kd_lt hk (by decide)) _ (by rw [rs_e6 hk, rs_si_arr]) (fun a ha => rs_ee_si a ha)] at hP1
  exact k2 H1 locs1 ls hP1 hS1 hl
theorem rs_bast (C : rs_C G cc nL own p s m args c) {k : Nat} {i x : Int32} (hk : rs_kd k = 7) (hi : ¬ (i < 0 ∨ rs_ln k ≤ i.toNatClampNeg)) (hd : decode cc pc = .ok (.bastore, 1)) (hn : pc + 1 = pd) (k2 : rs_X G nL p l e R s m args below meth c Q (rs_si S k i.toNatClampNeg (vp_nar .byte x)) pd lv rest) : rs_X G nL p l e R s m args below meth c Q S pc lv (.int x :: .int i :: .ref (rs_ad G k) :: rest) := by
  subst hn
  intro H locs ls hP hS hl
  refine va_bast C.1 C.2.1 C.2.2.2.2.2.1.1 hP (rs_va_D C.2.2.2.2.2.2 S) hS k 1 (by rw [rs_ww_get G S (rs_kd_lt hk (by decide)), rs_e7 hk]) rfl hi hd (fun H1 locs1 hP1 _ hS1 => ?_)
  rw [rs_ww_set G S (rs_si S k i.toNatClampNeg (vp_nar .byte x)) (rs_kd_lt hk (by decide)) _ (by rw [rs_e7 hk, rs_si_arr]) (fun a ha => rs_ee_si a ha)] at hP1
  exact k2 H1 locs1 ls hP1 hS1 hl
theorem rs_zast (C : rs_C G cc nL own p s m args c) {k : Nat} {i x : Int32} (hk : rs_kd k = 8) (hi : ¬ (i < 0 ∨ rs_ln k ≤ i.toNatClampNeg)) (hd : decode cc pc = .ok (.bastore, 1)) (hn : pc + 1 = pd) (k2 : rs_X G nL p l e R s m args below meth c Q (rs_si S k i.toNatClampNeg (vp_nar .boolean x)) pd lv rest) : rs_X G nL p l e R s m args below meth c Q S pc lv (.int x :: .int i :: .ref (rs_ad G k) :: rest) := by
  subst hn
  intro H locs ls hP hS hl
  refine va_zast C.1 C.2.1 C.2.2.2.2.2.1.1 hP (rs_va_D C.2.2.2.2.2.2 S) hS k 2 (by rw [rs_ww_get G S (rs_kd_lt hk (by decide)), rs_e8 hk]) rfl hi hd (fun H1 locs1 hP1 _ hS1 => ?_)
  rw [rs_ww_set G S (rs_si S k i.toNatClampNeg (vp_nar .boolean x)) (rs_kd_lt hk (by decide)) _ (by rw [rs_e8 hk, rs_si_arr]) (fun a ha => rs_ee_si a ha)] at hP1
  exact k2 H1 locs1 ls hP1 hS1 hl
theorem rs_alen (C : rs_C G cc nL own p s m args c) {k : Nat} (hk : rs_kd k = 6) (hd : decode cc pc = .ok (.arraylength, 1)) (hn : pc + 1 = pd) (k2 : rs_X G nL p l e R s m args below meth c Q S pd lv (.int (Int32.ofNat (rs_ln k)) :: rest)) : rs_X G nL p l e R s m args below meth c Q S pc lv (.ref (rs_ad G k) :: rest) := by
  subst hn
  exact fun H locs ls hP hS hl => va_alen C.1 C.2.1 C.2.2.2.2.2.1.1 hP k 0 (by rw [rs_ww_get G S (rs_kd_lt hk (by decide)), rs_e6 hk]) rfl rfl hd (k2 H locs ls hP hS hl)
theorem rs_aald9 (C : rs_C G cc nL own p s m args c) {k : Nat} {i : Int32} (hk : rs_kd k = 9) (hi : ¬ (i < 0 ∨ 4 ≤ i.toNatClampNeg)) (hd : decode cc pc = .ok (.aaload, 1)) (hn : pc + 1 = pd) (k2 : rs_X G nL p l e R s m args below meth c Q S pd lv (.ref (rs_ad G (k + 6 + 3 * i.toNatClampNeg)) :: rest)) : rs_X G nL p l e R s m args below meth c Q S pc lv (.int i :: .ref (rs_ad G k) :: rest) := by
  subst hn
  exact fun H locs ls hP hS hl => va_aldq (f := fun j => some (rs_ad G (k + 6 + 3 * j))) C.1 C.2.1 C.2.2.2.2.2.1.1 hP k 3 (by rw [rs_ww_get G S (rs_kd_lt hk (by decide)), rs_e9 hk]) rfl hi hd (k2 H locs ls hP hS hl)
theorem rs_aald10 (C : rs_C G cc nL own p s m args c) {k : Nat} {i : Int32} (hk : rs_kd k = 10) (hi : ¬ (i < 0 ∨ 2 ≤ i.toNatClampNeg)) (hd : decode cc pc = .ok (.aaload, 1)) (hn : pc + 1 = pd) (k2 : rs_X G nL p l e R s m args below meth c Q S pd lv (.ref (rs_ad G (38 + 19 * i.toNatClampNeg)) :: rest)) : rs_X G nL p l e R s m args below meth c Q S pc lv (.int i :: .ref (rs_ad G k) :: rest) := by
  subst hn
  exact fun H locs ls hP hS hl => va_aldq (f := fun j => some (rs_ad G (38 + 19 * j))) C.1 C.2.1 C.2.2.2.2.2.1.1 hP k 4 (by rw [rs_ww_get G S (rs_kd_lt hk (by decide)), rs_e10 hk]) rfl hi hd (k2 H locs ls hP hS hl)
theorem rs_aald11 (C : rs_C G cc nL own p s m args c) {k : Nat} {i : Int32} (hk : rs_kd k = 11) (hi : ¬ (i < 0 ∨ 4 ≤ i.toNatClampNeg)) (hd : decode cc pc = .ok (.aaload, 1)) (hn : pc + 1 = pd) (k2 : rs_X G nL p l e R s m args below meth c Q S pd lv (.ref (rs_ad G (83 + 2 * i.toNatClampNeg)) :: rest)) : rs_X G nL p l e R s m args below meth c Q S pc lv (.int i :: .ref (rs_ad G k) :: rest) := by
  subst hn
  exact fun H locs ls hP hS hl => va_aldq (f := fun j => some (rs_ad G (83 + 2 * j))) C.1 C.2.1 C.2.2.2.2.2.1.1 hP k 5 (by rw [rs_ww_get G S (rs_kd_lt hk (by decide)), rs_e11 hk]) rfl hi hd (k2 H locs ls hP hS hl)
theorem rs_gets (C : rs_C G cc nL own p s m args c) {index : Nat} (i : Nat) (hi : i < 5) (hl0 : Cond.fieldLink own index RX4 (rs_sn i) "[I" ∈ rs_wg) (hd : decode cc pc = .ok (.getstatic index, 3)) (hn : pc + 3 = pd) (k2 : rs_X G nL p l e R s m args below meth c Q S pd lv (.ref (rs_tb G i) :: rest)) : rs_X G nL p l e R s m args below meth c Q S pc lv rest := by
  subst hn
  exact fun H locs ls hP hS hl => va_gets C.1 C.2.1 (C.2.2.2.2.2.1.2.2.2.2.1 i hi).1 hS C.2.2.2.1 (C.2.2.2.2.1 _ hl0) (fun x hx => hx) hd (k2 H locs ls hP hS hl)
theorem rs_getsN (C : rs_C G cc nL own p s m args c) {index : Nat} (i : Nat) (hi : i < 5) (hl0 : (own, index, rs_sn i) ∈ rs_nf) (hd : decode cc pc = .ok (.getstatic index, 3)) (hn : pc + 3 = pd) (k2 : rs_X G nL p l e R s m args below meth c Q S pd lv (.ref (rs_tb G i) :: rest)) : rs_X G nL p l e R s m args below meth c Q S pc lv rest := by
  subst hn
  exact fun H locs ls hP hS hl => va_getsN C.1 C.2.1 (C.2.2.2.2.2.1.2.2.2.2.1 i hi).1 hS C.2.2.2.1 (va_Nw.use rfl (C.2.2.2.2.2.1.2.2.1 _ hl0)) (fun x hx => hx) hd (k2 H locs ls hP hS hl)
theorem rs_sald (C : rs_C G cc nL own p s m args c) {i : Int32} (q : Nat) (hq : q < 5) (hi : ¬ (i < 0 ∨ 4 ≤ i.toNatClampNeg)) (hd : decode cc pc = .ok (.iaload, 1)) (hn : pc + 1 = pd) (k2 : rs_X G nL p l e R s m args below meth c Q S pd lv (.int (rs_sv q i.toNatClampNeg) :: rest)) : rs_X G nL p l e R s m args below meth c Q S pc lv (.int i :: .ref (rs_tb G q) :: rest) := by
  subst hn
  have h5 := C.2.2.2.2.2.1.2.2.2.2.1 q hq
  exact fun H locs ls hP hS hl => va_sld C.1 C.2.1 h5.2.1 (Nat.lt_of_lt_of_le h5.2.2 C.2.2.2.2.2.1.2.1) (Nat.not_le.mpr h5.2.2) hS hi hd (k2 H locs ls hP hS hl)
theorem rs_mmax (C : rs_C G cc nL own p s m args c) {index : Nat} {x y : Int32} (hl0 : Cond.methodLink own index Lib.Math.max.name ∈ rs_wg) (hst : Cond.static Lib.Math.max.name ∈ rs_wg) (hin : Cond.initialized "java/lang/Math" ∈ rs_wg) (hco : Cond.code Lib.Math.max.name Lib.Math.max.code 2 (some .int) ∈ rs_wg) (hfr : 1 ≤ R.frames) (hlo : (rest.map fun v => v.category).sum + 13 ≤ R.locals) (hd : decode cc pc = .ok (.invokestatic index, 3)) (hn : pc + 3 = pd) (k2 : rs_X G nL p l e R s m args below meth c Q S pd lv (.int (if x < y then y else x) :: rest)) : rs_X G nL p l e R s m args below meth c Q S pc lv (.int y :: .int x :: rest) := by
  subst hn
  exact fun H locs ls hP hS hl => va_mmax C.1 C.2.1 (C.2.2.1.trans hl.1.symm) C.2.2.2.1 (C.2.2.2.2.1 _ hl0) (C.2.2.2.2.1 _ hst) (C.2.2.2.2.1 _ hin) (C.2.2.2.2.1 _ hco) hfr hlo (Nat.zero_le _) (Nat.zero_le _) hd (k2 H locs ls hP hS hl)
theorem rs_mmin (C : rs_C G cc nL own p s m args c) {index : Nat} {x y : Int32} (hl0 : Cond.methodLink own index Lib.Math.min.name ∈ rs_wg) (hst : Cond.static Lib.Math.min.name ∈ rs_wg) (hin : Cond.initialized "java/lang/Math" ∈ rs_wg) (hco : Cond.code Lib.Math.min.name Lib.Math.min.code 2 (some .int) ∈ rs_wg) (hfr : 1 ≤ R.frames) (hlo : (rest.map fun v => v.category).sum + 13 ≤ R.locals) (hd : decode cc pc = .ok (.invokestatic index, 3)) (hn : pc + 3 = pd) (k2 : rs_X G nL p l e R s m args below meth c Q S pd lv (.int (if y < x then y else x) :: rest)) : rs_X G nL p l e R s m args below meth c Q S pc lv (.int y :: .int x :: rest) := by
  subst hn
  exact fun H locs ls hP hS hl => va_mmin C.1 C.2.1 (C.2.2.1.trans hl.1.symm) C.2.2.2.1 (C.2.2.2.2.1 _ hl0) (C.2.2.2.2.1 _ hst) (C.2.2.2.2.1 _ hin) (C.2.2.2.2.1 _ hco) hfr hlo (Nat.zero_le _) (Nat.zero_le _) hd (k2 H locs ls hP hS hl)
theorem rs_copy (C : rs_C G cc nL own p s m args c) {index : Nat} (hl0 : Cond.methodLink own index arraycopyName ∈ rs_wg) (hnat : Cond.native arraycopyName ∈ rs_wg) (hst : Cond.static arraycopyName ∈ rs_wg) (hin : Cond.initialized "java/lang/System" ∈ rs_wg) {a b : Nat} {sp dp n : Int32} (ha : rs_kd a = 6) (hb : rs_kd b = 6) (hz : ¬ (sp < 0 ∨ dp < 0 ∨ n < 0 ∨ rs_ln a < sp.toNatClampNeg + n.toNatClampNeg ∨ rs_ln b < dp.toNatClampNeg + n.toNatClampNeg)) (hfr : 1 ≤ R.frames) (hlo : (rest.map fun v => v.category).sum + (nativeFrameWords "java/lang/System" "arraycopy" 5 + 11) ≤ R.locals) (hd : decode cc pc = .ok (.invokestatic index, 3)) (hn : pc + 3 = pd) (k2 : rs_X G nL p l e R s m args below meth c Q (rs_sa S b (va_cpy (S.1 a) (S.1 b) sp.toNatClampNeg dp.toNatClampNeg n.toNatClampNeg)) pd lv rest) : rs_X G nL p l e R s m args below meth c Q S pc lv (.int n :: .int dp :: .ref (rs_ad G b) :: .int sp :: .ref (rs_ad G a) :: rest) := by
  subst hn
  intro H locs ls hP hS hl
  refine va_copyi C.1 C.2.1 (C.2.2.1.trans hl.1.symm) C.2.2.2.1 (C.2.2.2.2.1 _ hl0) (C.2.2.2.2.1 _ hnat) (C.2.2.2.2.1 _ hst) (C.2.2.2.2.1 _ hin) C.2.2.2.2.2.1.1 hP (rs_va_D C.2.2.2.2.2.2 S) hS a b 0 0 (by rw [rs_ww_get G S (rs_kd_lt ha (by decide)), rs_e6 ha]) (by rw [rs_ww_get G S (rs_kd_lt hb (by decide)), rs_e6 hb]) rfl rfl rfl (fun z => hz (Or.inl z)) (fun z => hz (Or.inr (Or.inl z))) (fun z => hz (Or.inr (Or.inr (Or.inl z)))) (Nat.not_lt.mp fun z => hz (Or.inr (Or.inr (Or.inr (Or.inl z))))) (Nat.not_lt.mp fun z => hz (Or.inr (Or.inr (Or.inr (Or.inr z))))) (fun _ _ => rfl) hfr hlo hd (fun H1 locs1 hP1 _ hS1 => ?_)
  rw [rs_ww_set G S (rs_sa S b (va_cpy (S.1 a) (S.1 b) sp.toNatClampNeg dp.toNatClampNeg n.toNatClampNeg)) (rs_kd_lt hb (by decide)) _ (by rw [rs_e6 hb, rs_sa_arr]) (fun a ha => rs_ee_sa a ha)] at hP1
  exact k2 H1 locs1 ls hP1 hS1 hl
theorem rs_copyT (C : rs_C G cc nL own p s m args c) {index : Nat} (hl0 : Cond.methodLink own index arraycopyName ∈ rs_wg) (hnat : Cond.native arraycopyName ∈ rs_wg) (hst : Cond.static arraycopyName ∈ rs_wg) (hin : Cond.initialized "java/lang/System" ∈ rs_wg) {q b : Nat} {sp dp n : Int32} (hq : q < 5) (hb : rs_kd b = 6) (hz : ¬ (sp < 0 ∨ dp < 0 ∨ n < 0 ∨ 4 < sp.toNatClampNeg + n.toNatClampNeg ∨ rs_ln b < dp.toNatClampNeg + n.toNatClampNeg)) (hfr : 1 ≤ R.frames) (hlo : (rest.map fun v => v.category).sum + (nativeFrameWords "java/lang/System" "arraycopy" 5 + 11) ≤ R.locals) (hd : decode cc pc = .ok (.invokestatic index, 3)) (hn : pc + 3 = pd) (k2 : rs_X G nL p l e R s m args below meth c Q (rs_sa S b (va_cpy (rs_sv q) (S.1 b) sp.toNatClampNeg dp.toNatClampNeg n.toNatClampNeg)) pd lv rest) : rs_X G nL p l e R s m args below meth c Q S pc lv (.int n :: .int dp :: .ref (rs_ad G b) :: .int sp :: .ref (rs_tb G q) :: rest) := by
  subst hn
  have h5 := C.2.2.2.2.2.1.2.2.2.2.1 q hq
  intro H locs ls hP hS hl
  refine va_copyx C.1 C.2.1 (C.2.2.1.trans hl.1.symm) C.2.2.2.1 (C.2.2.2.2.1 _ hl0) (C.2.2.2.2.1 _ hnat) (C.2.2.2.2.1 _ hst) (C.2.2.2.2.1 _ hin) C.2.2.2.2.2.1.1 hP (rs_va_D C.2.2.2.2.2.2 S) hS h5.2.1 (Nat.lt_of_lt_of_le h5.2.2 C.2.2.2.2.2.1.2.1) (Nat.not_le.mpr h5.2.2) b 0 (by rw [rs_ww_get G S (rs_kd_lt hb (by decide)), rs_e6 hb]) rfl (fun z => hz (Or.inl z)) (fun z => hz (Or.inr (Or.inl z))) (fun z => hz (Or.inr (Or.inr (Or.inl z)))) (Nat.not_lt.mp fun z => hz (Or.inr (Or.inr (Or.inr (Or.inl z))))) (Nat.not_lt.mp fun z => hz (Or.inr (Or.inr (Or.inr (Or.inr z))))) hfr hlo hd (fun H1 locs1 hP1 _ hS1 => ?_)
  rw [rs_ww_set G S (rs_sa S b (va_cpy (rs_sv q) (S.1 b) sp.toNatClampNeg dp.toNatClampNeg n.toNatClampNeg)) (rs_kd_lt hb (by decide)) _ (by rw [rs_e6 hb, rs_sa_arr]) (fun a ha => rs_ee_sa a ha)] at hP1
  exact k2 H1 locs1 ls hP1 hS1 hl
def rs_cwv (own : String) (index : Nat) (Cn : String) (y : MethodName) (b : ByteArray) (n : Nat) (r : Option FieldType) : Prop := Cond.methodLink own index y ∈ rs_wg ∧ Cond.instanceMethod y ∈ rs_wg ∧ Cond.selects Cn y y ∈ rs_wg ∧ Cond.initialized Cn ∈ rs_wg ∧ Cond.code y b n r ∈ rs_wg
theorem rs_good : ∀ w ∈ rs_wg, goodWord w = true := fun _ h => (List.mem_filter.mp h).2
theorem rs_goodz {y : MethodName} {b : ByteArray} {n : Nat} {r : Option FieldType} (h : Cond.code y b n r ∈ rs_wg) : GoodIn rs_wg (rs_wz y b n r) := by
  intro w hw
  rcases List.mem_cons.mp hw with e | e
  · rw [e]
    exact ⟨h, good_of_word (rs_good _ h)⟩
  · exact ⟨e, good_of_word (rs_good _ e)⟩
theorem rs_goodv {own Cn : String} {index : Nat} {y : MethodName} {b : ByteArray} {n : Nat} {r : Option FieldType} (h : rs_cwv own index Cn y b n r) : GoodIn rs_wg (wsV own index Cn y (rs_wz y b n r)) := by
  obtain ⟨h1, h2, h3, h4, h5⟩ := h
  intro w hw
  rcases List.mem_append.mp hw with q | q
  · have : w ∈ rs_wg := by
      simp only [List.mem_cons, List.not_mem_nil, or_false] at q
      rcases q with rfl | rfl | rfl | rfl
      · exact h1
      · exact h2
      · exact h3
      · exact h4
    exact ⟨this, good_of_word (rs_good _ this)⟩
  · exact rs_goodz h5 w q
def rs_cws (own : String) (index : Nat) (y : MethodName) (b : ByteArray) (n : Nat) (r : Option FieldType) : Prop := Cond.methodLink own index y ∈ rs_wg ∧ Cond.static y ∈ rs_wg ∧ Cond.initialized y.cls ∈ rs_wg ∧ Cond.code y b n r ∈ rs_wg
theorem rs_goods {own : String} {index : Nat} {y : MethodName} {b : ByteArray} {n : Nat} {r : Option FieldType} (h : rs_cws own index y b n r) : GoodIn rs_wg (va_wsS own index y (rs_wz y b n r)) := by
  obtain ⟨h1, h2, h3, h5⟩ := h
  intro w hw
  rcases List.mem_append.mp hw with q | q
  · have : w ∈ rs_wg := by
      simp only [List.mem_cons, List.not_mem_nil, or_false] at q
      rcases q with rfl | rfl | rfl
      · exact h1
      · exact h2
      · exact h3
    exact ⟨this, good_of_word (rs_good _ this)⟩
  · exact rs_goodz h5 w q
def rs_cwn (own : String) (index : Nat) (y : MethodName) (b : ByteArray) (n : Nat) (r : Option FieldType) : Prop := (own, index, y) ∈ rs_nm ∧ Cond.static y ∈ rs_wg ∧ Cond.initialized y.cls ∈ rs_wg ∧ Cond.code y b n r ∈ rs_wg
theorem rs_recv {D : va_G} {tys : List (ClassId × FieldType)} {H : Heap} {k ci : Nat} {q : vw_C} {fs : List Value} (hK : va_K D rs_cl tys s) (hP : va_P D rs_cl (rs_ww G S) H) (hk : k < 106) (he : rs_ee G S k = .inr (ci, fs)) (hc : rs_cl[ci]? = some q) : ∃ cell : Cell, H[rs_ad G k]? = some cell ∧ cell.vm.isStatics = false ∧ s.vm.findClass q.1 = some cell.cls := va_recv hK hP hc (q0 := k) (by rw [rs_ww_get G S hk, he])
theorem rs_callVi (C : rs_C G cc nL own p s m args c) {y : MethodName} {b : ByteArray} {n ar index : Nat} {r : Option FieldType} {rm : Room} {As : List Value} {r0 : Int32} {S0 : rs_St} {k ci N : Nat} {Cn : String} {T : u_T} {fs : List Value} (hk : k < 106) (he : rs_ee G S k = .inr (ci, fs)) (hc : rs_cl[ci]? = some (Cn, T, N)) (hM : Met l y (rs_wz y b n r) rm (va_Pc (.ref (rs_ad G k) :: As) (rs_pre G S)) (va_Qi (fun r S2 => (r, S2) = (r0, S0)) (rs_post G) (rs_A G)) 0 0 (rs_A G)) (wd : rs_cwv own index Cn y b n r) (hy : y.cls = Cn ∧ y.cls ≠ "java/lang/invoke/MethodHandle" ∧ y.cls ≠ "java/lang/invoke/VarHandle" ∧ (parseMethodDescriptor y.desc).map (fun d => d.parameters.length) = some ar) (hR : rm.frames + 1 ≤ R.frames ∧ 8 + (n + 11) + rm.locals ≤ R.locals) (hrm : rm.cells = 0 ∧ rm.slots = 0) (hn2 : As.length = ar) (hsk : st = As.reverse ++ .ref (rs_ad G k) :: rest) (hst : (rest.map fun v => v.category).sum ≤ 8) (hd : decode cc pc = .ok (.invokevirtual index, 3)) (hn : pc + 3 = pd) (k2 : rs_X G nL p l e R s m args below meth c Q S0 pd lv (.int r0 :: rest)) : rs_X G nL p l e R s m args below meth c Q S pc lv st := by
  subst hn
  subst hsk
  intro H locs ls hP hS hl
  refine va_calli (va_runV (As := As) (rest := rest) ⟨C.1, C.2.1, C.2.2.1, C.2.2.2.1, C.2.2.2.2.1⟩ hM (cwV ar C.2.2.2.2.1 (rs_goodv wd) rfl hrm.1 hrm.2 hy hR) ⟨rs_blind G S _, rs_recv C.2.2.2.2.2.1.1 hP hk he hc, fun U hU hW => ⟨rfl, by rw [hU]; exact hP, rs_kf_to C.2.2.2.2.2.1 hS hU hW⟩⟩ rfl hn2 hl.1 rfl (lv_room hst) hd ⟨Nat.zero_le _, Nat.zero_le _⟩) hS (fun q _ h => h) (fun q h => h) (fun r u t H1 locs1 ht hvm hw hB hz1 hk1 hS1 => ?_)
  have hB : va_P (rs_D0 G) rs_cl (rs_ww G u) t.heap := hB
  rw [ht] at hB
  obtain ⟨e1, e2⟩ := Prod.mk.inj hw
  subst e1
  subst e2
  exact k2 H1 locs1 ls hB hS1 hl
theorem rs_callSi (C : rs_C G cc nL own p s m args c) {y : MethodName} {b : ByteArray} {n ar index : Nat} {r : Option FieldType} {rm : Room} {As : List Value} {r0 : Int32} {S0 : rs_St} (hM : Met l y (rs_wz y b n r) rm (va_Pc As (rs_pre G S)) (va_Qi (fun r S2 => (r, S2) = (r0, S0)) (rs_post G) (rs_A G)) 0 0 (rs_A G)) (wd : rs_cws own index y b n r) (hy : y.cls ≠ "java/lang/invoke/MethodHandle" ∧ y.cls ≠ "java/lang/invoke/VarHandle" ∧ (parseMethodDescriptor y.desc).map (fun d => d.parameters.length) = some ar) (hR : rm.frames + 1 ≤ R.frames ∧ 8 + (n + 11) + rm.locals ≤ R.locals) (hrm : rm.cells = 0 ∧ rm.slots = 0) (hn2 : As.length = ar) (hsk : st = As.reverse ++ rest) (hst : (rest.map fun v => v.category).sum ≤ 8) (hd : decode cc pc = .ok (.invokestatic index, 3)) (hn : pc + 3 = pd) (k2 : rs_X G nL p l e R s m args below meth c Q S0 pd lv (.int r0 :: rest)) : rs_X G nL p l e R s m args below meth c Q S pc lv st := by
  subst hn
  subst hsk
  intro H locs ls hP hS hl
  refine va_calli (va_runS (As := As) (rest := rest) ⟨C.1, C.2.1, C.2.2.1, C.2.2.2.1, C.2.2.2.2.1⟩ hM (va_cwS ar C.2.2.2.2.1 (rs_goods wd) rfl hrm.1 hrm.2 hy hR) ⟨rs_blind G S _, fun U hU hW => ⟨rfl, by rw [hU]; exact hP, rs_kf_to C.2.2.2.2.2.1 hS hU hW⟩⟩ rfl hn2 hl.1 rfl (lv_room hst) hd ⟨Nat.zero_le _, Nat.zero_le _⟩) hS (fun q _ h => h) (fun q h => h) (fun r u t H1 locs1 ht hvm hw hB hz1 hk1 hS1 => ?_)
  have hB : va_P (rs_D0 G) rs_cl (rs_ww G u) t.heap := hB
  rw [ht] at hB
  obtain ⟨e1, e2⟩ := Prod.mk.inj hw
  subst e1
  subst e2
  exact k2 H1 locs1 ls hB hS1 hl
theorem rs_callNi (C : rs_C G cc nL own p s m args c) {y : MethodName} {b : ByteArray} {n ar index : Nat} {r : Option FieldType} {rm : Room} {As : List Value} {r0 : Int32} {S0 : rs_St} (hM : Met l y (rs_wz y b n r) rm (va_Pc As (rs_pre G S)) (va_Qi (fun r S2 => (r, S2) = (r0, S0)) (rs_post G) (rs_A G)) 0 0 (rs_A G)) (wd : rs_cwn own index y b n r) (hy : y.cls ≠ "java/lang/invoke/MethodHandle" ∧ y.cls ≠ "java/lang/invoke/VarHandle" ∧ (parseMethodDescriptor y.desc).map (fun d => d.parameters.length) = some ar) (hR : rm.frames + 1 ≤ R.frames ∧ 8 + (n + 11) + rm.locals ≤ R.locals) (hrm : rm.cells = 0 ∧ rm.slots = 0) (hn2 : As.length = ar) (hsk : st = As.reverse ++ rest) (hst : (rest.map fun v => v.category).sum ≤ 8) (hd : decode cc pc = .ok (.invokestatic index, 3)) (hn : pc + 3 = pd) (k2 : rs_X G nL p l e R s m args below meth c Q S0 pd lv (.int r0 :: rest)) : rs_X G nL p l e R s m args below meth c Q S pc lv st := by
  subst hn
  subst hsk
  intro H locs ls hP hS hl
  refine va_calli (va_runSN (As := As) (rest := rest) ⟨C.1, C.2.1, C.2.2.1, C.2.2.2.1, C.2.2.2.2.1⟩ hM ⟨va_cnB ar C.2.2.2.2.1 (rs_goodz wd.2.2.2) rfl hrm.1 hrm.2 (C.2.2.2.2.2.1.2.2.2.1 _ wd.1) (C.2.2.2.2.1 _ wd.2.2.1) hy hR, C.2.2.2.2.1 _ wd.2.1, trivial⟩ ⟨rs_blind G S _, fun U hU hW => ⟨rfl, by rw [hU]; exact hP, rs_kf_to C.2.2.2.2.2.1 hS hU hW⟩⟩ rfl hn2 hl.1 rfl (lv_room hst) hd ⟨Nat.zero_le _, Nat.zero_le _⟩) hS (fun q _ h => h) (fun q h => h) (fun r u t H1 locs1 ht hvm hw hB hz1 hk1 hS1 => ?_)
  have hB : va_P (rs_D0 G) rs_cl (rs_ww G u) t.heap := hB
  rw [ht] at hB
  obtain ⟨e1, e2⟩ := Prod.mk.inj hw
  subst e1
  subst e2
  exact k2 H1 locs1 ls hB hS1 hl
theorem rs_callVl (C : rs_C G cc nL own p s m args c) {y : MethodName} {b : ByteArray} {n ar index : Nat} {r : Option FieldType} {rm : Room} {As : List Value} {r0 : Int64} {S0 : rs_St} {k ci N : Nat} {Cn : String} {T : u_T} {fs : List Value} (hk : k < 106) (he : rs_ee G S k = .inr (ci, fs)) (hc : rs_cl[ci]? = some (Cn, T, N)) (hM : Met l y (rs_wz y b n r) rm (va_Pc (.ref (rs_ad G k) :: As) (rs_pre G S)) (va_Ql (fun r S2 => (r, S2) = (r0, S0)) (rs_post G) (rs_A G)) 0 0 (rs_A G)) (wd : rs_cwv own index Cn y b n r) (hy : y.cls = Cn ∧ y.cls ≠ "java/lang/invoke/MethodHandle" ∧ y.cls ≠ "java/lang/invoke/VarHandle" ∧ (parseMethodDescriptor y.desc).map (fun d => d.parameters.length) = some ar) (hR : rm.frames + 1 ≤ R.frames ∧ 8 + (n + 11) + rm.locals ≤ R.locals) (hrm : rm.cells = 0 ∧ rm.slots = 0) (hn2 : As.length = ar) (hsk : st = As.reverse ++ .ref (rs_ad G k) :: rest) (hst : (rest.map fun v => v.category).sum ≤ 8) (hd : decode cc pc = .ok (.invokevirtual index, 3)) (hn : pc + 3 = pd) (k2 : rs_X G nL p l e R s m args below meth c Q S0 pd lv (.long r0 :: rest)) : rs_X G nL p l e R s m args below meth c Q S pc lv st := by
  subst hn
  subst hsk
  intro H locs ls hP hS hl
  refine va_calll (va_runV (As := As) (rest := rest) ⟨C.1, C.2.1, C.2.2.1, C.2.2.2.1, C.2.2.2.2.1⟩ hM (cwV ar C.2.2.2.2.1 (rs_goodv wd) rfl hrm.1 hrm.2 hy hR) ⟨rs_blind G S _, rs_recv C.2.2.2.2.2.1.1 hP hk he hc, fun U hU hW => ⟨rfl, by rw [hU]; exact hP, rs_kf_to C.2.2.2.2.2.1 hS hU hW⟩⟩ rfl hn2 hl.1 rfl (lv_room hst) hd ⟨Nat.zero_le _, Nat.zero_le _⟩) hS (fun q _ h => h) (fun q h => h) (fun r u t H1 locs1 ht hvm hw hB hz1 hk1 hS1 => ?_)
  have hB : va_P (rs_D0 G) rs_cl (rs_ww G u) t.heap := hB
  rw [ht] at hB
  obtain ⟨e1, e2⟩ := Prod.mk.inj hw
  subst e1
  subst e2
  exact k2 H1 locs1 ls hB hS1 hl
theorem rs_callSl (C : rs_C G cc nL own p s m args c) {y : MethodName} {b : ByteArray} {n ar index : Nat} {r : Option FieldType} {rm : Room} {As : List Value} {r0 : Int64} {S0 : rs_St} (hM : Met l y (rs_wz y b n r) rm (va_Pc As (rs_pre G S)) (va_Ql (fun r S2 => (r, S2) = (r0, S0)) (rs_post G) (rs_A G)) 0 0 (rs_A G)) (wd : rs_cws own index y b n r) (hy : y.cls ≠ "java/lang/invoke/MethodHandle" ∧ y.cls ≠ "java/lang/invoke/VarHandle" ∧ (parseMethodDescriptor y.desc).map (fun d => d.parameters.length) = some ar) (hR : rm.frames + 1 ≤ R.frames ∧ 8 + (n + 11) + rm.locals ≤ R.locals) (hrm : rm.cells = 0 ∧ rm.slots = 0) (hn2 : As.length = ar) (hsk : st = As.reverse ++ rest) (hst : (rest.map fun v => v.category).sum ≤ 8) (hd : decode cc pc = .ok (.invokestatic index, 3)) (hn : pc + 3 = pd) (k2 : rs_X G nL p l e R s m args below meth c Q S0 pd lv (.long r0 :: rest)) : rs_X G nL p l e R s m args below meth c Q S pc lv st := by
  subst hn
  subst hsk
  intro H locs ls hP hS hl
  refine va_calll (va_runS (As := As) (rest := rest) ⟨C.1, C.2.1, C.2.2.1, C.2.2.2.1, C.2.2.2.2.1⟩ hM (va_cwS ar C.2.2.2.2.1 (rs_goods wd) rfl hrm.1 hrm.2 hy hR) ⟨rs_blind G S _, fun U hU hW => ⟨rfl, by rw [hU]; exact hP, rs_kf_to C.2.2.2.2.2.1 hS hU hW⟩⟩ rfl hn2 hl.1 rfl (lv_room hst) hd ⟨Nat.zero_le _, Nat.zero_le _⟩) hS (fun q _ h => h) (fun q h => h) (fun r u t H1 locs1 ht hvm hw hB hz1 hk1 hS1 => ?_)
  have hB : va_P (rs_D0 G) rs_cl (rs_ww G u) t.heap := hB
  rw [ht] at hB
  obtain ⟨e1, e2⟩ := Prod.mk.inj hw
  subst e1
  subst e2
  exact k2 H1 locs1 ls hB hS1 hl
theorem rs_callNl (C : rs_C G cc nL own p s m args c) {y : MethodName} {b : ByteArray} {n ar index : Nat} {r : Option FieldType} {rm : Room} {As : List Value} {r0 : Int64} {S0 : rs_St} (hM : Met l y (rs_wz y b n r) rm (va_Pc As (rs_pre G S)) (va_Ql (fun r S2 => (r, S2) = (r0, S0)) (rs_post G) (rs_A G)) 0 0 (rs_A G)) (wd : rs_cwn own index y b n r) (hy : y.cls ≠ "java/lang/invoke/MethodHandle" ∧ y.cls ≠ "java/lang/invoke/VarHandle" ∧ (parseMethodDescriptor y.desc).map (fun d => d.parameters.length) = some ar) (hR : rm.frames + 1 ≤ R.frames ∧ 8 + (n + 11) + rm.locals ≤ R.locals) (hrm : rm.cells = 0 ∧ rm.slots = 0) (hn2 : As.length = ar) (hsk : st = As.reverse ++ rest) (hst : (rest.map fun v => v.category).sum ≤ 8) (hd : decode cc pc = .ok (.invokestatic index, 3)) (hn : pc + 3 = pd) (k2 : rs_X G nL p l e R s m args below meth c Q S0 pd lv (.long r0 :: rest)) : rs_X G nL p l e R s m args below meth c Q S pc lv st := by
  subst hn
  subst hsk
  intro H locs ls hP hS hl
  refine va_calll (va_runSN (As := As) (rest := rest) ⟨C.1, C.2.1, C.2.2.1, C.2.2.2.1, C.2.2.2.2.1⟩ hM ⟨va_cnB ar C.2.2.2.2.1 (rs_goodz wd.2.2.2) rfl hrm.1 hrm.2 (C.2.2.2.2.2.1.2.2.2.1 _ wd.1) (C.2.2.2.2.1 _ wd.2.2.1) hy hR, C.2.2.2.2.1 _ wd.2.1, trivial⟩ ⟨rs_blind G S _, fun U hU hW => ⟨rfl, by rw [hU]; exact hP, rs_kf_to C.2.2.2.2.2.1 hS hU hW⟩⟩ rfl hn2 hl.1 rfl (lv_room hst) hd ⟨Nat.zero_le _, Nat.zero_le _⟩) hS (fun q _ h => h) (fun q h => h) (fun r u t H1 locs1 ht hvm hw hB hz1 hk1 hS1 => ?_)
  have hB : va_P (rs_D0 G) rs_cl (rs_ww G u) t.heap := hB
  rw [ht] at hB
  obtain ⟨e1, e2⟩ := Prod.mk.inj hw
  subst e1
  subst e2
  exact k2 H1 locs1 ls hB hS1 hl
theorem rs_callVq (C : rs_C G cc nL own p s m args c) {y : MethodName} {b : ByteArray} {n ar index : Nat} {r : Option FieldType} {rm : Room} {As : List Value} {r0 : Option Nat} {mp : Nat → Nat} {S0 : rs_St} {k ci N : Nat} {Cn : String} {T : u_T} {fs : List Value} (hk : k < 106) (he : rs_ee G S k = .inr (ci, fs)) (hc : rs_cl[ci]? = some (Cn, T, N)) (hM : Met l y (rs_wz y b n r) rm (va_Pc (.ref (rs_ad G k) :: As) (rs_pre G S)) (va_Qq (fun r S2 => (r, S2) = (r0.map mp, S0)) (rs_post G) (rs_A G)) 0 0 (rs_A G)) (wd : rs_cwv own index Cn y b n r) (hy : y.cls = Cn ∧ y.cls ≠ "java/lang/invoke/MethodHandle" ∧ y.cls ≠ "java/lang/invoke/VarHandle" ∧ (parseMethodDescriptor y.desc).map (fun d => d.parameters.length) = some ar) (hR : rm.frames + 1 ≤ R.frames ∧ 8 + (n + 11) + rm.locals ≤ R.locals) (hrm : rm.cells = 0 ∧ rm.slots = 0) (hn2 : As.length = ar) (hsk : st = As.reverse ++ .ref (rs_ad G k) :: rest) (hst : (rest.map fun v => v.category).sum ≤ 8) (hd : decode cc pc = .ok (.invokevirtual index, 3)) (hn : pc + 3 = pd) (k2 : rs_X G nL p l e R s m args below meth c Q S0 pd lv (va_rf (r0.map mp) :: rest)) : rs_X G nL p l e R s m args below meth c Q S pc lv st := by
  subst hn
  subst hsk
  intro H locs ls hP hS hl
  refine va_callq (va_runV (As := As) (rest := rest) ⟨C.1, C.2.1, C.2.2.1, C.2.2.2.1, C.2.2.2.2.1⟩ hM (cwV ar C.2.2.2.2.1 (rs_goodv wd) rfl hrm.1 hrm.2 hy hR) ⟨rs_blind G S _, rs_recv C.2.2.2.2.2.1.1 hP hk he hc, fun U hU hW => ⟨rfl, by rw [hU]; exact hP, rs_kf_to C.2.2.2.2.2.1 hS hU hW⟩⟩ rfl hn2 hl.1 rfl (lv_room hst) hd ⟨Nat.zero_le _, Nat.zero_le _⟩) hS (fun q _ h => h) (fun q h => h) (fun r u t H1 locs1 ht hvm hw hB hz1 hk1 hS1 => ?_)
  have hB : va_P (rs_D0 G) rs_cl (rs_ww G u) t.heap := hB
  rw [ht] at hB
  obtain ⟨e1, e2⟩ := Prod.mk.inj hw
  subst e1
  subst e2
  exact k2 H1 locs1 ls hB hS1 hl
theorem rs_callSq (C : rs_C G cc nL own p s m args c) {y : MethodName} {b : ByteArray} {n ar index : Nat} {r : Option FieldType} {rm : Room} {As : List Value} {r0 : Option Nat} {mp : Nat → Nat} {S0 : rs_St} (hM : Met l y (rs_wz y b n r) rm (va_Pc As (rs_pre G S)) (va_Qq (fun r S2 => (r, S2) = (r0.map mp, S0)) (rs_post G) (rs_A G)) 0 0 (rs_A G)) (wd : rs_cws own index y b n r) (hy : y.cls ≠ "java/lang/invoke/MethodHandle" ∧ y.cls ≠ "java/lang/invoke/VarHandle" ∧ (parseMethodDescriptor y.desc).map (fun d => d.parameters.length) = some ar) (hR : rm.frames + 1 ≤ R.frames ∧ 8 + (n + 11) + rm.locals ≤ R.locals) (hrm : rm.cells = 0 ∧ rm.slots = 0) (hn2 : As.length = ar) (hsk : st = As.reverse ++ rest) (hst : (rest.map fun v => v.category).sum ≤ 8) (hd : decode cc pc = .ok (.invokestatic index, 3)) (hn : pc + 3 = pd) (k2 : rs_X G nL p l e R s m args below meth c Q S0 pd lv (va_rf (r0.map mp) :: rest)) : rs_X G nL p l e R s m args below meth c Q S pc lv st := by
  subst hn
  subst hsk
  intro H locs ls hP hS hl
  refine va_callq (va_runS (As := As) (rest := rest) ⟨C.1, C.2.1, C.2.2.1, C.2.2.2.1, C.2.2.2.2.1⟩ hM (va_cwS ar C.2.2.2.2.1 (rs_goods wd) rfl hrm.1 hrm.2 hy hR) ⟨rs_blind G S _, fun U hU hW => ⟨rfl, by rw [hU]; exact hP, rs_kf_to C.2.2.2.2.2.1 hS hU hW⟩⟩ rfl hn2 hl.1 rfl (lv_room hst) hd ⟨Nat.zero_le _, Nat.zero_le _⟩) hS (fun q _ h => h) (fun q h => h) (fun r u t H1 locs1 ht hvm hw hB hz1 hk1 hS1 => ?_)
  have hB : va_P (rs_D0 G) rs_cl (rs_ww G u) t.heap := hB
  rw [ht] at hB
  obtain ⟨e1, e2⟩ := Prod.mk.inj hw
  subst e1
  subst e2
  exact k2 H1 locs1 ls hB hS1 hl
theorem rs_callNq (C : rs_C G cc nL own p s m args c) {y : MethodName} {b : ByteArray} {n ar index : Nat} {r : Option FieldType} {rm : Room} {As : List Value} {r0 : Option Nat} {mp : Nat → Nat} {S0 : rs_St} (hM : Met l y (rs_wz y b n r) rm (va_Pc As (rs_pre G S)) (va_Qq (fun r S2 => (r, S2) = (r0.map mp, S0)) (rs_post G) (rs_A G)) 0 0 (rs_A G)) (wd : rs_cwn own index y b n r) (hy : y.cls ≠ "java/lang/invoke/MethodHandle" ∧ y.cls ≠ "java/lang/invoke/VarHandle" ∧ (parseMethodDescriptor y.desc).map (fun d => d.parameters.length) = some ar) (hR : rm.frames + 1 ≤ R.frames ∧ 8 + (n + 11) + rm.locals ≤ R.locals) (hrm : rm.cells = 0 ∧ rm.slots = 0) (hn2 : As.length = ar) (hsk : st = As.reverse ++ rest) (hst : (rest.map fun v => v.category).sum ≤ 8) (hd : decode cc pc = .ok (.invokestatic index, 3)) (hn : pc + 3 = pd) (k2 : rs_X G nL p l e R s m args below meth c Q S0 pd lv (va_rf (r0.map mp) :: rest)) : rs_X G nL p l e R s m args below meth c Q S pc lv st := by
  subst hn
  subst hsk
  intro H locs ls hP hS hl
  refine va_callq (va_runSN (As := As) (rest := rest) ⟨C.1, C.2.1, C.2.2.1, C.2.2.2.1, C.2.2.2.2.1⟩ hM ⟨va_cnB ar C.2.2.2.2.1 (rs_goodz wd.2.2.2) rfl hrm.1 hrm.2 (C.2.2.2.2.2.1.2.2.2.1 _ wd.1) (C.2.2.2.2.1 _ wd.2.2.1) hy hR, C.2.2.2.2.1 _ wd.2.1, trivial⟩ ⟨rs_blind G S _, fun U hU hW => ⟨rfl, by rw [hU]; exact hP, rs_kf_to C.2.2.2.2.2.1 hS hU hW⟩⟩ rfl hn2 hl.1 rfl (lv_room hst) hd ⟨Nat.zero_le _, Nat.zero_le _⟩) hS (fun q _ h => h) (fun q h => h) (fun r u t H1 locs1 ht hvm hw hB hz1 hk1 hS1 => ?_)
  have hB : va_P (rs_D0 G) rs_cl (rs_ww G u) t.heap := hB
  rw [ht] at hB
  obtain ⟨e1, e2⟩ := Prod.mk.inj hw
  subst e1
  subst e2
  exact k2 H1 locs1 ls hB hS1 hl
theorem rs_callVv (C : rs_C G cc nL own p s m args c) {y : MethodName} {b : ByteArray} {n ar index : Nat} {r : Option FieldType} {rm : Room} {As : List Value} {S0 : rs_St} {k ci N : Nat} {Cn : String} {T : u_T} {fs : List Value} (hk : k < 106) (he : rs_ee G S k = .inr (ci, fs)) (hc : rs_cl[ci]? = some (Cn, T, N)) (hM : Met l y (rs_wz y b n r) rm (va_Pc (.ref (rs_ad G k) :: As) (rs_pre G S)) (va_Qv (fun S2 => S2 = S0) (rs_post G) (rs_A G)) 0 0 (rs_A G)) (wd : rs_cwv own index Cn y b n r) (hy : y.cls = Cn ∧ y.cls ≠ "java/lang/invoke/MethodHandle" ∧ y.cls ≠ "java/lang/invoke/VarHandle" ∧ (parseMethodDescriptor y.desc).map (fun d => d.parameters.length) = some ar) (hR : rm.frames + 1 ≤ R.frames ∧ 8 + (n + 11) + rm.locals ≤ R.locals) (hrm : rm.cells = 0 ∧ rm.slots = 0) (hn2 : As.length = ar) (hsk : st = As.reverse ++ .ref (rs_ad G k) :: rest) (hst : (rest.map fun v => v.category).sum ≤ 8) (hd : decode cc pc = .ok (.invokevirtual index, 3)) (hn : pc + 3 = pd) (k2 : rs_X G nL p l e R s m args below meth c Q S0 pd lv (rest)) : rs_X G nL p l e R s m args below meth c Q S pc lv st := by
  subst hn
  subst hsk
  intro H locs ls hP hS hl
  refine va_callv (va_runV (As := As) (rest := rest) ⟨C.1, C.2.1, C.2.2.1, C.2.2.2.1, C.2.2.2.2.1⟩ hM (cwV ar C.2.2.2.2.1 (rs_goodv wd) rfl hrm.1 hrm.2 hy hR) ⟨rs_blind G S _, rs_recv C.2.2.2.2.2.1.1 hP hk he hc, fun U hU hW => ⟨rfl, by rw [hU]; exact hP, rs_kf_to C.2.2.2.2.2.1 hS hU hW⟩⟩ rfl hn2 hl.1 rfl (lv_room hst) hd ⟨Nat.zero_le _, Nat.zero_le _⟩) hS (fun q _ h => h) (fun q h => h) (fun u t H1 locs1 ht hvm hw hB hz1 hk1 hS1 => ?_)
  have hB : va_P (rs_D0 G) rs_cl (rs_ww G u) t.heap := hB
  rw [ht] at hB
  subst hw
  exact k2 H1 locs1 ls hB hS1 hl
theorem rs_callSv (C : rs_C G cc nL own p s m args c) {y : MethodName} {b : ByteArray} {n ar index : Nat} {r : Option FieldType} {rm : Room} {As : List Value} {S0 : rs_St} (hM : Met l y (rs_wz y b n r) rm (va_Pc As (rs_pre G S)) (va_Qv (fun S2 => S2 = S0) (rs_post G) (rs_A G)) 0 0 (rs_A G)) (wd : rs_cws own index y b n r) (hy : y.cls ≠ "java/lang/invoke/MethodHandle" ∧ y.cls ≠ "java/lang/invoke/VarHandle" ∧ (parseMethodDescriptor y.desc).map (fun d => d.parameters.length) = some ar) (hR : rm.frames + 1 ≤ R.frames ∧ 8 + (n + 11) + rm.locals ≤ R.locals) (hrm : rm.cells = 0 ∧ rm.slots = 0) (hn2 : As.length = ar) (hsk : st = As.reverse ++ rest) (hst : (rest.map fun v => v.category).sum ≤ 8) (hd : decode cc pc = .ok (.invokestatic index, 3)) (hn : pc + 3 = pd) (k2 : rs_X G nL p l e R s m args below meth c Q S0 pd lv (rest)) : rs_X G nL p l e R s m args below meth c Q S pc lv st := by
  subst hn
  subst hsk
  intro H locs ls hP hS hl
  refine va_callv (va_runS (As := As) (rest := rest) ⟨C.1, C.2.1, C.2.2.1, C.2.2.2.1, C.2.2.2.2.1⟩ hM (va_cwS ar C.2.2.2.2.1 (rs_goods wd) rfl hrm.1 hrm.2 hy hR) ⟨rs_blind G S _, fun U hU hW => ⟨rfl, by rw [hU]; exact hP, rs_kf_to C.2.2.2.2.2.1 hS hU hW⟩⟩ rfl hn2 hl.1 rfl (lv_room hst) hd ⟨Nat.zero_le _, Nat.zero_le _⟩) hS (fun q _ h => h) (fun q h => h) (fun u t H1 locs1 ht hvm hw hB hz1 hk1 hS1 => ?_)
  have hB : va_P (rs_D0 G) rs_cl (rs_ww G u) t.heap := hB
  rw [ht] at hB
  subst hw
  exact k2 H1 locs1 ls hB hS1 hl
theorem rs_callNv (C : rs_C G cc nL own p s m args c) {y : MethodName} {b : ByteArray} {n ar index : Nat} {r : Option FieldType} {rm : Room} {As : List Value} {S0 : rs_St} (hM : Met l y (rs_wz y b n r) rm (va_Pc As (rs_pre G S)) (va_Qv (fun S2 => S2 = S0) (rs_post G) (rs_A G)) 0 0 (rs_A G)) (wd : rs_cwn own index y b n r) (hy : y.cls ≠ "java/lang/invoke/MethodHandle" ∧ y.cls ≠ "java/lang/invoke/VarHandle" ∧ (parseMethodDescriptor y.desc).map (fun d => d.parameters.length) = some ar) (hR : rm.frames + 1 ≤ R.frames ∧ 8 + (n + 11) + rm.locals ≤ R.locals) (hrm : rm.cells = 0 ∧ rm.slots = 0) (hn2 : As.length = ar) (hsk : st = As.reverse ++ rest) (hst : (rest.map fun v => v.category).sum ≤ 8) (hd : decode cc pc = .ok (.invokestatic index, 3)) (hn : pc + 3 = pd) (k2 : rs_X G nL p l e R s m args below meth c Q S0 pd lv (rest)) : rs_X G nL p l e R s m args below meth c Q S pc lv st := by
  subst hn
  subst hsk
  intro H locs ls hP hS hl
  refine va_callv (va_runSN (As := As) (rest := rest) ⟨C.1, C.2.1, C.2.2.1, C.2.2.2.1, C.2.2.2.2.1⟩ hM ⟨va_cnB ar C.2.2.2.2.1 (rs_goodz wd.2.2.2) rfl hrm.1 hrm.2 (C.2.2.2.2.2.1.2.2.2.1 _ wd.1) (C.2.2.2.2.1 _ wd.2.2.1) hy hR, C.2.2.2.2.1 _ wd.2.1, trivial⟩ ⟨rs_blind G S _, fun U hU hW => ⟨rfl, by rw [hU]; exact hP, rs_kf_to C.2.2.2.2.2.1 hS hU hW⟩⟩ rfl hn2 hl.1 rfl (lv_room hst) hd ⟨Nat.zero_le _, Nat.zero_le _⟩) hS (fun q _ h => h) (fun q h => h) (fun u t H1 locs1 ht hvm hw hB hz1 hk1 hS1 => ?_)
  have hB : va_P (rs_D0 G) rs_cl (rs_ww G u) t.heap := hB
  rw [ht] at hB
  subst hw
  exact k2 H1 locs1 ls hB hS1 hl
theorem rs_iret (C : rs_C G cc nL own p s m args c) {v : Int32} {o : Int32 × rs_St} (hr : meth.sig.returnType = some .int) (hlk : meth.locks = false) (ho : some (v, S) = some o) (hd : decode cc pc = .ok (.ireturn, 1)) : rs_X G nL p l e R s m args below meth c (MQ below (va_Qi (fun r S2 => (r, S2) = o) (rs_post G) (rs_A G)) args s 0 0 (rs_A G)) S pc lv [.int v] := by
  intro H locs ls hP hS hl
  exact W.iret C.1 C.2.1 hr (fun t ht hW => ⟨⟨v, S, rfl, Option.some.inj ho, by show va_P _ _ _ t.heap; rw [ht]; exact hP⟩, hS.F ht⟩) hS.2.2 hd hlk
theorem rs_lret (C : rs_C G cc nL own p s m args c) {v : Int64} {o : Int64 × rs_St} (hr : meth.sig.returnType = some .long) (hlk : meth.locks = false) (ho : some (v, S) = some o) (hd : decode cc pc = .ok (.lreturn, 1)) : rs_X G nL p l e R s m args below meth c (MQ below (va_Ql (fun r S2 => (r, S2) = o) (rs_post G) (rs_A G)) args s 0 0 (rs_A G)) S pc lv [.long v] := by
  intro H locs ls hP hS hl
  exact W.lret C.1 C.2.1 hr (fun t ht hW => ⟨⟨v, S, rfl, Option.some.inj ho, by show va_P _ _ _ t.heap; rw [ht]; exact hP⟩, hS.F ht⟩) hS.2.2 hd hlk
theorem rs_nz {v : Int32} (h : v = 0 ∨ v = 1) : narrow .boolean (.int v) = .int v := by
  rcases h with rfl | rfl <;> rfl
theorem rs_fz {v : Int32} (h : v = 0 ∨ v = 1) : fits .boolean (.int v) = true := by
  rcases h with rfl | rfl <;> rfl
theorem rs_zret (C : rs_C G cc nL own p s m args c) {v : Int32} {o : Int32 × rs_St} (hr : meth.sig.returnType = some .boolean) (hlk : meth.locks = false) (hz : v = 0 ∨ v = 1) (ho : some (v, S) = some o) (hd : decode cc pc = .ok (.ireturn, 1)) : rs_X G nL p l e R s m args below meth c (MQ below (va_Qi (fun r S2 => (r, S2) = o) (rs_post G) (rs_A G)) args s 0 0 (rs_A G)) S pc lv [.int v] := by
  intro H locs ls hP hS hl
  exact W.zret C.1 C.2.1 hr (rs_nz hz) (fun t ht hW => ⟨⟨v, S, rfl, Option.some.inj ho, by show va_P _ _ _ t.heap; rw [ht]; exact hP⟩, hS.F ht⟩) hS.2.2 hd hlk
theorem rs_vret (C : rs_C G cc nL own p s m args c) {o : rs_St} (hr : meth.sig.returnType = none) (hlk : meth.locks = false) (ho : some S = some o) (hd : decode cc pc = .ok (.return_, 1)) : rs_X G nL p l e R s m args below meth c (MQ below (va_Qv (fun S2 => S2 = o) (rs_post G) (rs_A G)) args s 0 0 (rs_A G)) S pc lv [] := by
  intro H locs ls hP hS hl
  exact W.vret C.1 C.2.1 hr (fun t ht hW => ⟨⟨S, rfl, Option.some.inj ho, by show va_P _ _ _ t.heap; rw [ht]; exact hP⟩, hS.F ht⟩) hS.2.2 hd hlk
theorem rs_aret (C : rs_C G cc nL own p s m args c) {v : Option Nat} {mp : Nat → Nat} {o : (Option Nat) × rs_St} {rt : FieldType} (hr : meth.sig.returnType = some rt) (hrt : (∃ n, rt = .object n) ∨ ∃ t, rt = .array t) (hlk : meth.locks = false) (ho : some (v, S) = some o) (hd : decode cc pc = .ok (.areturn, 1)) : rs_X G nL p l e R s m args below meth c (MQ below (va_Qq (fun r S2 => (r, S2) = (o.1.map mp, o.2)) (rs_post G) (rs_A G)) args s 0 0 (rs_A G)) S pc lv [va_rf (v.map mp)] := by
  have ho := Option.some.inj ho
  subst ho
  intro H locs ls hP hS hl
  exact W.aret C.1 C.2.1 hr hrt (by cases v with | none => exact Or.inl rfl | some a => exact Or.inr ⟨mp a, rfl⟩) (fun t ht hW => ⟨⟨v.map mp, S, rfl, rfl, by show va_P _ _ _ t.heap; rw [ht]; exact hP⟩, hS.F ht⟩) hS.2.2 hd hlk
theorem rs_met {y : MethodName} {maxL : Nat} {ret : Option FieldType} {rm : Room} {av : List Value} {Qc : Array Value → State → Outcome → State → Prop} (hG : rs_ok G) (hy : plainName y.cls = true) (hav : (lg_sl av).length ≤ maxL) (body : ∀ (p : Program) (e : Env) (s : State) (m : MethodId) (args : Array Value) (below : List Frame) (meth : Method) (c : Code), rs_C G cc maxL y.cls p s m args c → meth.sig.returnType = ret → meth.locks = false → rs_X G maxL p l e rm s m args below meth c (MQ below Qc args s 0 0 (rs_A G)) S 0 (lv_args 0 av) []) : Met l y (rs_wz y cc maxL ret) rm (va_Pc av (rs_pre G S)) Qc 0 0 (rs_A G) := by
  refine Met.ofW (cc := cc) (maxL := maxL) (ret := ret) hy rfl ?_
  intro p e s m args below meth c s₁ B hml hv
  obtain ⟨rfl, hP, hK⟩ := hv
  have hts := atoms_spec (ws := rs_wz y cc maxL ret) B.pre
  have hl := lv_entry av (n := maxL) hav
  rw [lg_entry_eq]
  exact body p e s m _ below meth c ⟨B.exec, B.bytes, hml, findClass_of_methodNamed B.named, fun w hw => hts w (List.mem_cons_of_mem _ hw), hK, hG⟩ B.returns B.notSynchronized s.heap [] _ hP va_S.rf hl
end rsRules
