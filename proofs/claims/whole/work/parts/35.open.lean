theorem rs_Xof {args : Array Value} {s : State} {tm : Term} {N : Nat} {f : Nat → Int32} (hN : N < 2 ^ 31) (harr : (Cond.arrayOf tm .int).before args s = true) (hlen : (Term.length tm).eval args s none [] s = some (.int (Int32.ofNat N))) (hel : ∀ j : Nat, j < N → (Term.elem tm (.int (Int32.ofNat j))).eval args s none [] s = some (.int (f j))) : ∃ t : Nat, tm.eval args s none [] s = some (.ref t) ∧ va_X t N f s s.heap ∧ t < s.heap.size := by
  obtain ⟨t, ht, cell, hcell, hof, hkn, hle, hsz, hv, -⟩ := va_Tof (A := fun _ => False) hN harr hlen hel (fun _ _ h => h)
  obtain ⟨t2, cell2, ht2, hat, -⟩ := Term.length_spec hlen
  cases ht.symm.trans ht2
  obtain ⟨hcell2, -, -, -⟩ := State.arrayAt?_spec hat
  cases hcell.symm.trans hcell2
  have hlt : cell.slots.size < 2 ^ 31 := by
    simp only [Term.eval, ht, hat, Option.bind_eq_bind, Option.bind_some] at hlen
    by_cases hlt : cell.slots.size < 2147483648
    · exact hlt
    · simp [hlt] at hlen
  have e : cell.slots.size = N := by
    have h2 : (nI cell.slots.size).toInt = (nI N).toInt := congrArg Int32.toInt hsz
    rw [nI_toInt hlt, nI_toInt hN] at h2
    omega
  exact ⟨t, ht, ⟨cell, hcell, hof, hkn, e, hv⟩, (Array.getElem?_eq_some_iff.mp hcell).1⟩
abbrev rs_fl : List Cond := flatC (Jvm.Cond.and given_1 narrow_1)
def rs_stm (i : Nat) : Term := Term.static RX4 (rs_sn i) "[I"
theorem rs_n1 : ∀ i, i < 5 → Cond.arrayOf (rs_stm i) .int ∈ rs_fl := by decide +kernel
theorem rs_n2 : ∀ i, i < 5 → Cond.eq (.length (rs_stm i)) (.int (Int32.ofNat 4)) ∈ rs_fl := by decide +kernel
theorem rs_n3 : ∀ i, i < 5 → ∀ j, j < 4 → Cond.eq (.elem (rs_stm i) (.int (Int32.ofNat j))) (.int (rs_sv i j)) ∈ rs_fl := by decide +kernel
theorem rs_n4 : ∀ i, i < 5 → Cond.laysStatic RX4 (rs_sn i) "[I" ∈ lw_tbl := by decide +kernel
def rs_str (i : Nat) : Term := Term.string RX3 (108 + 2 * i)
theorem rs_n5 : ∀ i, i < 8 → Cond.exactly (rs_str i) "java/lang/String" ∈ rs_fl := by decide +kernel
theorem rs_n6 : ∀ i, i < 8 → Cond.eq (.field (rs_str i) "java/lang/String" "coder" "B") (.int 0) ∈ rs_fl := by decide +kernel
theorem rs_n7 : ∀ i, i < 8 → Cond.arrayOf (.field (rs_str i) "java/lang/String" "value" "[B") .byte ∈ rs_fl := by decide +kernel
theorem rs_n8 : ∀ i, i < 8 → Cond.eq (.length (.field (rs_str i) "java/lang/String" "value" "[B")) (.int (Int32.ofNat (rs_tl.getD i 0))) ∈ rs_fl := by decide +kernel
theorem rs_n9 : ∀ i, i < 8 → ∀ j, j < rs_tl.getD i 0 → Cond.eq (.elem (.field (rs_str i) "java/lang/String" "value" "[B") (.int (Int32.ofNat j))) (.int ((rs_tv.getD i []).getD j 0)) ∈ rs_fl := by decide +kernel
theorem rs_n10 : ∀ i, i < 8 → ∀ j, j < 8 → i ≠ j → Cond.not (Cond.eq (rs_str i) (rs_str j)) ∈ rs_fl ∨ Cond.not (Cond.eq (rs_str j) (rs_str i)) ∈ rs_fl := by decide +kernel
theorem rs_n11 : ∀ i, i < 8 → Cond.stringRef RX3 (108 + 2 * i) (rs_tx i) ∈ lw_tbl := by decide +kernel
theorem rs_n12 : ∀ i, i < 8 → rs_tl.getD i 0 < 2 ^ 31 := by decide +kernel
theorem rs_n13 : Cond.laysStatic "java/lang/String" "COMPACT_STRINGS" "Z" ∈ lw_tbl ∧ Cond.laysStatic "jdk/internal/util/Preconditions" "SIOOBE_FORMATTER" "Ljava/util/function/BiFunction;" ∈ lw_tbl ∧ Cond.arrayOver (.object RX0) ∈ lw_tbl ∧ Cond.arrayOver (.object RX1) ∈ lw_tbl ∧ Cond.arrayOver (.object RX2) ∈ lw_tbl := by decide +kernel
theorem rs_n14 : Cond.eq (.static "java/lang/String" "COMPACT_STRINGS" "Z") (.int 1) ∈ rs_fl ∧ Cond.isRef (.static "jdk/internal/util/Preconditions" "SIOOBE_FORMATTER" "Ljava/util/function/BiFunction;") ∈ rs_fl := by decide +kernel
theorem rs_n15 : ∀ q ∈ rs_nf, Cond.fieldLinkNest q.1 q.2.1 RX4 q.2.2 "[I" RX4 ∈ lw_tbl := by decide +kernel
theorem rs_n16 : ∀ q ∈ rs_nm ++ [(RX1, 33, yX0_init), (RX4, 35, yX3_init), (RX4, 44, yX2_init)], Cond.methodLinkNest q.1 q.2.1 q.2.2 RX4 ∈ lw_tbl := by decide +kernel
theorem rs_wgl : ∀ w ∈ rs_wg, w ∈ lw_tbl := fun _ h => (List.mem_filter.mp h).1
theorem rs_acl {args : Array Value} {s : State} {ty : FieldType} (h : (Cond.arrayClass ty).before args s = true) (hr : ∀ n, ty ≠ .object n) : ∃ cA, ArrOfT s cA ty ∧ va_RA s cA ty := by
  obtain ⟨c, k, comp, h1, h2, h3⟩ := Cond.arrayClass_spec (args := args) (first := s) (o := none) (s := s) (idx := []) h
  refine ⟨c, fun N z => ⟨(fun k h => by cases h), k, h2, comp, h3⟩, ?_⟩
  cases ty with
  | object n => exact absurd rfl (hr n)
  | _ => exact h1
theorem rs_aol {args : Array Value} {s : State} {n : String} (h : (Cond.arrayOver (.object n)).before args s = true) : ∃ cA, ArrOfT s cA (.object n) ∧ va_RA s cA (.object n) := by
  obtain ⟨comp, c, k, h1, -, h3, h4, h5⟩ := Cond.arrayOver_spec (args := args) (first := s) (o := none) (s := s) (idx := []) h
  exact ⟨c, fun N z => ⟨(fun k h => by cases h), k, h3, comp, h4⟩, k, comp, h3, h4, h1, h5⟩
set_option maxHeartbeats 4000000 in
theorem rs_begin {args : Array Value} {s : State} (hts : ∀ w ∈ lw_tbl, w.before args s = true) (hgv : (Jvm.Cond.and given_1 narrow_1).before args s = true) : ∃ G : rs_G, rs_s0 G = s.heap.size ∧ rs_kc G s := by
  have hg : ∀ w ∈ rs_wg, w.before args s = true := fun w hw => hts w (rs_wgl w hw)
  have hf : ∀ w ∈ rs_fl, w.before args s = true := flat_of_before _ hgv
  obtain ⟨c0, iS0, hKn0⟩ := u_known (C := RX0) (T := TX0) (N := 2) (n := 2) hg wu_X0 (hg _ wj_X0)
  obtain ⟨c1, iS1, hKn1⟩ := u_known (C := RX1) (T := TX1) (N := 11) (n := 11) hg wu_X1 (hg _ wj_X1)
  obtain ⟨c2, iS2, hKn2⟩ := u_known (C := RX2) (T := TX2) (N := 3) (n := 3) hg wu_X2 (hg _ wj_X2)
  obtain ⟨c3, iS3, hKn3⟩ := u_known (C := RX3) (T := TX3) (N := 7) (n := 7) hg wu_X3 (hg _ wj_X3)
  obtain ⟨c4, iS4, hKn4⟩ := u_known (C := RX4) (T := TX4) (N := 8) (n := 8) hg wu_X4 (hg _ wj_X4)
  obtain ⟨c5, iS5, hKn5⟩ := u_known (C := RX5) (T := TX5) (N := 34) (n := 34) hg wu_X5 (hg _ wj_X5)
  obtain ⟨dC, dI, hKc⟩ : ∃ (dC : Nat → ClassId) (dI : Nat → Nat → Nat), ∀ (k : Nat) (q : vw_C), rs_cl[k]? = some q → u_Kn s q.1 q.2.1 q.2.2 (dC k) (dI k) := by
    refine ⟨fun k => if k = 0 then c0 else if k = 1 then c1 else if k = 2 then c2 else if k = 3 then c3 else if k = 4 then c4 else c5, fun k => if k = 0 then iS0 else if k = 1 then iS1 else if k = 2 then iS2 else if k = 3 then iS3 else if k = 4 then iS4 else iS5, ?_⟩
    intro k q hq
    match k, hq with
    | 0, hq => cases hq; exact hKn0
    | 1, hq => cases hq; exact hKn1
    | 2, hq => cases hq; exact hKn2
    | 3, hq => cases hq; exact hKn3
    | 4, hq => cases hq; exact hKn4
    | 5, hq => cases hq; exact hKn5
    | k + 6, hq => simp [rs_cl] at hq
  obtain ⟨a0, ha0⟩ := rs_acl (hg _ (rs_lk1 (i := 45) rfl rfl)) (fun n h => by cases h)
  obtain ⟨a1, ha1⟩ := rs_acl (hg _ (rs_lk1 (i := 129) rfl rfl)) (fun n h => by cases h)
  obtain ⟨a2, ha2⟩ := rs_acl (hg _ (rs_lk1 (i := 128) rfl rfl)) (fun n h => by cases h)
  obtain ⟨a3, ha3⟩ := rs_aol (hts _ rs_n13.2.2.1)
  obtain ⟨a4, ha4⟩ := rs_aol (hts _ rs_n13.2.2.2.1)
  obtain ⟨a5, ha5⟩ := rs_aol (hts _ rs_n13.2.2.2.2)
  have hA : ∀ a : Nat, a < s.heap.size → ¬ (fun q : Nat => s.heap.size ≤ q) a := fun a h => Nat.not_le.mpr h
  have hs0 : ∀ i : Nat, ∃ t : Nat, i < 5 → va_Z RX4 (rs_sn i) "[I" (.ref t) (fun q : Nat => s.heap.size ≤ q) s s.heap ∧ va_X t 4 (rs_sv i) s s.heap ∧ t < s.heap.size := by
    intro i
    by_cases hi : i < 5
    · obtain ⟨t, ht, hX, hl⟩ := rs_Xof (f := rs_sv i) (by decide) (hf _ (rs_n1 i hi)) (va_eqt (hf _ (rs_n2 i hi))) (fun j hj => va_eqt (hf _ (rs_n3 i hi j hj)))
      exact ⟨t, fun _ => ⟨va_Zof (hts _ (rs_n4 i hi)) (hg _ wn_X4) ht hA, hX, hl⟩⟩
    · exact ⟨0, fun h => absurd h hi⟩
  obtain ⟨tb, htb⟩ := Classical.axiomOfChoice hs0
  obtain ⟨adK, adV, hvS, hvE⟩ := vk_Sof (N := 8) (tm := rs_str) (len := rs_tl) (byt := rs_tv) (A := fun q : Nat => s.heap.size ≤ q) rs_n12 (fun i hi => hf _ (rs_n5 i hi)) (fun i hi => hf _ (rs_n6 i hi)) (fun i hi => hf _ (rs_n7 i hi)) (fun i hi => hf _ (rs_n8 i hi)) (fun i hi j hj => hf _ (rs_n9 i hi j hj)) (fun i j hi hj hij => (rs_n10 i hi j hj hij).imp (fun z => hf _ z) (fun z => hf _ z)) hA
  have e1 : ∀ i, i < 8 → (if 5 + i < 5 then tb (5 + i) else if 5 + i < 13 then adK (5 + i - 5) else adV (5 + i - 13)) = adK i := by
    intro i hi
    rw [if_neg (by omega), if_pos (by omega), Nat.add_sub_cancel_left]
  have e2 : ∀ i, i < 8 → (if 13 + i < 5 then tb (13 + i) else if 13 + i < 13 then adK (13 + i - 5) else adV (13 + i - 13)) = adV i := by
    intro i hi
    rw [if_neg (by omega), if_neg (by omega), Nat.add_sub_cancel_left]
  refine ⟨((dC, dI), fun _ => 0, fun k => if k = 0 then a0 else if k = 1 then a1 else if k = 2 then a2 else if k = 3 then a3 else if k = 4 then a4 else a5, s.heap.size, fun k => if k < 5 then tb k else if k < 13 then adK (k - 5) else adV (k - 13)), rfl, ⟨⟨hKc, fun k q hq => ?_⟩, Nat.le_refl _, fun q hq => va_Nw.of rfl (hts _ (rs_n15 q hq)), fun q hq => va_Nw.of rfl (hts _ (rs_n16 q (List.mem_append_left _ hq))), fun i hi => ?_, fun i hi => ?_, ?_, va_Zof (hts _ rs_n13.1) (hg _ wn_J0) (va_eqt (hf _ rs_n14.1)) hA, va_Zqof (hts _ rs_n13.2.1) (hg _ wn_J3) (hf _ rs_n14.2) hA⟩, va_AO.of (hts _ rs_n13.2.2.1), va_AO.of (hts _ rs_n13.2.2.2.1), va_AO.of (hts _ rs_n13.2.2.2.2), va_Nw.of rfl (hts _ (rs_n16 (RX1, 33, yX0_init) (by decide))), va_Nw.of rfl (hts _ (rs_n16 (RX4, 35, yX3_init) (by decide))), va_Nw.of rfl (hts _ (rs_n16 (RX4, 44, yX2_init) (by decide)))⟩
  · match k, hq with
    | 0, hq => cases hq; exact ha0
    | 1, hq => cases hq; exact ha1
    | 2, hq => cases hq; exact ha2
    | 3, hq => cases hq; exact ha3
    | 4, hq => cases hq; exact ha4
    | 5, hq => cases hq; exact ha5
    | k + 6, hq => simp [rs_tys] at hq
  · have := htb i hi
    show va_Z RX4 (rs_sn i) "[I" (.ref (if i < 5 then tb i else if i < 13 then adK (i - 5) else adV (i - 13))) _ s s.heap ∧ va_X (if i < 5 then tb i else if i < 13 then adK (i - 5) else adV (i - 13)) 4 (rs_sv i) s s.heap ∧ (if i < 5 then tb i else if i < 13 then adK (i - 5) else adV (i - 13)) < s.heap.size
    rw [if_pos hi]
    exact this
  · refine vk_R.of (A := args) (hts _ (rs_n11 i hi)) ?_
    show (Term.string RX3 (108 + 2 * i)).eval args s none [] s = some (.ref (if 5 + i < 5 then tb (5 + i) else if 5 + i < 13 then adK (5 + i - 5) else adV (5 + i - 13)))
    rw [e1 i hi]
    exact hvE i hi
  · refine ⟨fun i hi => ?_, fun i j hi hj e => ?_⟩
    · show va_O "java/lang/String" (if 5 + i < 5 then tb (5 + i) else if 5 + i < 13 then adK (5 + i - 5) else adV (5 + i - 13)) _ s s.heap ∧ va_OF "java/lang/String" "coder" "B" (.int 0) (if 5 + i < 5 then tb (5 + i) else if 5 + i < 13 then adK (5 + i - 5) else adV (5 + i - 13)) _ s s.heap ∧ va_OF "java/lang/String" "value" "[B" (.ref (if 13 + i < 5 then tb (13 + i) else if 13 + i < 13 then adK (13 + i - 5) else adV (13 + i - 13))) (if 5 + i < 5 then tb (5 + i) else if 5 + i < 13 then adK (5 + i - 5) else adV (5 + i - 13)) _ s s.heap ∧ va_T .byte (if 13 + i < 5 then tb (13 + i) else if 13 + i < 13 then adK (13 + i - 5) else adV (13 + i - 13)) (rs_tl.getD i 0) (fun j => .int ((rs_tv.getD i []).getD j 0)) _ s s.heap
      rw [e1 i hi, e2 i hi]
      exact hvS.1 i hi
    · have e : (if 5 + i < 5 then tb (5 + i) else if 5 + i < 13 then adK (5 + i - 5) else adV (5 + i - 13)) = (if 5 + j < 5 then tb (5 + j) else if 5 + j < 13 then adK (5 + j - 5) else adV (5 + j - 13)) := e
      rw [e1 i hi, e1 j hj] at e
      exact hvS.2 i j hi hj e
