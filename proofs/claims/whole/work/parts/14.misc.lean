theorem kk_0 : rs_kd 0 = 1 := rfl
theorem kk_1 : rs_kd 1 = 9 := rfl
theorem kk_2 : rs_kd 2 = 6 := rfl
theorem ll_2 : rs_ln 2 = 4 := rfl
theorem kk_3 : rs_kd 3 = 6 := rfl
theorem ll_3 : rs_ln 3 = 8 := rfl
theorem kk_4 : rs_kd 4 = 6 := rfl
theorem ll_4 : rs_ln 4 = 6 := rfl
theorem kk_5 : rs_kd 5 = 6 := rfl
theorem ll_5 : rs_ln 5 = 6 := rfl
theorem kk_6 : rs_kd 6 = 6 := rfl
theorem ll_6 : rs_ln 6 = 6 := rfl
theorem kk_7 : rs_kd 7 = 0 := rfl
theorem kk_8 : rs_kd 8 = 6 := rfl
theorem ll_8 : rs_ln 8 = 4 := rfl
theorem kk_9 : rs_kd 9 = 6 := rfl
theorem ll_9 : rs_ln 9 = 13 := rfl
theorem kk_10 : rs_kd 10 = 0 := rfl
theorem kk_11 : rs_kd 11 = 6 := rfl
theorem ll_11 : rs_ln 11 = 4 := rfl
theorem kk_12 : rs_kd 12 = 6 := rfl
theorem ll_12 : rs_ln 12 = 13 := rfl
theorem kk_13 : rs_kd 13 = 0 := rfl
theorem kk_14 : rs_kd 14 = 6 := rfl
theorem ll_14 : rs_ln 14 = 4 := rfl
theorem kk_15 : rs_kd 15 = 6 := rfl
theorem ll_15 : rs_ln 15 = 13 := rfl
theorem kk_16 : rs_kd 16 = 0 := rfl
theorem kk_17 : rs_kd 17 = 6 := rfl
theorem ll_17 : rs_ln 17 = 4 := rfl
theorem kk_18 : rs_kd 18 = 6 := rfl
theorem ll_18 : rs_ln 18 = 13 := rfl
theorem kk_19 : rs_kd 19 = 1 := rfl
theorem kk_20 : rs_kd 20 = 9 := rfl
theorem kk_21 : rs_kd 21 = 6 := rfl
theorem ll_21 : rs_ln 21 = 4 := rfl
theorem kk_22 : rs_kd 22 = 6 := rfl
theorem ll_22 : rs_ln 22 = 8 := rfl
theorem kk_23 : rs_kd 23 = 6 := rfl
theorem ll_23 : rs_ln 23 = 6 := rfl
theorem kk_24 : rs_kd 24 = 6 := rfl
theorem ll_24 : rs_ln 24 = 6 := rfl
theorem kk_25 : rs_kd 25 = 6 := rfl
theorem ll_25 : rs_ln 25 = 6 := rfl
theorem kk_26 : rs_kd 26 = 0 := rfl
theorem kk_27 : rs_kd 27 = 6 := rfl
theorem ll_27 : rs_ln 27 = 4 := rfl
theorem kk_28 : rs_kd 28 = 6 := rfl
theorem ll_28 : rs_ln 28 = 13 := rfl
theorem kk_29 : rs_kd 29 = 0 := rfl
theorem kk_30 : rs_kd 30 = 6 := rfl
theorem ll_30 : rs_ln 30 = 4 := rfl
theorem kk_31 : rs_kd 31 = 6 := rfl
theorem ll_31 : rs_ln 31 = 13 := rfl
theorem kk_32 : rs_kd 32 = 0 := rfl
theorem kk_33 : rs_kd 33 = 6 := rfl
theorem ll_33 : rs_ln 33 = 4 := rfl
theorem kk_34 : rs_kd 34 = 6 := rfl
theorem ll_34 : rs_ln 34 = 13 := rfl
theorem kk_35 : rs_kd 35 = 0 := rfl
theorem kk_36 : rs_kd 36 = 6 := rfl
theorem ll_36 : rs_ln 36 = 4 := rfl
theorem kk_37 : rs_kd 37 = 6 := rfl
theorem ll_37 : rs_ln 37 = 13 := rfl
theorem kk_38 : rs_kd 38 = 1 := rfl
theorem kk_39 : rs_kd 39 = 9 := rfl
theorem kk_40 : rs_kd 40 = 6 := rfl
theorem ll_40 : rs_ln 40 = 4 := rfl
theorem kk_41 : rs_kd 41 = 6 := rfl
theorem ll_41 : rs_ln 41 = 8 := rfl
theorem kk_42 : rs_kd 42 = 6 := rfl
theorem ll_42 : rs_ln 42 = 6 := rfl
theorem kk_43 : rs_kd 43 = 6 := rfl
theorem ll_43 : rs_ln 43 = 6 := rfl
theorem kk_44 : rs_kd 44 = 6 := rfl
theorem ll_44 : rs_ln 44 = 6 := rfl
theorem kk_45 : rs_kd 45 = 0 := rfl
theorem kk_46 : rs_kd 46 = 6 := rfl
theorem ll_46 : rs_ln 46 = 4 := rfl
theorem kk_47 : rs_kd 47 = 6 := rfl
theorem ll_47 : rs_ln 47 = 13 := rfl
theorem kk_48 : rs_kd 48 = 0 := rfl
theorem kk_49 : rs_kd 49 = 6 := rfl
theorem ll_49 : rs_ln 49 = 4 := rfl
theorem kk_50 : rs_kd 50 = 6 := rfl
theorem ll_50 : rs_ln 50 = 13 := rfl
theorem kk_51 : rs_kd 51 = 0 := rfl
theorem kk_52 : rs_kd 52 = 6 := rfl
theorem ll_52 : rs_ln 52 = 4 := rfl
theorem kk_53 : rs_kd 53 = 6 := rfl
theorem ll_53 : rs_ln 53 = 13 := rfl
theorem kk_54 : rs_kd 54 = 0 := rfl
theorem kk_55 : rs_kd 55 = 6 := rfl
theorem ll_55 : rs_ln 55 = 4 := rfl
theorem kk_56 : rs_kd 56 = 6 := rfl
theorem ll_56 : rs_ln 56 = 13 := rfl
theorem kk_57 : rs_kd 57 = 1 := rfl
theorem kk_58 : rs_kd 58 = 9 := rfl
theorem kk_59 : rs_kd 59 = 6 := rfl
theorem ll_59 : rs_ln 59 = 4 := rfl
theorem kk_60 : rs_kd 60 = 6 := rfl
theorem ll_60 : rs_ln 60 = 8 := rfl
theorem kk_61 : rs_kd 61 = 6 := rfl
theorem ll_61 : rs_ln 61 = 6 := rfl
theorem kk_62 : rs_kd 62 = 6 := rfl
theorem ll_62 : rs_ln 62 = 6 := rfl
theorem kk_63 : rs_kd 63 = 6 := rfl
theorem ll_63 : rs_ln 63 = 6 := rfl
theorem kk_64 : rs_kd 64 = 0 := rfl
theorem kk_65 : rs_kd 65 = 6 := rfl
theorem ll_65 : rs_ln 65 = 4 := rfl
theorem kk_66 : rs_kd 66 = 6 := rfl
theorem ll_66 : rs_ln 66 = 13 := rfl
theorem kk_67 : rs_kd 67 = 0 := rfl
theorem kk_68 : rs_kd 68 = 6 := rfl
theorem ll_68 : rs_ln 68 = 4 := rfl
theorem kk_69 : rs_kd 69 = 6 := rfl
theorem ll_69 : rs_ln 69 = 13 := rfl
theorem kk_70 : rs_kd 70 = 0 := rfl
theorem kk_71 : rs_kd 71 = 6 := rfl
theorem ll_71 : rs_ln 71 = 4 := rfl
theorem kk_72 : rs_kd 72 = 6 := rfl
theorem ll_72 : rs_ln 72 = 13 := rfl
theorem kk_73 : rs_kd 73 = 0 := rfl
theorem kk_74 : rs_kd 74 = 6 := rfl
theorem ll_74 : rs_ln 74 = 4 := rfl
theorem kk_75 : rs_kd 75 = 6 := rfl
theorem ll_75 : rs_ln 75 = 13 := rfl
theorem kk_76 : rs_kd 76 = 4 := rfl
theorem kk_77 : rs_kd 77 = 10 := rfl
theorem kk_78 : rs_kd 78 = 8 := rfl
theorem ll_78 : rs_ln 78 = 2 := rfl
theorem kk_79 : rs_kd 79 = 11 := rfl
theorem kk_80 : rs_kd 80 = 3 := rfl
theorem kk_81 : rs_kd 81 = 7 := rfl
theorem ll_81 : rs_ln 81 = 160 := rfl
theorem kk_82 : rs_kd 82 = 6 := rfl
theorem ll_82 : rs_ln 82 = 12 := rfl
theorem kk_83 : rs_kd 83 = 2 := rfl
theorem kk_84 : rs_kd 84 = 6 := rfl
theorem ll_84 : rs_ln 84 = 40 := rfl
theorem kk_85 : rs_kd 85 = 2 := rfl
theorem kk_86 : rs_kd 86 = 6 := rfl
theorem ll_86 : rs_ln 86 = 40 := rfl
theorem kk_87 : rs_kd 87 = 2 := rfl
theorem kk_88 : rs_kd 88 = 6 := rfl
theorem ll_88 : rs_ln 88 = 40 := rfl
theorem kk_89 : rs_kd 89 = 2 := rfl
theorem kk_90 : rs_kd 90 = 6 := rfl
theorem ll_90 : rs_ln 90 = 40 := rfl
theorem kk_91 : rs_kd 91 = 5 := rfl
theorem kk_92 : rs_kd 92 = 6 := rfl
theorem ll_92 : rs_ln 92 = 153 := rfl
theorem kk_93 : rs_kd 93 = 6 := rfl
theorem ll_93 : rs_ln 93 = 51 := rfl
theorem kk_94 : rs_kd 94 = 8 := rfl
theorem ll_94 : rs_ln 94 = 2 := rfl
theorem kk_95 : rs_kd 95 = 6 := rfl
theorem ll_95 : rs_ln 95 = 51 := rfl
theorem kk_96 : rs_kd 96 = 8 := rfl
theorem ll_96 : rs_ln 96 = 4 := rfl
theorem kk_97 : rs_kd 97 = 6 := rfl
theorem ll_97 : rs_ln 97 = 160 := rfl
theorem kk_98 : rs_kd 98 = 6 := rfl
theorem ll_98 : rs_ln 98 = 8 := rfl
theorem kk_99 : rs_kd 99 = 6 := rfl
theorem ll_99 : rs_ln 99 = 8 := rfl
theorem kk_100 : rs_kd 100 = 6 := rfl
theorem ll_100 : rs_ln 100 = 168 := rfl
theorem kk_101 : rs_kd 101 = 6 := rfl
theorem ll_101 : rs_ln 101 = 2016 := rfl
theorem kk_102 : rs_kd 102 = 6 := rfl
theorem ll_102 : rs_ln 102 = 4 := rfl
theorem kk_103 : rs_kd 103 = 6 := rfl
theorem ll_103 : rs_ln 103 = 4 := rfl
theorem kk_104 : rs_kd 104 = 6 := rfl
theorem ll_104 : rs_ln 104 = 160 := rfl
theorem kk_105 : rs_kd 105 = 6 := rfl
theorem ll_105 : rs_ln 105 = 51 := rfl
theorem rs_pr {α : Type} {v o : α} {S : rs_St} (h : some v = some o) : some (v, S) = some (o, S) := by rw [Option.some.inj h]
abbrev rs_Xq (G : rs_G) (nL : Nat) (p : Program) (l : Launch) (e : Env) (R : Room) (s : State) (m : MethodId) (args : Array Value) (below : List Frame) (meth : Method) (c : Code) (mp : Nat → Nat) (o : (Option Nat) × rs_St) : rs_St → Nat → List (Nat × Value) → List Value → Prop := rs_X G nL p l e R s m args below meth c (MQ below (va_Qq (fun r S2 => (r, S2) = (o.1.map mp, o.2)) (rs_post G) (rs_A G)) args s 0 0 (rs_A G))
theorem rs_lkd {x : Int32} (h0 : x.toInt ≠ 0) (h1 : x.toInt ≠ 1) : Op.lookupswitch.offset (#[(0, 27), (1, 38)] : Array (Int × Int)).toList 49 x.toInt = 49 := by
  simp [Op.lookupswitch.offset, List.find?, h0.symm, h1.symm, h0, h1]
theorem wy_yX4_feed : yX4_feed.cls = RX4 ∧ yX4_feed.cls ≠ "java/lang/invoke/MethodHandle" ∧ yX4_feed.cls ≠ "java/lang/invoke/VarHandle" ∧ (parseMethodDescriptor yX4_feed.desc).map (fun d => d.parameters.length) = some 1 := by decide +kernel
theorem wy_yX4_outside : yX4_outside.cls ≠ "java/lang/invoke/MethodHandle" ∧ yX4_outside.cls ≠ "java/lang/invoke/VarHandle" ∧ (parseMethodDescriptor yX4_outside.desc).map (fun d => d.parameters.length) = some 3 := by decide +kernel
theorem wy_yX3_append : yX3_append.cls = RX3 ∧ yX3_append.cls ≠ "java/lang/invoke/MethodHandle" ∧ yX3_append.cls ≠ "java/lang/invoke/VarHandle" ∧ (parseMethodDescriptor yX3_append.desc).map (fun d => d.parameters.length) = some 1 := by decide +kernel
theorem wy_yX4_end : yX4_end.cls = RX4 ∧ yX4_end.cls ≠ "java/lang/invoke/MethodHandle" ∧ yX4_end.cls ≠ "java/lang/invoke/VarHandle" ∧ (parseMethodDescriptor yX4_end.desc).map (fun d => d.parameters.length) = some 1 := by decide +kernel
theorem wy_yX4_text : yX4_text.cls = RX4 ∧ yX4_text.cls ≠ "java/lang/invoke/MethodHandle" ∧ yX4_text.cls ≠ "java/lang/invoke/VarHandle" ∧ (parseMethodDescriptor yX4_text.desc).map (fun d => d.parameters.length) = some 0 := by decide +kernel
theorem wy_yX3_readInto : yX3_readInto.cls = RX3 ∧ yX3_readInto.cls ≠ "java/lang/invoke/MethodHandle" ∧ yX3_readInto.cls ≠ "java/lang/invoke/VarHandle" ∧ (parseMethodDescriptor yX3_readInto.desc).map (fun d => d.parameters.length) = some 1 := by decide +kernel
theorem wy_yX1_clear : yX1_clear.cls = RX1 ∧ yX1_clear.cls ≠ "java/lang/invoke/MethodHandle" ∧ yX1_clear.cls ≠ "java/lang/invoke/VarHandle" ∧ (parseMethodDescriptor yX1_clear.desc).map (fun d => d.parameters.length) = some 0 := by decide +kernel
theorem wy_yX3_advance : yX3_advance.cls = RX3 ∧ yX3_advance.cls ≠ "java/lang/invoke/MethodHandle" ∧ yX3_advance.cls ≠ "java/lang/invoke/VarHandle" ∧ (parseMethodDescriptor yX3_advance.desc).map (fun d => d.parameters.length) = some 0 := by decide +kernel
theorem wy_yX3_takeAll : yX3_takeAll.cls = RX3 ∧ yX3_takeAll.cls ≠ "java/lang/invoke/MethodHandle" ∧ yX3_takeAll.cls ≠ "java/lang/invoke/VarHandle" ∧ (parseMethodDescriptor yX3_takeAll.desc).map (fun d => d.parameters.length) = some 2 := by decide +kernel
theorem wy_yX3_readLine : yX3_readLine.cls = RX3 ∧ yX3_readLine.cls ≠ "java/lang/invoke/MethodHandle" ∧ yX3_readLine.cls ≠ "java/lang/invoke/VarHandle" ∧ (parseMethodDescriptor yX3_readLine.desc).map (fun d => d.parameters.length) = some 1 := by decide +kernel
theorem wy_yX3_lineBegun : yX3_lineBegun.cls = RX3 ∧ yX3_lineBegun.cls ≠ "java/lang/invoke/MethodHandle" ∧ yX3_lineBegun.cls ≠ "java/lang/invoke/VarHandle" ∧ (parseMethodDescriptor yX3_lineBegun.desc).map (fun d => d.parameters.length) = some 0 := by decide +kernel
theorem wy_yX3_nameOf : yX3_nameOf.cls ≠ "java/lang/invoke/MethodHandle" ∧ yX3_nameOf.cls ≠ "java/lang/invoke/VarHandle" ∧ (parseMethodDescriptor yX3_nameOf.desc).map (fun d => d.parameters.length) = some 1 := by decide +kernel
theorem wy_yX3_isCalled : yX3_isCalled.cls = RX3 ∧ yX3_isCalled.cls ≠ "java/lang/invoke/MethodHandle" ∧ yX3_isCalled.cls ≠ "java/lang/invoke/VarHandle" ∧ (parseMethodDescriptor yX3_isCalled.desc).map (fun d => d.parameters.length) = some 1 := by decide +kernel
theorem wy_yJ0_length_8abf5 : yJ0_length_8abf5.cls = RJ0 ∧ yJ0_length_8abf5.cls ≠ "java/lang/invoke/MethodHandle" ∧ yJ0_length_8abf5.cls ≠ "java/lang/invoke/VarHandle" ∧ (parseMethodDescriptor yJ0_length_8abf5.desc).map (fun d => d.parameters.length) = some 0 := by decide +kernel
theorem wy_yJ0_coder_7d493 : yJ0_coder_7d493.cls = RJ0 ∧ yJ0_coder_7d493.cls ≠ "java/lang/invoke/MethodHandle" ∧ yJ0_coder_7d493.cls ≠ "java/lang/invoke/VarHandle" ∧ (parseMethodDescriptor yJ0_coder_7d493.desc).map (fun d => d.parameters.length) = some 0 := by decide +kernel
theorem wy_yJ0_charAt_5068e : yJ0_charAt_5068e.cls = RJ0 ∧ yJ0_charAt_5068e.cls ≠ "java/lang/invoke/MethodHandle" ∧ yJ0_charAt_5068e.cls ≠ "java/lang/invoke/VarHandle" ∧ (parseMethodDescriptor yJ0_charAt_5068e.desc).map (fun d => d.parameters.length) = some 1 := by decide +kernel
theorem wy_yJ0_isLatin1_aae02 : yJ0_isLatin1_aae02.cls = RJ0 ∧ yJ0_isLatin1_aae02.cls ≠ "java/lang/invoke/MethodHandle" ∧ yJ0_isLatin1_aae02.cls ≠ "java/lang/invoke/VarHandle" ∧ (parseMethodDescriptor yJ0_isLatin1_aae02.desc).map (fun d => d.parameters.length) = some 0 := by decide +kernel
theorem wy_yJ1_charAt_3b067 : yJ1_charAt_3b067.cls ≠ "java/lang/invoke/MethodHandle" ∧ yJ1_charAt_3b067.cls ≠ "java/lang/invoke/VarHandle" ∧ (parseMethodDescriptor yJ1_charAt_3b067.desc).map (fun d => d.parameters.length) = some 2 := by decide +kernel
theorem wy_yJ0_checkIndex_df160 : yJ0_checkIndex_df160.cls ≠ "java/lang/invoke/MethodHandle" ∧ yJ0_checkIndex_df160.cls ≠ "java/lang/invoke/VarHandle" ∧ (parseMethodDescriptor yJ0_checkIndex_df160.desc).map (fun d => d.parameters.length) = some 2 := by decide +kernel
theorem wy_yJ3_checkIndex_8e157 : yJ3_checkIndex_8e157.cls ≠ "java/lang/invoke/MethodHandle" ∧ yJ3_checkIndex_8e157.cls ≠ "java/lang/invoke/VarHandle" ∧ (parseMethodDescriptor yJ3_checkIndex_8e157.desc).map (fun d => d.parameters.length) = some 3 := by decide +kernel
theorem wy_yJ2_charAt_3b067 : yJ2_charAt_3b067.cls ≠ "java/lang/invoke/MethodHandle" ∧ yJ2_charAt_3b067.cls ≠ "java/lang/invoke/VarHandle" ∧ (parseMethodDescriptor yJ2_charAt_3b067.desc).map (fun d => d.parameters.length) = some 2 := by decide +kernel
theorem wy_yJ2_checkIndex_2214a : yJ2_checkIndex_2214a.cls ≠ "java/lang/invoke/MethodHandle" ∧ yJ2_checkIndex_2214a.cls ≠ "java/lang/invoke/VarHandle" ∧ (parseMethodDescriptor yJ2_checkIndex_2214a.desc).map (fun d => d.parameters.length) = some 2 := by decide +kernel
theorem wy_yJ2_length_9d52b : yJ2_length_9d52b.cls ≠ "java/lang/invoke/MethodHandle" ∧ yJ2_length_9d52b.cls ≠ "java/lang/invoke/VarHandle" ∧ (parseMethodDescriptor yJ2_length_9d52b.desc).map (fun d => d.parameters.length) = some 1 := by decide +kernel
theorem wy_yJ2_getChar_3b067 : yJ2_getChar_3b067.cls ≠ "java/lang/invoke/MethodHandle" ∧ yJ2_getChar_3b067.cls ≠ "java/lang/invoke/VarHandle" ∧ (parseMethodDescriptor yJ2_getChar_3b067.desc).map (fun d => d.parameters.length) = some 2 := by decide +kernel
theorem wy_yX3_readLamp : yX3_readLamp.cls = RX3 ∧ yX3_readLamp.cls ≠ "java/lang/invoke/MethodHandle" ∧ yX3_readLamp.cls ≠ "java/lang/invoke/VarHandle" ∧ (parseMethodDescriptor yX3_readLamp.desc).map (fun d => d.parameters.length) = some 2 := by decide +kernel
theorem wy_yX3_readNumber : yX3_readNumber.cls = RX3 ∧ yX3_readNumber.cls ≠ "java/lang/invoke/MethodHandle" ∧ yX3_readNumber.cls ≠ "java/lang/invoke/VarHandle" ∧ (parseMethodDescriptor yX3_readNumber.desc).map (fun d => d.parameters.length) = some 2 := by decide +kernel
theorem wy_yX1_addLamp : yX1_addLamp.cls = RX1 ∧ yX1_addLamp.cls ≠ "java/lang/invoke/MethodHandle" ∧ yX1_addLamp.cls ≠ "java/lang/invoke/VarHandle" ∧ (parseMethodDescriptor yX1_addLamp.desc).map (fun d => d.parameters.length) = some 4 := by decide +kernel
theorem wy_yX0_become : yX0_become.cls = RX0 ∧ yX0_become.cls ≠ "java/lang/invoke/MethodHandle" ∧ yX0_become.cls ≠ "java/lang/invoke/VarHandle" ∧ (parseMethodDescriptor yX0_become.desc).map (fun d => d.parameters.length) = some 2 := by decide +kernel
theorem wy_yX4_isPart : yX4_isPart.cls ≠ "java/lang/invoke/MethodHandle" ∧ yX4_isPart.cls ≠ "java/lang/invoke/VarHandle" ∧ (parseMethodDescriptor yX4_isPart.desc).map (fun d => d.parameters.length) = some 2 := by decide +kernel
theorem wy_yX0_sumUp : yX0_sumUp.cls = RX0 ∧ yX0_sumUp.cls ≠ "java/lang/invoke/MethodHandle" ∧ yX0_sumUp.cls ≠ "java/lang/invoke/VarHandle" ∧ (parseMethodDescriptor yX0_sumUp.desc).map (fun d => d.parameters.length) = some 0 := by decide +kernel
theorem wy_yX0_givesAt : yX0_givesAt.cls = RX0 ∧ yX0_givesAt.cls ≠ "java/lang/invoke/MethodHandle" ∧ yX0_givesAt.cls ≠ "java/lang/invoke/VarHandle" ∧ (parseMethodDescriptor yX0_givesAt.desc).map (fun d => d.parameters.length) = some 1 := by decide +kernel
theorem wy_yX3_readRule : yX3_readRule.cls = RX3 ∧ yX3_readRule.cls ≠ "java/lang/invoke/MethodHandle" ∧ yX3_readRule.cls ≠ "java/lang/invoke/VarHandle" ∧ (parseMethodDescriptor yX3_readRule.desc).map (fun d => d.parameters.length) = some 2 := by decide +kernel
theorem wy_yX1_copyFrom : yX1_copyFrom.cls = RX1 ∧ yX1_copyFrom.cls ≠ "java/lang/invoke/MethodHandle" ∧ yX1_copyFrom.cls ≠ "java/lang/invoke/VarHandle" ∧ (parseMethodDescriptor yX1_copyFrom.desc).map (fun d => d.parameters.length) = some 1 := by decide +kernel
theorem wy_yX0_copyFrom : yX0_copyFrom.cls = RX0 ∧ yX0_copyFrom.cls ≠ "java/lang/invoke/MethodHandle" ∧ yX0_copyFrom.cls ≠ "java/lang/invoke/VarHandle" ∧ (parseMethodDescriptor yX0_copyFrom.desc).map (fun d => d.parameters.length) = some 1 := by decide +kernel
theorem wy_yX4_fault : yX4_fault.cls = RX4 ∧ yX4_fault.cls ≠ "java/lang/invoke/MethodHandle" ∧ yX4_fault.cls ≠ "java/lang/invoke/VarHandle" ∧ (parseMethodDescriptor yX4_fault.desc).map (fun d => d.parameters.length) = some 0 := by decide +kernel
theorem wy_yX4_rule : yX4_rule.cls = RX4 ∧ yX4_rule.cls ≠ "java/lang/invoke/MethodHandle" ∧ yX4_rule.cls ≠ "java/lang/invoke/VarHandle" ∧ (parseMethodDescriptor yX4_rule.desc).map (fun d => d.parameters.length) = some 1 := by decide +kernel
theorem wy_yX1_shine : yX1_shine.cls = RX1 ∧ yX1_shine.cls ≠ "java/lang/invoke/MethodHandle" ∧ yX1_shine.cls ≠ "java/lang/invoke/VarHandle" ∧ (parseMethodDescriptor yX1_shine.desc).map (fun d => d.parameters.length) = some 0 := by decide +kernel
theorem wy_yX1_lightIn : yX1_lightIn.cls = RX1 ∧ yX1_lightIn.cls ≠ "java/lang/invoke/MethodHandle" ∧ yX1_lightIn.cls ≠ "java/lang/invoke/VarHandle" ∧ (parseMethodDescriptor yX1_lightIn.desc).map (fun d => d.parameters.length) = some 2 := by decide +kernel
theorem wy_yX0_gives : yX0_gives.cls = RX0 ∧ yX0_gives.cls ≠ "java/lang/invoke/MethodHandle" ∧ yX0_gives.cls ≠ "java/lang/invoke/VarHandle" ∧ (parseMethodDescriptor yX0_gives.desc).map (fun d => d.parameters.length) = some 2 := by decide +kernel
theorem wy_yX4_lamp : yX4_lamp.cls = RX4 ∧ yX4_lamp.cls ≠ "java/lang/invoke/MethodHandle" ∧ yX4_lamp.cls ≠ "java/lang/invoke/VarHandle" ∧ (parseMethodDescriptor yX4_lamp.desc).map (fun d => d.parameters.length) = some 2 := by decide +kernel
theorem wy_yX1_lampAt : yX1_lampAt.cls = RX1 ∧ yX1_lampAt.cls ≠ "java/lang/invoke/MethodHandle" ∧ yX1_lampAt.cls ≠ "java/lang/invoke/VarHandle" ∧ (parseMethodDescriptor yX1_lampAt.desc).map (fun d => d.parameters.length) = some 1 := by decide +kernel
theorem wy_yX4_row : yX4_row.cls = RX4 ∧ yX4_row.cls ≠ "java/lang/invoke/MethodHandle" ∧ yX4_row.cls ≠ "java/lang/invoke/VarHandle" ∧ (parseMethodDescriptor yX4_row.desc).map (fun d => d.parameters.length) = some 1 := by decide +kernel
theorem wy_yX4_alter : yX4_alter.cls = RX4 ∧ yX4_alter.cls ≠ "java/lang/invoke/MethodHandle" ∧ yX4_alter.cls ≠ "java/lang/invoke/VarHandle" ∧ (parseMethodDescriptor yX4_alter.desc).map (fun d => d.parameters.length) = some 3 := by decide +kernel
theorem wy_yX4_tell : yX4_tell.cls = RX4 ∧ yX4_tell.cls ≠ "java/lang/invoke/MethodHandle" ∧ yX4_tell.cls ≠ "java/lang/invoke/VarHandle" ∧ (parseMethodDescriptor yX4_tell.desc).map (fun d => d.parameters.length) = some 2 := by decide +kernel
theorem wy_yX4_isRule : yX4_isRule.cls ≠ "java/lang/invoke/MethodHandle" ∧ yX4_isRule.cls ≠ "java/lang/invoke/VarHandle" ∧ (parseMethodDescriptor yX4_isRule.desc).map (fun d => d.parameters.length) = some 2 := by decide +kernel
theorem wy_yX4_put : yX4_put.cls = RX4 ∧ yX4_put.cls ≠ "java/lang/invoke/MethodHandle" ∧ yX4_put.cls ≠ "java/lang/invoke/VarHandle" ∧ (parseMethodDescriptor yX4_put.desc).map (fun d => d.parameters.length) = some 3 := by decide +kernel
theorem wy_yX4_cut : yX4_cut.cls = RX4 ∧ yX4_cut.cls ≠ "java/lang/invoke/MethodHandle" ∧ yX4_cut.cls ≠ "java/lang/invoke/VarHandle" ∧ (parseMethodDescriptor yX4_cut.desc).map (fun d => d.parameters.length) = some 1 := by decide +kernel
theorem wy_yX4_rest : yX4_rest.cls = RX4 ∧ yX4_rest.cls ≠ "java/lang/invoke/MethodHandle" ∧ yX4_rest.cls ≠ "java/lang/invoke/VarHandle" ∧ (parseMethodDescriptor yX4_rest.desc).map (fun d => d.parameters.length) = some 1 := by decide +kernel
theorem wy_yX4_shoot : yX4_shoot.cls = RX4 ∧ yX4_shoot.cls ≠ "java/lang/invoke/MethodHandle" ∧ yX4_shoot.cls ≠ "java/lang/invoke/VarHandle" ∧ (parseMethodDescriptor yX4_shoot.desc).map (fun d => d.parameters.length) = some 1 := by decide +kernel
theorem wy_yX1_startOf : yX1_startOf.cls = RX1 ∧ yX1_startOf.cls ≠ "java/lang/invoke/MethodHandle" ∧ yX1_startOf.cls ≠ "java/lang/invoke/VarHandle" ∧ (parseMethodDescriptor yX1_startOf.desc).map (fun d => d.parameters.length) = some 1 := by decide +kernel
theorem wy_yX1_greatestBands : yX1_greatestBands.cls = RX1 ∧ yX1_greatestBands.cls ≠ "java/lang/invoke/MethodHandle" ∧ yX1_greatestBands.cls ≠ "java/lang/invoke/VarHandle" ∧ (parseMethodDescriptor yX1_greatestBands.desc).map (fun d => d.parameters.length) = some 1 := by decide +kernel
theorem wy_yX1_bands : yX1_bands.cls = RX1 ∧ yX1_bands.cls ≠ "java/lang/invoke/MethodHandle" ∧ yX1_bands.cls ≠ "java/lang/invoke/VarHandle" ∧ (parseMethodDescriptor yX1_bands.desc).map (fun d => d.parameters.length) = some 1 := by decide +kernel
theorem wy_yX1_bright : yX1_bright.cls = RX1 ∧ yX1_bright.cls ≠ "java/lang/invoke/MethodHandle" ∧ yX1_bright.cls ≠ "java/lang/invoke/VarHandle" ∧ (parseMethodDescriptor yX1_bright.desc).map (fun d => d.parameters.length) = some 2 := by decide +kernel
theorem wy_yX1_take : yX1_take.cls = RX1 ∧ yX1_take.cls ≠ "java/lang/invoke/MethodHandle" ∧ yX1_take.cls ≠ "java/lang/invoke/VarHandle" ∧ (parseMethodDescriptor yX1_take.desc).map (fun d => d.parameters.length) = some 1 := by decide +kernel
theorem wy_yX4_runs : yX4_runs.cls = RX4 ∧ yX4_runs.cls ≠ "java/lang/invoke/MethodHandle" ∧ yX4_runs.cls ≠ "java/lang/invoke/VarHandle" ∧ (parseMethodDescriptor yX4_runs.desc).map (fun d => d.parameters.length) = some 2 := by decide +kernel
theorem wy_yX1_leastBands : yX1_leastBands.cls = RX1 ∧ yX1_leastBands.cls ≠ "java/lang/invoke/MethodHandle" ∧ yX1_leastBands.cls ≠ "java/lang/invoke/VarHandle" ∧ (parseMethodDescriptor yX1_leastBands.desc).map (fun d => d.parameters.length) = some 1 := by decide +kernel
theorem wy_yX1_lightOfShots : yX1_lightOfShots.cls = RX1 ∧ yX1_lightOfShots.cls ≠ "java/lang/invoke/MethodHandle" ∧ yX1_lightOfShots.cls ≠ "java/lang/invoke/VarHandle" ∧ (parseMethodDescriptor yX1_lightOfShots.desc).map (fun d => d.parameters.length) = some 1 := by decide +kernel
theorem wy_yX1_lightOf : yX1_lightOf.cls = RX1 ∧ yX1_lightOf.cls ≠ "java/lang/invoke/MethodHandle" ∧ yX1_lightOf.cls ≠ "java/lang/invoke/VarHandle" ∧ (parseMethodDescriptor yX1_lightOf.desc).map (fun d => d.parameters.length) = some 1 := by decide +kernel
theorem wy_yX1_fullRows : yX1_fullRows.cls = RX1 ∧ yX1_fullRows.cls ≠ "java/lang/invoke/MethodHandle" ∧ yX1_fullRows.cls ≠ "java/lang/invoke/VarHandle" ∧ (parseMethodDescriptor yX1_fullRows.desc).map (fun d => d.parameters.length) = some 1 := by decide +kernel
theorem wy_yX4_ahead : yX4_ahead.cls = RX4 ∧ yX4_ahead.cls ≠ "java/lang/invoke/MethodHandle" ∧ yX4_ahead.cls ≠ "java/lang/invoke/VarHandle" ∧ (parseMethodDescriptor yX4_ahead.desc).map (fun d => d.parameters.length) = some 2 := by decide +kernel
theorem wy_yX4_when : yX4_when.cls = RX4 ∧ yX4_when.cls ≠ "java/lang/invoke/MethodHandle" ∧ yX4_when.cls ≠ "java/lang/invoke/VarHandle" ∧ (parseMethodDescriptor yX4_when.desc).map (fun d => d.parameters.length) = some 1 := by decide +kernel
theorem wy_yX4_again : yX4_again.cls = RX4 ∧ yX4_again.cls ≠ "java/lang/invoke/MethodHandle" ∧ yX4_again.cls ≠ "java/lang/invoke/VarHandle" ∧ (parseMethodDescriptor yX4_again.desc).map (fun d => d.parameters.length) = some 0 := by decide +kernel
theorem wy_yX1_isLikeFirst : yX1_isLikeFirst.cls = RX1 ∧ yX1_isLikeFirst.cls ≠ "java/lang/invoke/MethodHandle" ∧ yX1_isLikeFirst.cls ≠ "java/lang/invoke/VarHandle" ∧ (parseMethodDescriptor yX1_isLikeFirst.desc).map (fun d => d.parameters.length) = some 1 := by decide +kernel
theorem wy_yX4_best : yX4_best.cls = RX4 ∧ yX4_best.cls ≠ "java/lang/invoke/MethodHandle" ∧ yX4_best.cls ≠ "java/lang/invoke/VarHandle" ∧ (parseMethodDescriptor yX4_best.desc).map (fun d => d.parameters.length) = some 3 := by decide +kernel
theorem wy_yX4_kind : yX4_kind.cls = RX4 ∧ yX4_kind.cls ≠ "java/lang/invoke/MethodHandle" ∧ yX4_kind.cls ≠ "java/lang/invoke/VarHandle" ∧ (parseMethodDescriptor yX4_kind.desc).map (fun d => d.parameters.length) = some 3 := by decide +kernel
theorem wy_yX4_bestPart : yX4_bestPart.cls = RX4 ∧ yX4_bestPart.cls ≠ "java/lang/invoke/MethodHandle" ∧ yX4_bestPart.cls ≠ "java/lang/invoke/VarHandle" ∧ (parseMethodDescriptor yX4_bestPart.desc).map (fun d => d.parameters.length) = some 4 := by decide +kernel
theorem wy_yX4_phase : yX4_phase.cls = RX4 ∧ yX4_phase.cls ≠ "java/lang/invoke/MethodHandle" ∧ yX4_phase.cls ≠ "java/lang/invoke/VarHandle" ∧ (parseMethodDescriptor yX4_phase.desc).map (fun d => d.parameters.length) = some 3 := by decide +kernel
theorem wy_yX4_out : yX4_out.cls = RX4 ∧ yX4_out.cls ≠ "java/lang/invoke/MethodHandle" ∧ yX4_out.cls ≠ "java/lang/invoke/VarHandle" ∧ (parseMethodDescriptor yX4_out.desc).map (fun d => d.parameters.length) = some 2 := by decide +kernel
theorem wy_yX0_putOut : yX0_putOut.cls = RX0 ∧ yX0_putOut.cls ≠ "java/lang/invoke/MethodHandle" ∧ yX0_putOut.cls ≠ "java/lang/invoke/VarHandle" ∧ (parseMethodDescriptor yX0_putOut.desc).map (fun d => d.parameters.length) = some 0 := by decide +kernel
theorem wy_yJ7_fill_53178 : yJ7_fill_53178.cls ≠ "java/lang/invoke/MethodHandle" ∧ yJ7_fill_53178.cls ≠ "java/lang/invoke/VarHandle" ∧ (parseMethodDescriptor yJ7_fill_53178.desc).map (fun d => d.parameters.length) = some 2 := by decide +kernel
theorem wy_yX4_luck : yX4_luck.cls = RX4 ∧ yX4_luck.cls ≠ "java/lang/invoke/MethodHandle" ∧ yX4_luck.cls ≠ "java/lang/invoke/VarHandle" ∧ (parseMethodDescriptor yX4_luck.desc).map (fun d => d.parameters.length) = some 4 := by decide +kernel
theorem wy_yX4_draftSteadyLamps : yX4_draftSteadyLamps.cls = RX4 ∧ yX4_draftSteadyLamps.cls ≠ "java/lang/invoke/MethodHandle" ∧ yX4_draftSteadyLamps.cls ≠ "java/lang/invoke/VarHandle" ∧ (parseMethodDescriptor yX4_draftSteadyLamps.desc).map (fun d => d.parameters.length) = some 0 := by decide +kernel
theorem wy_yX4_inLowestTerms : yX4_inLowestTerms.cls ≠ "java/lang/invoke/MethodHandle" ∧ yX4_inLowestTerms.cls ≠ "java/lang/invoke/VarHandle" ∧ (parseMethodDescriptor yX4_inLowestTerms.desc).map (fun d => d.parameters.length) = some 3 := by decide +kernel
theorem wy_yX4_mean : yX4_mean.cls = RX4 ∧ yX4_mean.cls ≠ "java/lang/invoke/MethodHandle" ∧ yX4_mean.cls ≠ "java/lang/invoke/VarHandle" ∧ (parseMethodDescriptor yX4_mean.desc).map (fun d => d.parameters.length) = some 3 := by decide +kernel
theorem wy_yX4_see : yX4_see.cls = RX4 ∧ yX4_see.cls ≠ "java/lang/invoke/MethodHandle" ∧ yX4_see.cls ≠ "java/lang/invoke/VarHandle" ∧ (parseMethodDescriptor yX4_see.desc).map (fun d => d.parameters.length) = some 3 := by decide +kernel
theorem wy_yX1_addSeen : yX1_addSeen.cls = RX1 ∧ yX1_addSeen.cls ≠ "java/lang/invoke/MethodHandle" ∧ yX1_addSeen.cls ≠ "java/lang/invoke/VarHandle" ∧ (parseMethodDescriptor yX1_addSeen.desc).map (fun d => d.parameters.length) = some 3 := by decide +kernel
theorem wy_yX4_forget : yX4_forget.cls = RX4 ∧ yX4_forget.cls ≠ "java/lang/invoke/MethodHandle" ∧ yX4_forget.cls ≠ "java/lang/invoke/VarHandle" ∧ (parseMethodDescriptor yX4_forget.desc).map (fun d => d.parameters.length) = some 1 := by decide +kernel
theorem wy_yX4_kinds : yX4_kinds.cls = RX4 ∧ yX4_kinds.cls ≠ "java/lang/invoke/MethodHandle" ∧ yX4_kinds.cls ≠ "java/lang/invoke/VarHandle" ∧ (parseMethodDescriptor yX4_kinds.desc).map (fun d => d.parameters.length) = some 1 := by decide +kernel
theorem wy_yX4_fitting : yX4_fitting.cls = RX4 ∧ yX4_fitting.cls ≠ "java/lang/invoke/MethodHandle" ∧ yX4_fitting.cls ≠ "java/lang/invoke/VarHandle" ∧ (parseMethodDescriptor yX4_fitting.desc).map (fun d => d.parameters.length) = some 2 := by decide +kernel
theorem wy_yX1_isAsSeen : yX1_isAsSeen.cls = RX1 ∧ yX1_isAsSeen.cls ≠ "java/lang/invoke/MethodHandle" ∧ yX1_isAsSeen.cls ≠ "java/lang/invoke/VarHandle" ∧ (parseMethodDescriptor yX1_isAsSeen.desc).map (fun d => d.parameters.length) = some 0 := by decide +kernel
theorem wy_yX4_phases : yX4_phases.cls = RX4 ∧ yX4_phases.cls ≠ "java/lang/invoke/MethodHandle" ∧ yX4_phases.cls ≠ "java/lang/invoke/VarHandle" ∧ (parseMethodDescriptor yX4_phases.desc).map (fun d => d.parameters.length) = some 1 := by decide +kernel
theorem wy_yX4_ask : yX4_ask.cls = RX4 ∧ yX4_ask.cls ≠ "java/lang/invoke/MethodHandle" ∧ yX4_ask.cls ≠ "java/lang/invoke/VarHandle" ∧ (parseMethodDescriptor yX4_ask.desc).map (fun d => d.parameters.length) = some 2 := by decide +kernel
theorem wy_yJ6_bitCount_0f7a4 : yJ6_bitCount_0f7a4.cls ≠ "java/lang/invoke/MethodHandle" ∧ yJ6_bitCount_0f7a4.cls ≠ "java/lang/invoke/VarHandle" ∧ (parseMethodDescriptor yJ6_bitCount_0f7a4.desc).map (fun d => d.parameters.length) = some 1 := by decide +kernel
theorem wy_yX4_mostAlike : yX4_mostAlike.cls = RX4 ∧ yX4_mostAlike.cls ≠ "java/lang/invoke/MethodHandle" ∧ yX4_mostAlike.cls ≠ "java/lang/invoke/VarHandle" ∧ (parseMethodDescriptor yX4_mostAlike.desc).map (fun d => d.parameters.length) = some 4 := by decide +kernel
theorem wy_yX4_drift : yX4_drift.cls = RX4 ∧ yX4_drift.cls ≠ "java/lang/invoke/MethodHandle" ∧ yX4_drift.cls ≠ "java/lang/invoke/VarHandle" ∧ (parseMethodDescriptor yX4_drift.desc).map (fun d => d.parameters.length) = some 3 := by decide +kernel
theorem wy_yX4_keep : yX4_keep.cls = RX4 ∧ yX4_keep.cls ≠ "java/lang/invoke/MethodHandle" ∧ yX4_keep.cls ≠ "java/lang/invoke/VarHandle" ∧ (parseMethodDescriptor yX4_keep.desc).map (fun d => d.parameters.length) = some 1 := by decide +kernel
theorem wy_yX4_back : yX4_back.cls = RX4 ∧ yX4_back.cls ≠ "java/lang/invoke/MethodHandle" ∧ yX4_back.cls ≠ "java/lang/invoke/VarHandle" ∧ (parseMethodDescriptor yX4_back.desc).map (fun d => d.parameters.length) = some 1 := by decide +kernel
theorem wy_yX4_sheet : yX4_sheet.cls = RX4 ∧ yX4_sheet.cls ≠ "java/lang/invoke/MethodHandle" ∧ yX4_sheet.cls ≠ "java/lang/invoke/VarHandle" ∧ (parseMethodDescriptor yX4_sheet.desc).map (fun d => d.parameters.length) = some 3 := by decide +kernel
theorem wy_yX2_renew : yX2_renew.cls = RX2 ∧ yX2_renew.cls ≠ "java/lang/invoke/MethodHandle" ∧ yX2_renew.cls ≠ "java/lang/invoke/VarHandle" ∧ (parseMethodDescriptor yX2_renew.desc).map (fun d => d.parameters.length) = some 2 := by decide +kernel
theorem wy_yX4_lay : yX4_lay.cls = RX4 ∧ yX4_lay.cls ≠ "java/lang/invoke/MethodHandle" ∧ yX4_lay.cls ≠ "java/lang/invoke/VarHandle" ∧ (parseMethodDescriptor yX4_lay.desc).map (fun d => d.parameters.length) = some 3 := by decide +kernel
theorem wy_yX2_faultAt : yX2_faultAt.cls = RX2 ∧ yX2_faultAt.cls ≠ "java/lang/invoke/MethodHandle" ∧ yX2_faultAt.cls ≠ "java/lang/invoke/VarHandle" ∧ (parseMethodDescriptor yX2_faultAt.desc).map (fun d => d.parameters.length) = some 1 := by decide +kernel
theorem wy_yX2_store : yX2_store.cls = RX2 ∧ yX2_store.cls ≠ "java/lang/invoke/MethodHandle" ∧ yX2_store.cls ≠ "java/lang/invoke/VarHandle" ∧ (parseMethodDescriptor yX2_store.desc).map (fun d => d.parameters.length) = some 2 := by decide +kernel
theorem wy_yX4_read : yX4_read.cls = RX4 ∧ yX4_read.cls ≠ "java/lang/invoke/MethodHandle" ∧ yX4_read.cls ≠ "java/lang/invoke/VarHandle" ∧ (parseMethodDescriptor yX4_read.desc).map (fun d => d.parameters.length) = some 4 := by decide +kernel
theorem wy_yX2_faultOfPair : yX2_faultOfPair.cls = RX2 ∧ yX2_faultOfPair.cls ≠ "java/lang/invoke/MethodHandle" ∧ yX2_faultOfPair.cls ≠ "java/lang/invoke/VarHandle" ∧ (parseMethodDescriptor yX2_faultOfPair.desc).map (fun d => d.parameters.length) = some 2 := by decide +kernel
theorem wy_yX4_isPhaseOfLamp : yX4_isPhaseOfLamp.cls = RX4 ∧ yX4_isPhaseOfLamp.cls ≠ "java/lang/invoke/MethodHandle" ∧ yX4_isPhaseOfLamp.cls ≠ "java/lang/invoke/VarHandle" ∧ (parseMethodDescriptor yX4_isPhaseOfLamp.desc).map (fun d => d.parameters.length) = some 2 := by decide +kernel
theorem wy_yX4_takePhases : yX4_takePhases.cls = RX4 ∧ yX4_takePhases.cls ≠ "java/lang/invoke/MethodHandle" ∧ yX4_takePhases.cls ≠ "java/lang/invoke/VarHandle" ∧ (parseMethodDescriptor yX4_takePhases.desc).map (fun d => d.parameters.length) = some 3 := by decide +kernel
theorem wy_yX4_torn : yX4_torn.cls = RX4 ∧ yX4_torn.cls ≠ "java/lang/invoke/MethodHandle" ∧ yX4_torn.cls ≠ "java/lang/invoke/VarHandle" ∧ (parseMethodDescriptor yX4_torn.desc).map (fun d => d.parameters.length) = some 0 := by decide +kernel
theorem wy_yX4_count : yX4_count.cls = RX4 ∧ yX4_count.cls ≠ "java/lang/invoke/MethodHandle" ∧ yX4_count.cls ≠ "java/lang/invoke/VarHandle" ∧ (parseMethodDescriptor yX4_count.desc).map (fun d => d.parameters.length) = some 1 := by decide +kernel
theorem wy_yX1_sumOfPart : yX1_sumOfPart.cls = RX1 ∧ yX1_sumOfPart.cls ≠ "java/lang/invoke/MethodHandle" ∧ yX1_sumOfPart.cls ≠ "java/lang/invoke/VarHandle" ∧ (parseMethodDescriptor yX1_sumOfPart.desc).map (fun d => d.parameters.length) = some 1 := by decide +kernel
theorem wy_yX5_firstDraft : yX5_firstDraft.cls = RX5 ∧ yX5_firstDraft.cls ≠ "java/lang/invoke/MethodHandle" ∧ yX5_firstDraft.cls ≠ "java/lang/invoke/VarHandle" ∧ (parseMethodDescriptor yX5_firstDraft.desc).map (fun d => d.parameters.length) = some 0 := by decide +kernel
theorem wy_yX5_keepDraft : yX5_keepDraft.cls = RX5 ∧ yX5_keepDraft.cls ≠ "java/lang/invoke/MethodHandle" ∧ yX5_keepDraft.cls ≠ "java/lang/invoke/VarHandle" ∧ (parseMethodDescriptor yX5_keepDraft.desc).map (fun d => d.parameters.length) = some 0 := by decide +kernel
theorem wy_yX5_feed : yX5_feed.cls = RX5 ∧ yX5_feed.cls ≠ "java/lang/invoke/MethodHandle" ∧ yX5_feed.cls ≠ "java/lang/invoke/VarHandle" ∧ (parseMethodDescriptor yX5_feed.desc).map (fun d => d.parameters.length) = some 1 := by decide +kernel
theorem wy_yX5_in : yX5_in.cls ≠ "java/lang/invoke/MethodHandle" ∧ yX5_in.cls ≠ "java/lang/invoke/VarHandle" ∧ (parseMethodDescriptor yX5_in.desc).map (fun d => d.parameters.length) = some 3 := by decide +kernel
theorem wy_yX5_end : yX5_end.cls = RX5 ∧ yX5_end.cls ≠ "java/lang/invoke/MethodHandle" ∧ yX5_end.cls ≠ "java/lang/invoke/VarHandle" ∧ (parseMethodDescriptor yX5_end.desc).map (fun d => d.parameters.length) = some 1 := by decide +kernel
theorem wy_yX5_text : yX5_text.cls = RX5 ∧ yX5_text.cls ≠ "java/lang/invoke/MethodHandle" ∧ yX5_text.cls ≠ "java/lang/invoke/VarHandle" ∧ (parseMethodDescriptor yX5_text.desc).map (fun d => d.parameters.length) = some 0 := by decide +kernel
theorem wy_yX5_reads : yX5_reads.cls = RX5 ∧ yX5_reads.cls ≠ "java/lang/invoke/MethodHandle" ∧ yX5_reads.cls ≠ "java/lang/invoke/VarHandle" ∧ (parseMethodDescriptor yX5_reads.desc).map (fun d => d.parameters.length) = some 0 := by decide +kernel
theorem wy_yX5_byteAt : yX5_byteAt.cls = RX5 ∧ yX5_byteAt.cls ≠ "java/lang/invoke/MethodHandle" ∧ yX5_byteAt.cls ≠ "java/lang/invoke/VarHandle" ∧ (parseMethodDescriptor yX5_byteAt.desc).map (fun d => d.parameters.length) = some 1 := by decide +kernel
theorem wy_yX5_requires : yX5_requires.cls = RX5 ∧ yX5_requires.cls ≠ "java/lang/invoke/MethodHandle" ∧ yX5_requires.cls ≠ "java/lang/invoke/VarHandle" ∧ (parseMethodDescriptor yX5_requires.desc).map (fun d => d.parameters.length) = some 2 := by decide +kernel
theorem wy_yX5_readLine : yX5_readLine.cls = RX5 ∧ yX5_readLine.cls ≠ "java/lang/invoke/MethodHandle" ∧ yX5_readLine.cls ≠ "java/lang/invoke/VarHandle" ∧ (parseMethodDescriptor yX5_readLine.desc).map (fun d => d.parameters.length) = some 0 := by decide +kernel
theorem wy_yX5_lineNow : yX5_lineNow.cls = RX5 ∧ yX5_lineNow.cls ≠ "java/lang/invoke/MethodHandle" ∧ yX5_lineNow.cls ≠ "java/lang/invoke/VarHandle" ∧ (parseMethodDescriptor yX5_lineNow.desc).map (fun d => d.parameters.length) = some 0 := by decide +kernel
theorem wy_yX5_is : yX5_is.cls = RX5 ∧ yX5_is.cls ≠ "java/lang/invoke/MethodHandle" ∧ yX5_is.cls ≠ "java/lang/invoke/VarHandle" ∧ (parseMethodDescriptor yX5_is.desc).map (fun d => d.parameters.length) = some 4 := by decide +kernel
theorem wy_yX5_endsIn : yX5_endsIn.cls = RX5 ∧ yX5_endsIn.cls ≠ "java/lang/invoke/MethodHandle" ∧ yX5_endsIn.cls ≠ "java/lang/invoke/VarHandle" ∧ (parseMethodDescriptor yX5_endsIn.desc).map (fun d => d.parameters.length) = some 3 := by decide +kernel
theorem wy_yX5_readLineOf : yX5_readLineOf.cls = RX5 ∧ yX5_readLineOf.cls ≠ "java/lang/invoke/MethodHandle" ∧ yX5_readLineOf.cls ≠ "java/lang/invoke/VarHandle" ∧ (parseMethodDescriptor yX5_readLineOf.desc).map (fun d => d.parameters.length) = some 1 := by decide +kernel
theorem wy_yX5_lowTold : yX5_lowTold.cls ≠ "java/lang/invoke/MethodHandle" ∧ yX5_lowTold.cls ≠ "java/lang/invoke/VarHandle" ∧ (parseMethodDescriptor yX5_lowTold.desc).map (fun d => d.parameters.length) = some 1 := by decide +kernel
theorem wy_yX5_mostTold : yX5_mostTold.cls ≠ "java/lang/invoke/MethodHandle" ∧ yX5_mostTold.cls ≠ "java/lang/invoke/VarHandle" ∧ (parseMethodDescriptor yX5_mostTold.desc).map (fun d => d.parameters.length) = some 1 := by decide +kernel
theorem wy_yX5_readNumber : yX5_readNumber.cls = RX5 ∧ yX5_readNumber.cls ≠ "java/lang/invoke/MethodHandle" ∧ yX5_readNumber.cls ≠ "java/lang/invoke/VarHandle" ∧ (parseMethodDescriptor yX5_readNumber.desc).map (fun d => d.parameters.length) = some 2 := by decide +kernel
theorem wy_yX5_lowOf : yX5_lowOf.cls ≠ "java/lang/invoke/MethodHandle" ∧ yX5_lowOf.cls ≠ "java/lang/invoke/VarHandle" ∧ (parseMethodDescriptor yX5_lowOf.desc).map (fun d => d.parameters.length) = some 1 := by decide +kernel
theorem wy_yX5_mostOf : yX5_mostOf.cls ≠ "java/lang/invoke/MethodHandle" ∧ yX5_mostOf.cls ≠ "java/lang/invoke/VarHandle" ∧ (parseMethodDescriptor yX5_mostOf.desc).map (fun d => d.parameters.length) = some 1 := by decide +kernel
theorem wy_yX5_fault : yX5_fault.cls = RX5 ∧ yX5_fault.cls ≠ "java/lang/invoke/MethodHandle" ∧ yX5_fault.cls ≠ "java/lang/invoke/VarHandle" ∧ (parseMethodDescriptor yX5_fault.desc).map (fun d => d.parameters.length) = some 0 := by decide +kernel
theorem wy_yX5_rule : yX5_rule.cls = RX5 ∧ yX5_rule.cls ≠ "java/lang/invoke/MethodHandle" ∧ yX5_rule.cls ≠ "java/lang/invoke/VarHandle" ∧ (parseMethodDescriptor yX5_rule.desc).map (fun d => d.parameters.length) = some 1 := by decide +kernel
theorem wy_yX5_starts : yX5_starts.cls = RX5 ∧ yX5_starts.cls ≠ "java/lang/invoke/MethodHandle" ∧ yX5_starts.cls ≠ "java/lang/invoke/VarHandle" ∧ (parseMethodDescriptor yX5_starts.desc).map (fun d => d.parameters.length) = some 0 := by decide +kernel
theorem wy_yX5_shine : yX5_shine.cls = RX5 ∧ yX5_shine.cls ≠ "java/lang/invoke/MethodHandle" ∧ yX5_shine.cls ≠ "java/lang/invoke/VarHandle" ∧ (parseMethodDescriptor yX5_shine.desc).map (fun d => d.parameters.length) = some 1 := by decide +kernel
theorem wy_yX5_of : yX5_of.cls = RX5 ∧ yX5_of.cls ≠ "java/lang/invoke/MethodHandle" ∧ yX5_of.cls ≠ "java/lang/invoke/VarHandle" ∧ (parseMethodDescriptor yX5_of.desc).map (fun d => d.parameters.length) = some 2 := by decide +kernel
theorem wy_yX5_gives : yX5_gives.cls = RX5 ∧ yX5_gives.cls ≠ "java/lang/invoke/MethodHandle" ∧ yX5_gives.cls ≠ "java/lang/invoke/VarHandle" ∧ (parseMethodDescriptor yX5_gives.desc).map (fun d => d.parameters.length) = some 2 := by decide +kernel
theorem wy_yX5_lamp : yX5_lamp.cls = RX5 ∧ yX5_lamp.cls ≠ "java/lang/invoke/MethodHandle" ∧ yX5_lamp.cls ≠ "java/lang/invoke/VarHandle" ∧ (parseMethodDescriptor yX5_lamp.desc).map (fun d => d.parameters.length) = some 2 := by decide +kernel
theorem wy_yX5_isLamp : yX5_isLamp.cls = RX5 ∧ yX5_isLamp.cls ≠ "java/lang/invoke/MethodHandle" ∧ yX5_isLamp.cls ≠ "java/lang/invoke/VarHandle" ∧ (parseMethodDescriptor yX5_isLamp.desc).map (fun d => d.parameters.length) = some 1 := by decide +kernel
theorem wy_yX5_row : yX5_row.cls = RX5 ∧ yX5_row.cls ≠ "java/lang/invoke/MethodHandle" ∧ yX5_row.cls ≠ "java/lang/invoke/VarHandle" ∧ (parseMethodDescriptor yX5_row.desc).map (fun d => d.parameters.length) = some 1 := by decide +kernel
theorem wy_yX5_isRow : yX5_isRow.cls ≠ "java/lang/invoke/MethodHandle" ∧ yX5_isRow.cls ≠ "java/lang/invoke/VarHandle" ∧ (parseMethodDescriptor yX5_isRow.desc).map (fun d => d.parameters.length) = some 1 := by decide +kernel
theorem wy_yX5_alter : yX5_alter.cls = RX5 ∧ yX5_alter.cls ≠ "java/lang/invoke/MethodHandle" ∧ yX5_alter.cls ≠ "java/lang/invoke/VarHandle" ∧ (parseMethodDescriptor yX5_alter.desc).map (fun d => d.parameters.length) = some 3 := by decide +kernel
theorem wy_yX5_becomes : yX5_becomes.cls = RX5 ∧ yX5_becomes.cls ≠ "java/lang/invoke/MethodHandle" ∧ yX5_becomes.cls ≠ "java/lang/invoke/VarHandle" ∧ (parseMethodDescriptor yX5_becomes.desc).map (fun d => d.parameters.length) = some 2 := by decide +kernel
theorem wy_yX5_tell : yX5_tell.cls = RX5 ∧ yX5_tell.cls ≠ "java/lang/invoke/MethodHandle" ∧ yX5_tell.cls ≠ "java/lang/invoke/VarHandle" ∧ (parseMethodDescriptor yX5_tell.desc).map (fun d => d.parameters.length) = some 2 := by decide +kernel
theorem wy_yX5_put : yX5_put.cls = RX5 ∧ yX5_put.cls ≠ "java/lang/invoke/MethodHandle" ∧ yX5_put.cls ≠ "java/lang/invoke/VarHandle" ∧ (parseMethodDescriptor yX5_put.desc).map (fun d => d.parameters.length) = some 3 := by decide +kernel
theorem wy_yX5_cut : yX5_cut.cls = RX5 ∧ yX5_cut.cls ≠ "java/lang/invoke/MethodHandle" ∧ yX5_cut.cls ≠ "java/lang/invoke/VarHandle" ∧ (parseMethodDescriptor yX5_cut.desc).map (fun d => d.parameters.length) = some 1 := by decide +kernel
theorem wy_yX5_rest : yX5_rest.cls = RX5 ∧ yX5_rest.cls ≠ "java/lang/invoke/MethodHandle" ∧ yX5_rest.cls ≠ "java/lang/invoke/VarHandle" ∧ (parseMethodDescriptor yX5_rest.desc).map (fun d => d.parameters.length) = some 1 := by decide +kernel
theorem wy_yX5_shoot : yX5_shoot.cls = RX5 ∧ yX5_shoot.cls ≠ "java/lang/invoke/MethodHandle" ∧ yX5_shoot.cls ≠ "java/lang/invoke/VarHandle" ∧ (parseMethodDescriptor yX5_shoot.desc).map (fun d => d.parameters.length) = some 1 := by decide +kernel
theorem wy_yX5_isFar : yX5_isFar.cls ≠ "java/lang/invoke/MethodHandle" ∧ yX5_isFar.cls ≠ "java/lang/invoke/VarHandle" ∧ (parseMethodDescriptor yX5_isFar.desc).map (fun d => d.parameters.length) = some 1 := by decide +kernel
theorem wy_yX5_shotsGo : yX5_shotsGo.cls = RX5 ∧ yX5_shotsGo.cls ≠ "java/lang/invoke/MethodHandle" ∧ yX5_shotsGo.cls ≠ "java/lang/invoke/VarHandle" ∧ (parseMethodDescriptor yX5_shotsGo.desc).map (fun d => d.parameters.length) = some 1 := by decide +kernel
theorem wy_yX5_shotGoes : yX5_shotGoes.cls = RX5 ∧ yX5_shotGoes.cls ≠ "java/lang/invoke/MethodHandle" ∧ yX5_shotGoes.cls ≠ "java/lang/invoke/VarHandle" ∧ (parseMethodDescriptor yX5_shotGoes.desc).map (fun d => d.parameters.length) = some 0 := by decide +kernel
theorem wy_yX5_rowAt : yX5_rowAt.cls = RX5 ∧ yX5_rowAt.cls ≠ "java/lang/invoke/MethodHandle" ∧ yX5_rowAt.cls ≠ "java/lang/invoke/VarHandle" ∧ (parseMethodDescriptor yX5_rowAt.desc).map (fun d => d.parameters.length) = some 1 := by decide +kernel
theorem wy_yX5_flag : yX5_flag.cls ≠ "java/lang/invoke/MethodHandle" ∧ yX5_flag.cls ≠ "java/lang/invoke/VarHandle" ∧ (parseMethodDescriptor yX5_flag.desc).map (fun d => d.parameters.length) = some 1 := by decide +kernel
theorem wy_yX5_settles : yX5_settles.cls = RX5 ∧ yX5_settles.cls ≠ "java/lang/invoke/MethodHandle" ∧ yX5_settles.cls ≠ "java/lang/invoke/VarHandle" ∧ (parseMethodDescriptor yX5_settles.desc).map (fun d => d.parameters.length) = some 0 := by decide +kernel
theorem wy_yX5_runs : yX5_runs.cls = RX5 ∧ yX5_runs.cls ≠ "java/lang/invoke/MethodHandle" ∧ yX5_runs.cls ≠ "java/lang/invoke/VarHandle" ∧ (parseMethodDescriptor yX5_runs.desc).map (fun d => d.parameters.length) = some 2 := by decide +kernel
theorem wy_yX5_ahead : yX5_ahead.cls = RX5 ∧ yX5_ahead.cls ≠ "java/lang/invoke/MethodHandle" ∧ yX5_ahead.cls ≠ "java/lang/invoke/VarHandle" ∧ (parseMethodDescriptor yX5_ahead.desc).map (fun d => d.parameters.length) = some 2 := by decide +kernel
theorem wy_yX5_when : yX5_when.cls = RX5 ∧ yX5_when.cls ≠ "java/lang/invoke/MethodHandle" ∧ yX5_when.cls ≠ "java/lang/invoke/VarHandle" ∧ (parseMethodDescriptor yX5_when.desc).map (fun d => d.parameters.length) = some 1 := by decide +kernel
theorem wy_yX5_again : yX5_again.cls = RX5 ∧ yX5_again.cls ≠ "java/lang/invoke/MethodHandle" ∧ yX5_again.cls ≠ "java/lang/invoke/VarHandle" ∧ (parseMethodDescriptor yX5_again.desc).map (fun d => d.parameters.length) = some 0 := by decide +kernel
theorem wy_yX5_best : yX5_best.cls = RX5 ∧ yX5_best.cls ≠ "java/lang/invoke/MethodHandle" ∧ yX5_best.cls ≠ "java/lang/invoke/VarHandle" ∧ (parseMethodDescriptor yX5_best.desc).map (fun d => d.parameters.length) = some 3 := by decide +kernel
theorem wy_yX5_isPart : yX5_isPart.cls ≠ "java/lang/invoke/MethodHandle" ∧ yX5_isPart.cls ≠ "java/lang/invoke/VarHandle" ∧ (parseMethodDescriptor yX5_isPart.desc).map (fun d => d.parameters.length) = some 1 := by decide +kernel
theorem wy_yX5_bestOf : yX5_bestOf.cls = RX5 ∧ yX5_bestOf.cls ≠ "java/lang/invoke/MethodHandle" ∧ yX5_bestOf.cls ≠ "java/lang/invoke/VarHandle" ∧ (parseMethodDescriptor yX5_bestOf.desc).map (fun d => d.parameters.length) = some 5 := by decide +kernel
theorem wy_yX5_startsJudging : yX5_startsJudging.cls = RX5 ∧ yX5_startsJudging.cls ≠ "java/lang/invoke/MethodHandle" ∧ yX5_startsJudging.cls ≠ "java/lang/invoke/VarHandle" ∧ (parseMethodDescriptor yX5_startsJudging.desc).map (fun d => d.parameters.length) = some 1 := by decide +kernel
theorem wy_yX5_judges : yX5_judges.cls = RX5 ∧ yX5_judges.cls ≠ "java/lang/invoke/MethodHandle" ∧ yX5_judges.cls ≠ "java/lang/invoke/VarHandle" ∧ (parseMethodDescriptor yX5_judges.desc).map (fun d => d.parameters.length) = some 2 := by decide +kernel
theorem wy_yX5_judged : yX5_judged.cls = RX5 ∧ yX5_judged.cls ≠ "java/lang/invoke/MethodHandle" ∧ yX5_judged.cls ≠ "java/lang/invoke/VarHandle" ∧ (parseMethodDescriptor yX5_judged.desc).map (fun d => d.parameters.length) = some 1 := by decide +kernel
theorem wy_yX5_kind : yX5_kind.cls = RX5 ∧ yX5_kind.cls ≠ "java/lang/invoke/MethodHandle" ∧ yX5_kind.cls ≠ "java/lang/invoke/VarHandle" ∧ (parseMethodDescriptor yX5_kind.desc).map (fun d => d.parameters.length) = some 3 := by decide +kernel
theorem wy_yX5_phase : yX5_phase.cls = RX5 ∧ yX5_phase.cls ≠ "java/lang/invoke/MethodHandle" ∧ yX5_phase.cls ≠ "java/lang/invoke/VarHandle" ∧ (parseMethodDescriptor yX5_phase.desc).map (fun d => d.parameters.length) = some 3 := by decide +kernel
theorem wy_yX5_out : yX5_out.cls = RX5 ∧ yX5_out.cls ≠ "java/lang/invoke/MethodHandle" ∧ yX5_out.cls ≠ "java/lang/invoke/VarHandle" ∧ (parseMethodDescriptor yX5_out.desc).map (fun d => d.parameters.length) = some 2 := by decide +kernel
theorem wy_yX5_luck : yX5_luck.cls = RX5 ∧ yX5_luck.cls ≠ "java/lang/invoke/MethodHandle" ∧ yX5_luck.cls ≠ "java/lang/invoke/VarHandle" ∧ (parseMethodDescriptor yX5_luck.desc).map (fun d => d.parameters.length) = some 4 := by decide +kernel
theorem wy_yX5_findOdds : yX5_findOdds.cls = RX5 ∧ yX5_findOdds.cls ≠ "java/lang/invoke/MethodHandle" ∧ yX5_findOdds.cls ≠ "java/lang/invoke/VarHandle" ∧ (parseMethodDescriptor yX5_findOdds.desc).map (fun d => d.parameters.length) = some 3 := by decide +kernel
theorem wy_yX5_lowest : yX5_lowest.cls ≠ "java/lang/invoke/MethodHandle" ∧ yX5_lowest.cls ≠ "java/lang/invoke/VarHandle" ∧ (parseMethodDescriptor yX5_lowest.desc).map (fun d => d.parameters.length) = some 3 := by decide +kernel
theorem wy_yX5_common : yX5_common.cls ≠ "java/lang/invoke/MethodHandle" ∧ yX5_common.cls ≠ "java/lang/invoke/VarHandle" ∧ (parseMethodDescriptor yX5_common.desc).map (fun d => d.parameters.length) = some 2 := by decide +kernel
theorem wy_yX5_mean : yX5_mean.cls = RX5 ∧ yX5_mean.cls ≠ "java/lang/invoke/MethodHandle" ∧ yX5_mean.cls ≠ "java/lang/invoke/VarHandle" ∧ (parseMethodDescriptor yX5_mean.desc).map (fun d => d.parameters.length) = some 3 := by decide +kernel
theorem wy_yX5_see : yX5_see.cls = RX5 ∧ yX5_see.cls ≠ "java/lang/invoke/MethodHandle" ∧ yX5_see.cls ≠ "java/lang/invoke/VarHandle" ∧ (parseMethodDescriptor yX5_see.desc).map (fun d => d.parameters.length) = some 3 := by decide +kernel
theorem wy_yX5_forget : yX5_forget.cls = RX5 ∧ yX5_forget.cls ≠ "java/lang/invoke/MethodHandle" ∧ yX5_forget.cls ≠ "java/lang/invoke/VarHandle" ∧ (parseMethodDescriptor yX5_forget.desc).map (fun d => d.parameters.length) = some 1 := by decide +kernel
theorem wy_yX5_kinds : yX5_kinds.cls = RX5 ∧ yX5_kinds.cls ≠ "java/lang/invoke/MethodHandle" ∧ yX5_kinds.cls ≠ "java/lang/invoke/VarHandle" ∧ (parseMethodDescriptor yX5_kinds.desc).map (fun d => d.parameters.length) = some 1 := by decide +kernel
theorem wy_yX5_which : yX5_which.cls = RX5 ∧ yX5_which.cls ≠ "java/lang/invoke/MethodHandle" ∧ yX5_which.cls ≠ "java/lang/invoke/VarHandle" ∧ (parseMethodDescriptor yX5_which.desc).map (fun d => d.parameters.length) = some 2 := by decide +kernel
theorem wy_yX5_isSoWith : yX5_isSoWith.cls = RX5 ∧ yX5_isSoWith.cls ≠ "java/lang/invoke/MethodHandle" ∧ yX5_isSoWith.cls ≠ "java/lang/invoke/VarHandle" ∧ (parseMethodDescriptor yX5_isSoWith.desc).map (fun d => d.parameters.length) = some 2 := by decide +kernel
theorem wy_yX5_phases : yX5_phases.cls = RX5 ∧ yX5_phases.cls ≠ "java/lang/invoke/MethodHandle" ∧ yX5_phases.cls ≠ "java/lang/invoke/VarHandle" ∧ (parseMethodDescriptor yX5_phases.desc).map (fun d => d.parameters.length) = some 1 := by decide +kernel
theorem wy_yX5_ask : yX5_ask.cls = RX5 ∧ yX5_ask.cls ≠ "java/lang/invoke/MethodHandle" ∧ yX5_ask.cls ≠ "java/lang/invoke/VarHandle" ∧ (parseMethodDescriptor yX5_ask.desc).map (fun d => d.parameters.length) = some 2 := by decide +kernel
theorem wy_yX5_drift : yX5_drift.cls = RX5 ∧ yX5_drift.cls ≠ "java/lang/invoke/MethodHandle" ∧ yX5_drift.cls ≠ "java/lang/invoke/VarHandle" ∧ (parseMethodDescriptor yX5_drift.desc).map (fun d => d.parameters.length) = some 3 := by decide +kernel
theorem wy_yX5_keep : yX5_keep.cls = RX5 ∧ yX5_keep.cls ≠ "java/lang/invoke/MethodHandle" ∧ yX5_keep.cls ≠ "java/lang/invoke/VarHandle" ∧ (parseMethodDescriptor yX5_keep.desc).map (fun d => d.parameters.length) = some 1 := by decide +kernel
theorem wy_yX5_copies : yX5_copies.cls = RX5 ∧ yX5_copies.cls ≠ "java/lang/invoke/MethodHandle" ∧ yX5_copies.cls ≠ "java/lang/invoke/VarHandle" ∧ (parseMethodDescriptor yX5_copies.desc).map (fun d => d.parameters.length) = some 2 := by decide +kernel
theorem wy_yX5_back : yX5_back.cls = RX5 ∧ yX5_back.cls ≠ "java/lang/invoke/MethodHandle" ∧ yX5_back.cls ≠ "java/lang/invoke/VarHandle" ∧ (parseMethodDescriptor yX5_back.desc).map (fun d => d.parameters.length) = some 1 := by decide +kernel
theorem wy_yX5_sheet : yX5_sheet.cls = RX5 ∧ yX5_sheet.cls ≠ "java/lang/invoke/MethodHandle" ∧ yX5_sheet.cls ≠ "java/lang/invoke/VarHandle" ∧ (parseMethodDescriptor yX5_sheet.desc).map (fun d => d.parameters.length) = some 3 := by decide +kernel
theorem wy_yX5_isSheet : yX5_isSheet.cls ≠ "java/lang/invoke/MethodHandle" ∧ yX5_isSheet.cls ≠ "java/lang/invoke/VarHandle" ∧ (parseMethodDescriptor yX5_isSheet.desc).map (fun d => d.parameters.length) = some 2 := by decide +kernel
theorem wy_yX5_lay : yX5_lay.cls = RX5 ∧ yX5_lay.cls ≠ "java/lang/invoke/MethodHandle" ∧ yX5_lay.cls ≠ "java/lang/invoke/VarHandle" ∧ (parseMethodDescriptor yX5_lay.desc).map (fun d => d.parameters.length) = some 3 := by decide +kernel
theorem wy_yX5_read : yX5_read.cls = RX5 ∧ yX5_read.cls ≠ "java/lang/invoke/MethodHandle" ∧ yX5_read.cls ≠ "java/lang/invoke/VarHandle" ∧ (parseMethodDescriptor yX5_read.desc).map (fun d => d.parameters.length) = some 4 := by decide +kernel
theorem wy_yX5_torn : yX5_torn.cls = RX5 ∧ yX5_torn.cls ≠ "java/lang/invoke/MethodHandle" ∧ yX5_torn.cls ≠ "java/lang/invoke/VarHandle" ∧ (parseMethodDescriptor yX5_torn.desc).map (fun d => d.parameters.length) = some 0 := by decide +kernel
theorem wy_yX5_count : yX5_count.cls = RX5 ∧ yX5_count.cls ≠ "java/lang/invoke/MethodHandle" ∧ yX5_count.cls ≠ "java/lang/invoke/VarHandle" ∧ (parseMethodDescriptor yX5_count.desc).map (fun d => d.parameters.length) = some 1 := by decide +kernel
theorem wy_yX5_sumOf : yX5_sumOf.cls = RX5 ∧ yX5_sumOf.cls ≠ "java/lang/invoke/MethodHandle" ∧ yX5_sumOf.cls ≠ "java/lang/invoke/VarHandle" ∧ (parseMethodDescriptor yX5_sumOf.desc).map (fun d => d.parameters.length) = some 1 := by decide +kernel
