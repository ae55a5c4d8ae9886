theorem zw_inj {a a2 : Int32} {b b2 : Nat} {c c2 : zI} {d d2 : zL} (h : (some (a, b, c, d) : Option (Int32 × Nat × zI × zL)) = some (a2, b2, c2, d2)) : a = a2 ∧ b = b2 ∧ c = c2 ∧ d = d2 := by
  simp only [Option.some.injEq, Prod.mk.injEq] at h
  exact h
section Zw4
variable {p : Program} {l : Launch} {e : Env} {R : Room} {s : State} {m : MethodId} {args : Array Value} {below : List Frame} {meth : Method} {c : Code} {s0 : State} {a0 : Array Value} {d : va_G} {cy : Nat → ClassId} {B0 : Nat} {bc bs : Nat}
theorem q_74 : (Cond.initialized "DeviceFindLaw") ∈ lw_tbl := List.mem_of_getElem? (i := 74) (by decide +kernel)
theorem q_719 : (Cond.codeWith ({ cls := "DeviceFindLaw", name := "polygon", desc := "(LDeviceFind;I[J)I" } : Jvm.MethodName) method_3_code (4 : Nat) (Option.some Jvm.ClassFile.FieldType.int) [((0 : Nat), (9 : Nat), (12 : Nat), (13 : Nat)), ((0 : Nat), (9 : Nat), (15 : Nat), (15 : Nat))]) ∈ lw_tbl := List.mem_of_getElem? (i := 719) (by decide +kernel)
theorem q_720 : (Cond.classLink "DeviceFindLaw" (13 : Nat) "java/lang/IndexOutOfBoundsException") ∈ lw_tbl := List.mem_of_getElem? (i := 720) (by decide +kernel)
theorem q_721 : (Cond.classLink "DeviceFindLaw" (15 : Nat) "java/lang/IllegalStateException") ∈ lw_tbl := List.mem_of_getElem? (i := 721) (by decide +kernel)
theorem q_722 : (Cond.methodLink "DeviceFindLaw" (7 : Nat) ({ cls := "DeviceFind", name := "polygon", desc := "(I)I" } : Jvm.MethodName)) ∈ lw_tbl := List.mem_of_getElem? (i := 722) (by decide +kernel)
theorem q_723 : (Cond.instanceMethod ({ cls := "DeviceFind", name := "polygon", desc := "(I)I" } : Jvm.MethodName)) ∈ lw_tbl := List.mem_of_getElem? (i := 723) (by decide +kernel)
theorem q_724 : (Cond.selects "DeviceFind" ({ cls := "DeviceFind", name := "polygon", desc := "(I)I" } : Jvm.MethodName) ({ cls := "DeviceFind", name := "polygon", desc := "(I)I" } : Jvm.MethodName)) ∈ lw_tbl := List.mem_of_getElem? (i := 724) (by decide +kernel)
theorem q_731 : (Cond.castable "java/lang/IndexOutOfBoundsException" "java/lang/IndexOutOfBoundsException") ∈ lw_tbl := List.mem_of_getElem? (i := 731) (by decide +kernel)
theorem q_798 : (Cond.castable "java/lang/IllegalStateException" "java/lang/IllegalStateException") ∈ lw_tbl := List.mem_of_getElem? (i := 798) (by decide +kernel)
theorem q_817 : (Cond.codeWith ({ cls := "DeviceFindLaw", name := "corner", desc := "(LDeviceFind;IJJ[J)I" } : Jvm.MethodName) method_4_code (8 : Nat) (Option.some Jvm.ClassFile.FieldType.int) [((0 : Nat), (20 : Nat), (23 : Nat), (13 : Nat)), ((0 : Nat), (20 : Nat), (27 : Nat), (15 : Nat)), ((0 : Nat), (20 : Nat), (31 : Nat), (21 : Nat))]) ∈ lw_tbl := List.mem_of_getElem? (i := 817) (by decide +kernel)
theorem q_818 : (Cond.classLink "DeviceFindLaw" (21 : Nat) "java/lang/IllegalArgumentException") ∈ lw_tbl := List.mem_of_getElem? (i := 818) (by decide +kernel)
theorem q_819 : (Cond.methodLink "DeviceFindLaw" (17 : Nat) ({ cls := "DeviceFind", name := "corner", desc := "(IJJ)Z" } : Jvm.MethodName)) ∈ lw_tbl := List.mem_of_getElem? (i := 819) (by decide +kernel)
theorem q_820 : (Cond.instanceMethod ({ cls := "DeviceFind", name := "corner", desc := "(IJJ)Z" } : Jvm.MethodName)) ∈ lw_tbl := List.mem_of_getElem? (i := 820) (by decide +kernel)
theorem q_821 : (Cond.selects "DeviceFind" ({ cls := "DeviceFind", name := "corner", desc := "(IJJ)Z" } : Jvm.MethodName) ({ cls := "DeviceFind", name := "corner", desc := "(IJJ)Z" } : Jvm.MethodName)) ∈ lw_tbl := List.mem_of_getElem? (i := 821) (by decide +kernel)
theorem q_826 : (Cond.castable "java/lang/IllegalArgumentException" "java/lang/IllegalArgumentException") ∈ lw_tbl := List.mem_of_getElem? (i := 826) (by decide +kernel)
theorem q_849 : (Cond.codeWith ({ cls := "DeviceFindLaw", name := "text", desc := "(LDeviceFind;IJJI[J)I" } : Jvm.MethodName) method_5_code (9 : Nat) (Option.some Jvm.ClassFile.FieldType.int) [((0 : Nat), (15 : Nat), (18 : Nat), (13 : Nat)), ((0 : Nat), (15 : Nat), (22 : Nat), (15 : Nat)), ((0 : Nat), (15 : Nat), (26 : Nat), (21 : Nat))]) ∈ lw_tbl := List.mem_of_getElem? (i := 849) (by decide +kernel)
theorem q_850 : (Cond.methodLink "DeviceFindLaw" (23 : Nat) ({ cls := "DeviceFind", name := "text", desc := "(IJJI)I" } : Jvm.MethodName)) ∈ lw_tbl := List.mem_of_getElem? (i := 850) (by decide +kernel)
theorem q_851 : (Cond.instanceMethod ({ cls := "DeviceFind", name := "text", desc := "(IJJI)I" } : Jvm.MethodName)) ∈ lw_tbl := List.mem_of_getElem? (i := 851) (by decide +kernel)
theorem q_852 : (Cond.selects "DeviceFind" ({ cls := "DeviceFind", name := "text", desc := "(IJJI)I" } : Jvm.MethodName) ({ cls := "DeviceFind", name := "text", desc := "(IJJI)I" } : Jvm.MethodName)) ∈ lw_tbl := List.mem_of_getElem? (i := 852) (by decide +kernel)
theorem q_866 : (Cond.codeWith ({ cls := "DeviceFindLaw", name := "run", desc := "(LDeviceFind;[J)I" } : Jvm.MethodName) method_6_code (3 : Nat) (Option.some Jvm.ClassFile.FieldType.int) [((0 : Nat), (8 : Nat), (11 : Nat), (15 : Nat)), ((0 : Nat), (8 : Nat), (14 : Nat), (31 : Nat))]) ∈ lw_tbl := List.mem_of_getElem? (i := 866) (by decide +kernel)
theorem q_867 : (Cond.classLink "DeviceFindLaw" (31 : Nat) "java/lang/UnsupportedOperationException") ∈ lw_tbl := List.mem_of_getElem? (i := 867) (by decide +kernel)
theorem q_868 : (Cond.methodLink "DeviceFindLaw" (27 : Nat) ({ cls := "DeviceFind", name := "run", desc := "()I" } : Jvm.MethodName)) ∈ lw_tbl := List.mem_of_getElem? (i := 868) (by decide +kernel)
theorem q_869 : (Cond.instanceMethod ({ cls := "DeviceFind", name := "run", desc := "()I" } : Jvm.MethodName)) ∈ lw_tbl := List.mem_of_getElem? (i := 869) (by decide +kernel)
theorem q_870 : (Cond.selects "DeviceFind" ({ cls := "DeviceFind", name := "run", desc := "()I" } : Jvm.MethodName) ({ cls := "DeviceFind", name := "run", desc := "()I" } : Jvm.MethodName)) ∈ lw_tbl := List.mem_of_getElem? (i := 870) (by decide +kernel)
theorem q_1058 : (Cond.castable "java/lang/UnsupportedOperationException" "java/lang/UnsupportedOperationException") ∈ lw_tbl := List.mem_of_getElem? (i := 1058) (by decide +kernel)
theorem q_1073 : (Cond.codeWith ({ cls := "DeviceFindLaw", name := "device", desc := "(LDeviceFind;II[J)I" } : Jvm.MethodName) method_7_code (5 : Nat) (Option.some Jvm.ClassFile.FieldType.int) [((0 : Nat), (10 : Nat), (13 : Nat), (13 : Nat)), ((0 : Nat), (10 : Nat), (17 : Nat), (15 : Nat))]) ∈ lw_tbl := List.mem_of_getElem? (i := 1073) (by decide +kernel)
theorem q_1074 : (Cond.methodLink "DeviceFindLaw" (33 : Nat) ({ cls := "DeviceFind", name := "device", desc := "(II)I" } : Jvm.MethodName)) ∈ lw_tbl := List.mem_of_getElem? (i := 1074) (by decide +kernel)
theorem q_1075 : (Cond.instanceMethod ({ cls := "DeviceFind", name := "device", desc := "(II)I" } : Jvm.MethodName)) ∈ lw_tbl := List.mem_of_getElem? (i := 1075) (by decide +kernel)
theorem q_1076 : (Cond.selects "DeviceFind" ({ cls := "DeviceFind", name := "device", desc := "(II)I" } : Jvm.MethodName) ({ cls := "DeviceFind", name := "device", desc := "(II)I" } : Jvm.MethodName)) ∈ lw_tbl := List.mem_of_getElem? (i := 1076) (by decide +kernel)
theorem q_1082 : (Cond.codeWith ({ cls := "DeviceFindLaw", name := "size", desc := "(LDeviceFind;II[J)I" } : Jvm.MethodName) method_8_code (5 : Nat) (Option.some Jvm.ClassFile.FieldType.int) [((0 : Nat), (9 : Nat), (12 : Nat), (13 : Nat)), ((0 : Nat), (9 : Nat), (16 : Nat), (15 : Nat))]) ∈ lw_tbl := List.mem_of_getElem? (i := 1082) (by decide +kernel)
theorem q_1083 : (Cond.methodLink "DeviceFindLaw" (37 : Nat) ({ cls := "DeviceFind", name := "size", desc := "(II)J" } : Jvm.MethodName)) ∈ lw_tbl := List.mem_of_getElem? (i := 1083) (by decide +kernel)
theorem q_1084 : (Cond.instanceMethod ({ cls := "DeviceFind", name := "size", desc := "(II)J" } : Jvm.MethodName)) ∈ lw_tbl := List.mem_of_getElem? (i := 1084) (by decide +kernel)
theorem q_1085 : (Cond.selects "DeviceFind" ({ cls := "DeviceFind", name := "size", desc := "(II)J" } : Jvm.MethodName) ({ cls := "DeviceFind", name := "size", desc := "(II)J" } : Jvm.MethodName)) ∈ lw_tbl := List.mem_of_getElem? (i := 1085) (by decide +kernel)
theorem q_1089 : (Cond.codeWith ({ cls := "DeviceFindLaw", name := "pin", desc := "(LDeviceFind;II[J)I" } : Jvm.MethodName) method_9_code (5 : Nat) (Option.some Jvm.ClassFile.FieldType.int) [((0 : Nat), (10 : Nat), (13 : Nat), (15 : Nat)), ((0 : Nat), (10 : Nat), (17 : Nat), (13 : Nat))]) ∈ lw_tbl := List.mem_of_getElem? (i := 1089) (by decide +kernel)
theorem q_1090 : (Cond.methodLink "DeviceFindLaw" (41 : Nat) ({ cls := "DeviceFind", name := "pin", desc := "(II)I" } : Jvm.MethodName)) ∈ lw_tbl := List.mem_of_getElem? (i := 1090) (by decide +kernel)
theorem q_1091 : (Cond.instanceMethod ({ cls := "DeviceFind", name := "pin", desc := "(II)I" } : Jvm.MethodName)) ∈ lw_tbl := List.mem_of_getElem? (i := 1091) (by decide +kernel)
theorem q_1092 : (Cond.selects "DeviceFind" ({ cls := "DeviceFind", name := "pin", desc := "(II)I" } : Jvm.MethodName) ({ cls := "DeviceFind", name := "pin", desc := "(II)I" } : Jvm.MethodName)) ∈ lw_tbl := List.mem_of_getElem? (i := 1092) (by decide +kernel)
theorem q_1096 : (Cond.codeWith ({ cls := "DeviceFindLaw", name := "net", desc := "(LDeviceFind;IJJ[J)I" } : Jvm.MethodName) method_10_code (8 : Nat) (Option.some Jvm.ClassFile.FieldType.int) [((0 : Nat), (13 : Nat), (16 : Nat), (13 : Nat)), ((0 : Nat), (13 : Nat), (20 : Nat), (15 : Nat))]) ∈ lw_tbl := List.mem_of_getElem? (i := 1096) (by decide +kernel)
theorem q_1097 : (Cond.methodLink "DeviceFindLaw" (44 : Nat) ({ cls := "DeviceFind", name := "net", desc := "(IJJ)I" } : Jvm.MethodName)) ∈ lw_tbl := List.mem_of_getElem? (i := 1097) (by decide +kernel)
theorem q_1098 : (Cond.instanceMethod ({ cls := "DeviceFind", name := "net", desc := "(IJJ)I" } : Jvm.MethodName)) ∈ lw_tbl := List.mem_of_getElem? (i := 1098) (by decide +kernel)
theorem q_1099 : (Cond.selects "DeviceFind" ({ cls := "DeviceFind", name := "net", desc := "(IJJ)I" } : Jvm.MethodName) ({ cls := "DeviceFind", name := "net", desc := "(IJJ)I" } : Jvm.MethodName)) ∈ lw_tbl := List.mem_of_getElem? (i := 1099) (by decide +kernel)
theorem q_1104 : (Cond.codeWith ({ cls := "DeviceFindLaw", name := "named", desc := "(LDeviceFind;I[J)I" } : Jvm.MethodName) method_11_code (4 : Nat) (Option.some Jvm.ClassFile.FieldType.int) [((0 : Nat), (9 : Nat), (12 : Nat), (15 : Nat)), ((0 : Nat), (9 : Nat), (15 : Nat), (13 : Nat))]) ∈ lw_tbl := List.mem_of_getElem? (i := 1104) (by decide +kernel)
theorem q_1105 : (Cond.methodLink "DeviceFindLaw" (48 : Nat) ({ cls := "DeviceFind", name := "named", desc := "(I)I" } : Jvm.MethodName)) ∈ lw_tbl := List.mem_of_getElem? (i := 1105) (by decide +kernel)
theorem q_1106 : (Cond.instanceMethod ({ cls := "DeviceFind", name := "named", desc := "(I)I" } : Jvm.MethodName)) ∈ lw_tbl := List.mem_of_getElem? (i := 1106) (by decide +kernel)
theorem q_1107 : (Cond.selects "DeviceFind" ({ cls := "DeviceFind", name := "named", desc := "(I)I" } : Jvm.MethodName) ({ cls := "DeviceFind", name := "named", desc := "(I)I" } : Jvm.MethodName)) ∈ lw_tbl := List.mem_of_getElem? (i := 1107) (by decide +kernel)
theorem q_1115 : (Cond.codeWith ({ cls := "DeviceFindLaw", name := "twice", desc := "(LDeviceFind;I[J)I" } : Jvm.MethodName) method_12_code (4 : Nat) (Option.some Jvm.ClassFile.FieldType.int) [((0 : Nat), (9 : Nat), (12 : Nat), (13 : Nat)), ((0 : Nat), (9 : Nat), (15 : Nat), (15 : Nat))]) ∈ lw_tbl := List.mem_of_getElem? (i := 1115) (by decide +kernel)
theorem q_1116 : (Cond.methodLink "DeviceFindLaw" (51 : Nat) ({ cls := "DeviceFind", name := "twice", desc := "(I)I" } : Jvm.MethodName)) ∈ lw_tbl := List.mem_of_getElem? (i := 1116) (by decide +kernel)
theorem q_1117 : (Cond.instanceMethod ({ cls := "DeviceFind", name := "twice", desc := "(I)I" } : Jvm.MethodName)) ∈ lw_tbl := List.mem_of_getElem? (i := 1117) (by decide +kernel)
theorem q_1118 : (Cond.selects "DeviceFind" ({ cls := "DeviceFind", name := "twice", desc := "(I)I" } : Jvm.MethodName) ({ cls := "DeviceFind", name := "twice", desc := "(I)I" } : Jvm.MethodName)) ∈ lw_tbl := List.mem_of_getElem? (i := 1118) (by decide +kernel)
theorem q_1137 : (Cond.codeWith ({ cls := "DeviceFindLaw", name := "bad", desc := "(LDeviceFind;I[J)I" } : Jvm.MethodName) method_13_code (4 : Nat) (Option.some Jvm.ClassFile.FieldType.int) [((0 : Nat), (9 : Nat), (12 : Nat), (13 : Nat)), ((0 : Nat), (9 : Nat), (15 : Nat), (15 : Nat))]) ∈ lw_tbl := List.mem_of_getElem? (i := 1137) (by decide +kernel)
theorem q_1138 : (Cond.methodLink "DeviceFindLaw" (54 : Nat) ({ cls := "DeviceFind", name := "bad", desc := "(I)I" } : Jvm.MethodName)) ∈ lw_tbl := List.mem_of_getElem? (i := 1138) (by decide +kernel)
theorem q_1139 : (Cond.instanceMethod ({ cls := "DeviceFind", name := "bad", desc := "(I)I" } : Jvm.MethodName)) ∈ lw_tbl := List.mem_of_getElem? (i := 1139) (by decide +kernel)
theorem q_1140 : (Cond.selects "DeviceFind" ({ cls := "DeviceFind", name := "bad", desc := "(I)I" } : Jvm.MethodName) ({ cls := "DeviceFind", name := "bad", desc := "(I)I" } : Jvm.MethodName)) ∈ lw_tbl := List.mem_of_getElem? (i := 1140) (by decide +kernel)
theorem q_1148 : (Cond.codeWith ({ cls := "DeviceFindLaw", name := "joined", desc := "(LDeviceFind;I[J)I" } : Jvm.MethodName) method_14_code (4 : Nat) (Option.some Jvm.ClassFile.FieldType.int) [((0 : Nat), (9 : Nat), (12 : Nat), (15 : Nat)), ((0 : Nat), (9 : Nat), (15 : Nat), (13 : Nat))]) ∈ lw_tbl := List.mem_of_getElem? (i := 1148) (by decide +kernel)
theorem q_1149 : (Cond.methodLink "DeviceFindLaw" (57 : Nat) ({ cls := "DeviceFind", name := "joined", desc := "(I)I" } : Jvm.MethodName)) ∈ lw_tbl := List.mem_of_getElem? (i := 1149) (by decide +kernel)
theorem q_1150 : (Cond.instanceMethod ({ cls := "DeviceFind", name := "joined", desc := "(I)I" } : Jvm.MethodName)) ∈ lw_tbl := List.mem_of_getElem? (i := 1150) (by decide +kernel)
theorem q_1151 : (Cond.selects "DeviceFind" ({ cls := "DeviceFind", name := "joined", desc := "(I)I" } : Jvm.MethodName) ({ cls := "DeviceFind", name := "joined", desc := "(I)I" } : Jvm.MethodName)) ∈ lw_tbl := List.mem_of_getElem? (i := 1151) (by decide +kernel)
theorem q_1155 : (Cond.codeWith ({ cls := "DeviceFindLaw", name := "count", desc := "(LDeviceFind;I[J)I" } : Jvm.MethodName) method_15_code (4 : Nat) (Option.some Jvm.ClassFile.FieldType.int) [((0 : Nat), (9 : Nat), (12 : Nat), (13 : Nat))]) ∈ lw_tbl := List.mem_of_getElem? (i := 1155) (by decide +kernel)
theorem q_1156 : (Cond.methodLink "DeviceFindLaw" (60 : Nat) ({ cls := "DeviceFind", name := "count", desc := "(I)I" } : Jvm.MethodName)) ∈ lw_tbl := List.mem_of_getElem? (i := 1156) (by decide +kernel)
theorem q_1157 : (Cond.instanceMethod ({ cls := "DeviceFind", name := "count", desc := "(I)I" } : Jvm.MethodName)) ∈ lw_tbl := List.mem_of_getElem? (i := 1157) (by decide +kernel)
theorem q_1158 : (Cond.selects "DeviceFind" ({ cls := "DeviceFind", name := "count", desc := "(I)I" } : Jvm.MethodName) ({ cls := "DeviceFind", name := "count", desc := "(I)I" } : Jvm.MethodName)) ∈ lw_tbl := List.mem_of_getElem? (i := 1158) (by decide +kernel)
theorem yy_L_polygon : zYH yL_polygon cL_polygon 4 (some .int) [(0, 9, 12, 13), (0, 9, 15, 15)] 3 := ⟨q_719, q_74, by decide +kernel, by decide +kernel, by decide +kernel⟩
noncomputable def w_polygon  (a1 : Int32) (I : zI) (L : zL) : Option (Int32 × Nat × zI × zL) :=
  zb2 (f_X11_polygon a1 I) (fun x9 I9 => zsm x9 (fun v9 => some ((0 : Int32), 0, I9, zul L 133 0 (v9.toInt64))) (fun e9 => if e9 = 0 then some ((1 : Int32), 1, I9, L) else (if e9 = 1 then some ((2 : Int32), 1, I9, L) else (none))))
set_option maxHeartbeats 4000000 in
set_option maxRecDepth 100000 in
theorem c_L_polygon {k9 : Int32} {n9 : Nat} {I2 : zI} {L2 : zL} (hE : zE0 l s0 a0 d cy B0) (a1 : Int32) (I : zI) (L : zL) (h : w_polygon a1 I L = some (k9, n9, I2, L2)) : zMH l s0 d cy B0 yL_polygon cL_polygon 4 (some .int) [(0, 9, 12, 13), (0, 9, 15, 15)] 8 220 [.ref (B0 + 0), .int a1, .ref (B0 + 133)] zSH zKn bc bs I L (.inl (some (.int k9))) zSH zKn (bc + n9) (bs + 6 * n9) I2 L2 := by
  unfold w_polygon at h
  obtain ⟨x9, I9, hg, h⟩ := zb2_e h
  refine z_methH yy_L_polygon hE (Nat.le_of_ble_eq_true rfl) (fun p e R s m args below meth c C => ?_)
  show zG p l e R s m args below meth c d cy B0 4 bc bs (zQ below s args d cy B0 bc bs (.inl (some (.int k9))) zSH zKn (bc + n9) (bs + 6 * n9) I2 L2) 0 [(0, .ref (B0 + 0)), (1, .int a1), (2, .ref (B0 + 133))] [] zSH zKn bc bs I L
  refine z_aload_n C rfl 2 rfl dL_polygon_0 ?_
  refine z_iconst C (v := 0) (by decide) dL_polygon_1 ?_
  refine z_aload_n C rfl 0 rfl dL_polygon_2 ?_
  refine z_iload_n C rfl 1 rfl dL_polygon_3 ?_
  rcases x9 with v9 | e9
  · have h := zsm_l h
    obtain ⟨e1, e2, e3, e4⟩ := zw_inj h
    subst e1
    subst e2
    subst e3
    subst e4
    refine z_callV C zc_11 rfl (by decide) dL_polygon_4 yy_X11_polygon (cn_X11_polygon C.2.2.2.2.1 a1 I L hg) q_722 q_723 q_724 (by decide) (by decide) rfl rfl (Nat.le_of_ble_eq_true rfl) ⟨Nat.le_refl _, Nat.le_refl _, Nat.le_refl _, Nat.le_refl _⟩ ?_
    refine z_i2l C dL_polygon_7 ?_
    refine z_lastore C dL_polygon_8 (q := 133) (n := 1) rfl rfl (by decide) (zbd_in (by decide)) ?_
    refine z_goto C 18 (by decide) dL_polygon_9 ?_
    refine z_iconst C (v := 0) (by decide) dL_polygon_18 ?_
    exact z_iret C dL_polygon_19 .int rfl rfl rfl
  · have h := zsm_r h
    by_cases hk0 : e9 = 0
    · have h := zif_t hk0 h
      obtain ⟨e1, e2, e3, e4⟩ := zw_inj h
      subst e1
      subst e2
      subst e3
      subst e4
      subst hk0
      refine z_callVC C (E1 := "java/lang/IndexOutOfBoundsException") zc_11 rfl (by decide) dL_polygon_4 yy_X11_polygon (cx_X11_polygon (k9 := 0) C.2.2.2.2.1 a1 I L hg) q_722 q_723 q_724 (by decide) (by decide) rfl rfl (Nat.le_of_ble_eq_true rfl) ⟨Nat.le_succ _, Nat.le_refl _, Nat.le_add_right _ _, Nat.le_refl _⟩ [] ⟨0, 9, 12, 13⟩ [⟨0, 9, 15, 15⟩] rfl (fun _ h => absurd h List.not_mem_nil) (by decide) (by decide) q_720 q_731 (fun a9 => ?_)
      refine z_astore_n C (lv' := [(3, .ref a9), (0, .ref (B0 + 0)), (1, .int a1), (2, .ref (B0 + 133))]) rfl (by decide) rfl dL_polygon_12 ?_
      refine z_iconst C (v := 1) (by decide) dL_polygon_13 ?_
      exact z_iret C dL_polygon_14 .int rfl rfl rfl
    · have h := zif_f hk0 h
      by_cases hk1 : e9 = 1
      · have h := zif_t hk1 h
        obtain ⟨e1, e2, e3, e4⟩ := zw_inj h
        subst e1
        subst e2
        subst e3
        subst e4
        subst hk1
        refine z_callVC C (E1 := "java/lang/IllegalStateException") zc_11 rfl (by decide) dL_polygon_4 yy_X11_polygon (cx_X11_polygon (k9 := 1) C.2.2.2.2.1 a1 I L hg) q_722 q_723 q_724 (by decide) (by decide) rfl rfl (Nat.le_of_ble_eq_true rfl) ⟨Nat.le_succ _, Nat.le_refl _, Nat.le_add_right _ _, Nat.le_refl _⟩ [⟨0, 9, 12, 13⟩] ⟨0, 9, 15, 15⟩ [] rfl (List.forall_mem_cons.mpr ⟨Or.inr ⟨by decide, "java/lang/IndexOutOfBoundsException", q_720, flat_of_before _ C.2.2.2.2.1.2.2.2.2.1 _ (by decide +kernel)⟩, (fun _ h => absurd h List.not_mem_nil)⟩) (by decide) (by decide) q_721 q_798 (fun a9 => ?_)
        refine z_astore_n C (lv' := [(3, .ref a9), (0, .ref (B0 + 0)), (1, .int a1), (2, .ref (B0 + 133))]) rfl (by decide) rfl dL_polygon_15 ?_
        refine z_iconst C (v := 2) (by decide) dL_polygon_16 ?_
        exact z_iret C dL_polygon_17 .int rfl rfl rfl
      · have h := zif_f hk1 h
        cases h
theorem yy_L_corner : zYH yL_corner cL_corner 8 (some .int) [(0, 20, 23, 13), (0, 20, 27, 15), (0, 20, 31, 21)] 5 := ⟨q_817, q_74, by decide +kernel, by decide +kernel, by decide +kernel⟩
noncomputable def w_corner  (a1 : Int32) (a2 : Int64) (a3 : Int64) (I : zI) (L : zL) : Option (Int32 × Nat × zI × zL) :=
  zb2 (f_X11_corner a1 a2 a3 I) (fun x9 I9 => zsm x9 (fun v9 => some ((0 : Int32), 0, I9, zul L 133 0 (if v9 = 0 then (0 : Int64) else (1 : Int64)))) (fun e9 => if e9 = 0 then some ((1 : Int32), 1, I9, L) else (if e9 = 1 then some ((2 : Int32), 1, I9, L) else (if e9 = 2 then some ((3 : Int32), 1, I9, L) else (none)))))
set_option maxHeartbeats 4000000 in
set_option maxRecDepth 100000 in
theorem c_L_corner {k9 : Int32} {n9 : Nat} {I2 : zI} {L2 : zL} (hE : zE0 l s0 a0 d cy B0) (a1 : Int32) (a2 : Int64) (a3 : Int64) (I : zI) (L : zL) (h : w_corner a1 a2 a3 I L = some (k9, n9, I2, L2)) : zMH l s0 d cy B0 yL_corner cL_corner 8 (some .int) [(0, 20, 23, 13), (0, 20, 27, 15), (0, 20, 31, 21)] 8 220 [.ref (B0 + 0), .int a1, .long a2, .long a3, .ref (B0 + 133)] zSH zKn bc bs I L (.inl (some (.int k9))) zSH zKn (bc + n9) (bs + 6 * n9) I2 L2 := by
  unfold w_corner at h
  obtain ⟨x9, I9, hg, h⟩ := zb2_e h
  refine z_methH yy_L_corner hE (Nat.le_of_ble_eq_true rfl) (fun p e R s m args below meth c C => ?_)
  show zG p l e R s m args below meth c d cy B0 8 bc bs (zQ below s args d cy B0 bc bs (.inl (some (.int k9))) zSH zKn (bc + n9) (bs + 6 * n9) I2 L2) 0 [(0, .ref (B0 + 0)), (1, .int a1), (2, .long a2), (4, .long a3), (6, .ref (B0 + 133))] [] zSH zKn bc bs I L
  refine z_aload C 4 rfl dL_corner_0 ?_
  refine z_iconst C (v := 0) (by decide) dL_corner_2 ?_
  refine z_aload_n C rfl 0 rfl dL_corner_3 ?_
  refine z_iload_n C rfl 1 rfl dL_corner_4 ?_
  refine z_lload_n C rfl 2 rfl dL_corner_5 ?_
  refine z_lload C 3 rfl dL_corner_6 ?_
  rcases x9 with v9 | e9
  · have h := zsm_l h
    obtain ⟨e1, e2, e3, e4⟩ := zw_inj h
    subst e1
    subst e2
    subst e3
    subst e4
    refine z_callV C zc_11 rfl (by decide) dL_corner_8 yy_X11_corner (cn_X11_corner C.2.2.2.2.1 a1 a2 a3 I L hg) q_819 q_820 q_821 (by decide) (by decide) rfl rfl (Nat.le_of_ble_eq_true rfl) ⟨Nat.le_refl _, Nat.le_refl _, Nat.le_refl _, Nat.le_refl _⟩ ?_
    refine z_if_eq C 18 (by decide) dL_corner_11 (fun hc => ?_) (fun hc => ?_)
    · rw [if_pos hc]
      refine z_lconst C (v := 0) (by decide) dL_corner_18 ?_
      refine z_lastore C dL_corner_19 (q := 133) (n := 1) rfl rfl (by decide) (zbd_in (by decide)) ?_
      refine z_goto C 35 (by decide) dL_corner_20 ?_
      refine z_iconst C (v := 0) (by decide) dL_corner_35 ?_
      exact z_iret C dL_corner_36 .int rfl rfl rfl
    · rw [if_neg hc]
      refine z_lconst C (v := 1) (by decide) dL_corner_14 ?_
      refine z_goto C 19 (by decide) dL_corner_15 ?_
      refine z_lastore C dL_corner_19 (q := 133) (n := 1) rfl rfl (by decide) (zbd_in (by decide)) ?_
      refine z_goto C 35 (by decide) dL_corner_20 ?_
      refine z_iconst C (v := 0) (by decide) dL_corner_35 ?_
      exact z_iret C dL_corner_36 .int rfl rfl rfl
  · have h := zsm_r h
    by_cases hk0 : e9 = 0
    · have h := zif_t hk0 h
      obtain ⟨e1, e2, e3, e4⟩ := zw_inj h
      subst e1
      subst e2
      subst e3
      subst e4
      subst hk0
      refine z_callVC C (E1 := "java/lang/IndexOutOfBoundsException") zc_11 rfl (by decide) dL_corner_8 yy_X11_corner (cx_X11_corner (k9 := 0) C.2.2.2.2.1 a1 a2 a3 I L hg) q_819 q_820 q_821 (by decide) (by decide) rfl rfl (Nat.le_of_ble_eq_true rfl) ⟨Nat.le_succ _, Nat.le_refl _, Nat.le_add_right _ _, Nat.le_refl _⟩ [] ⟨0, 20, 23, 13⟩ [⟨0, 20, 27, 15⟩, ⟨0, 20, 31, 21⟩] rfl (fun _ h => absurd h List.not_mem_nil) (by decide) (by decide) q_720 q_731 (fun a9 => ?_)
      refine z_astore C (lv' := [(7, .ref a9), (0, .ref (B0 + 0)), (1, .int a1), (2, .long a2), (4, .long a3), (6, .ref (B0 + 133))]) (by decide) rfl dL_corner_23 ?_
      refine z_iconst C (v := 1) (by decide) dL_corner_25 ?_
      exact z_iret C dL_corner_26 .int rfl rfl rfl
    · have h := zif_f hk0 h
      by_cases hk1 : e9 = 1
      · have h := zif_t hk1 h
        obtain ⟨e1, e2, e3, e4⟩ := zw_inj h
        subst e1
        subst e2
        subst e3
        subst e4
        subst hk1
        refine z_callVC C (E1 := "java/lang/IllegalStateException") zc_11 rfl (by decide) dL_corner_8 yy_X11_corner (cx_X11_corner (k9 := 1) C.2.2.2.2.1 a1 a2 a3 I L hg) q_819 q_820 q_821 (by decide) (by decide) rfl rfl (Nat.le_of_ble_eq_true rfl) ⟨Nat.le_succ _, Nat.le_refl _, Nat.le_add_right _ _, Nat.le_refl _⟩ [⟨0, 20, 23, 13⟩] ⟨0, 20, 27, 15⟩ [⟨0, 20, 31, 21⟩] rfl (List.forall_mem_cons.mpr ⟨Or.inr ⟨by decide, "java/lang/IndexOutOfBoundsException", q_720, flat_of_before _ C.2.2.2.2.1.2.2.2.2.1 _ (by decide +kernel)⟩, (fun _ h => absurd h List.not_mem_nil)⟩) (by decide) (by decide) q_721 q_798 (fun a9 => ?_)
        refine z_astore C (lv' := [(7, .ref a9), (0, .ref (B0 + 0)), (1, .int a1), (2, .long a2), (4, .long a3), (6, .ref (B0 + 133))]) (by decide) rfl dL_corner_27 ?_
        refine z_iconst C (v := 2) (by decide) dL_corner_29 ?_
        exact z_iret C dL_corner_30 .int rfl rfl rfl
      · have h := zif_f hk1 h
        by_cases hk2 : e9 = 2
        · have h := zif_t hk2 h
          obtain ⟨e1, e2, e3, e4⟩ := zw_inj h
          subst e1
          subst e2
          subst e3
          subst e4
          subst hk2
          refine z_callVC C (E1 := "java/lang/IllegalArgumentException") zc_11 rfl (by decide) dL_corner_8 yy_X11_corner (cx_X11_corner (k9 := 2) C.2.2.2.2.1 a1 a2 a3 I L hg) q_819 q_820 q_821 (by decide) (by decide) rfl rfl (Nat.le_of_ble_eq_true rfl) ⟨Nat.le_succ _, Nat.le_refl _, Nat.le_add_right _ _, Nat.le_refl _⟩ [⟨0, 20, 23, 13⟩, ⟨0, 20, 27, 15⟩] ⟨0, 20, 31, 21⟩ [] rfl (List.forall_mem_cons.mpr ⟨Or.inr ⟨by decide, "java/lang/IndexOutOfBoundsException", q_720, flat_of_before _ C.2.2.2.2.1.2.2.2.2.1 _ (by decide +kernel)⟩, (List.forall_mem_cons.mpr ⟨Or.inr ⟨by decide, "java/lang/IllegalStateException", q_721, flat_of_before _ C.2.2.2.2.1.2.2.2.2.1 _ (by decide +kernel)⟩, (fun _ h => absurd h List.not_mem_nil)⟩)⟩) (by decide) (by decide) q_818 q_826 (fun a9 => ?_)
          refine z_astore C (lv' := [(7, .ref a9), (0, .ref (B0 + 0)), (1, .int a1), (2, .long a2), (4, .long a3), (6, .ref (B0 + 133))]) (by decide) rfl dL_corner_31 ?_
          refine z_iconst C (v := 3) (by decide) dL_corner_33 ?_
          exact z_iret C dL_corner_34 .int rfl rfl rfl
        · have h := zif_f hk2 h
          cases h
theorem yy_L_text : zYH yL_text cL_text 9 (some .int) [(0, 15, 18, 13), (0, 15, 22, 15), (0, 15, 26, 21)] 6 := ⟨q_849, q_74, by decide +kernel, by decide +kernel, by decide +kernel⟩
noncomputable def w_text  (a1 : Int32) (a2 : Int64) (a3 : Int64) (a4 : Int32) (I : zI) (L : zL) : Option (Int32 × Nat × zI × zL) :=
  zb2 (f_X11_text a1 a2 a3 a4 I) (fun x9 I9 => zsm x9 (fun v9 => some ((0 : Int32), 0, I9, zul L 133 0 (v9.toInt64))) (fun e9 => if e9 = 0 then some ((1 : Int32), 1, I9, L) else (if e9 = 1 then some ((2 : Int32), 1, I9, L) else (if e9 = 2 then some ((3 : Int32), 1, I9, L) else (none)))))
set_option maxHeartbeats 4000000 in
set_option maxRecDepth 100000 in
theorem c_L_text {k9 : Int32} {n9 : Nat} {I2 : zI} {L2 : zL} (hE : zE0 l s0 a0 d cy B0) (a1 : Int32) (a2 : Int64) (a3 : Int64) (a4 : Int32) (I : zI) (L : zL) (h : w_text a1 a2 a3 a4 I L = some (k9, n9, I2, L2)) : zMH l s0 d cy B0 yL_text cL_text 9 (some .int) [(0, 15, 18, 13), (0, 15, 22, 15), (0, 15, 26, 21)] 8 220 [.ref (B0 + 0), .int a1, .long a2, .long a3, .int a4, .ref (B0 + 133)] zSH zKn bc bs I L (.inl (some (.int k9))) zSH zKn (bc + n9) (bs + 6 * n9) I2 L2 := by
  unfold w_text at h
  obtain ⟨x9, I9, hg, h⟩ := zb2_e h
  refine z_methH yy_L_text hE (Nat.le_of_ble_eq_true rfl) (fun p e R s m args below meth c C => ?_)
  show zG p l e R s m args below meth c d cy B0 9 bc bs (zQ below s args d cy B0 bc bs (.inl (some (.int k9))) zSH zKn (bc + n9) (bs + 6 * n9) I2 L2) 0 [(0, .ref (B0 + 0)), (1, .int a1), (2, .long a2), (4, .long a3), (6, .int a4), (7, .ref (B0 + 133))] [] zSH zKn bc bs I L
  refine z_aload C 5 rfl dL_text_0 ?_
  refine z_iconst C (v := 0) (by decide) dL_text_2 ?_
  refine z_aload_n C rfl 0 rfl dL_text_3 ?_
  refine z_iload_n C rfl 1 rfl dL_text_4 ?_
  refine z_lload_n C rfl 2 rfl dL_text_5 ?_
  refine z_lload C 3 rfl dL_text_6 ?_
  refine z_iload C 4 rfl dL_text_8 ?_
  rcases x9 with v9 | e9
  · have h := zsm_l h
    obtain ⟨e1, e2, e3, e4⟩ := zw_inj h
    subst e1
    subst e2
    subst e3
    subst e4
    refine z_callV C zc_11 rfl (by decide) dL_text_10 yy_X11_text (cn_X11_text C.2.2.2.2.1 a1 a2 a3 a4 I L hg) q_850 q_851 q_852 (by decide) (by decide) rfl rfl (Nat.le_of_ble_eq_true rfl) ⟨Nat.le_refl _, Nat.le_refl _, Nat.le_refl _, Nat.le_refl _⟩ ?_
    refine z_i2l C dL_text_13 ?_
    refine z_lastore C dL_text_14 (q := 133) (n := 1) rfl rfl (by decide) (zbd_in (by decide)) ?_
    refine z_goto C 30 (by decide) dL_text_15 ?_
    refine z_iconst C (v := 0) (by decide) dL_text_30 ?_
    exact z_iret C dL_text_31 .int rfl rfl rfl
  · have h := zsm_r h
    by_cases hk0 : e9 = 0
    · have h := zif_t hk0 h
      obtain ⟨e1, e2, e3, e4⟩ := zw_inj h
      subst e1
      subst e2
      subst e3
      subst e4
      subst hk0
      refine z_callVC C (E1 := "java/lang/IndexOutOfBoundsException") zc_11 rfl (by decide) dL_text_10 yy_X11_text (cx_X11_text (k9 := 0) C.2.2.2.2.1 a1 a2 a3 a4 I L hg) q_850 q_851 q_852 (by decide) (by decide) rfl rfl (Nat.le_of_ble_eq_true rfl) ⟨Nat.le_succ _, Nat.le_refl _, Nat.le_add_right _ _, Nat.le_refl _⟩ [] ⟨0, 15, 18, 13⟩ [⟨0, 15, 22, 15⟩, ⟨0, 15, 26, 21⟩] rfl (fun _ h => absurd h List.not_mem_nil) (by decide) (by decide) q_720 q_731 (fun a9 => ?_)
      refine z_astore C (lv' := [(8, .ref a9), (0, .ref (B0 + 0)), (1, .int a1), (2, .long a2), (4, .long a3), (6, .int a4), (7, .ref (B0 + 133))]) (by decide) rfl dL_text_18 ?_
      refine z_iconst C (v := 1) (by decide) dL_text_20 ?_
      exact z_iret C dL_text_21 .int rfl rfl rfl
    · have h := zif_f hk0 h
      by_cases hk1 : e9 = 1
      · have h := zif_t hk1 h
        obtain ⟨e1, e2, e3, e4⟩ := zw_inj h
        subst e1
        subst e2
        subst e3
        subst e4
        subst hk1
        refine z_callVC C (E1 := "java/lang/IllegalStateException") zc_11 rfl (by decide) dL_text_10 yy_X11_text (cx_X11_text (k9 := 1) C.2.2.2.2.1 a1 a2 a3 a4 I L hg) q_850 q_851 q_852 (by decide) (by decide) rfl rfl (Nat.le_of_ble_eq_true rfl) ⟨Nat.le_succ _, Nat.le_refl _, Nat.le_add_right _ _, Nat.le_refl _⟩ [⟨0, 15, 18, 13⟩] ⟨0, 15, 22, 15⟩ [⟨0, 15, 26, 21⟩] rfl (List.forall_mem_cons.mpr ⟨Or.inr ⟨by decide, "java/lang/IndexOutOfBoundsException", q_720, flat_of_before _ C.2.2.2.2.1.2.2.2.2.1 _ (by decide +kernel)⟩, (fun _ h => absurd h List.not_mem_nil)⟩) (by decide) (by decide) q_721 q_798 (fun a9 => ?_)
        refine z_astore C (lv' := [(8, .ref a9), (0, .ref (B0 + 0)), (1, .int a1), (2, .long a2), (4, .long a3), (6, .int a4), (7, .ref (B0 + 133))]) (by decide) rfl dL_text_22 ?_
        refine z_iconst C (v := 2) (by decide) dL_text_24 ?_
        exact z_iret C dL_text_25 .int rfl rfl rfl
      · have h := zif_f hk1 h
        by_cases hk2 : e9 = 2
        · have h := zif_t hk2 h
          obtain ⟨e1, e2, e3, e4⟩ := zw_inj h
          subst e1
          subst e2
          subst e3
          subst e4
          subst hk2
          refine z_callVC C (E1 := "java/lang/IllegalArgumentException") zc_11 rfl (by decide) dL_text_10 yy_X11_text (cx_X11_text (k9 := 2) C.2.2.2.2.1 a1 a2 a3 a4 I L hg) q_850 q_851 q_852 (by decide) (by decide) rfl rfl (Nat.le_of_ble_eq_true rfl) ⟨Nat.le_succ _, Nat.le_refl _, Nat.le_add_right _ _, Nat.le_refl _⟩ [⟨0, 15, 18, 13⟩, ⟨0, 15, 22, 15⟩] ⟨0, 15, 26, 21⟩ [] rfl (List.forall_mem_cons.mpr ⟨Or.inr ⟨by decide, "java/lang/IndexOutOfBoundsException", q_720, flat_of_before _ C.2.2.2.2.1.2.2.2.2.1 _ (by decide +kernel)⟩, (List.forall_mem_cons.mpr ⟨Or.inr ⟨by decide, "java/lang/IllegalStateException", q_721, flat_of_before _ C.2.2.2.2.1.2.2.2.2.1 _ (by decide +kernel)⟩, (fun _ h => absurd h List.not_mem_nil)⟩)⟩) (by decide) (by decide) q_818 q_826 (fun a9 => ?_)
          refine z_astore C (lv' := [(8, .ref a9), (0, .ref (B0 + 0)), (1, .int a1), (2, .long a2), (4, .long a3), (6, .int a4), (7, .ref (B0 + 133))]) (by decide) rfl dL_text_26 ?_
          refine z_iconst C (v := 3) (by decide) dL_text_28 ?_
          exact z_iret C dL_text_29 .int rfl rfl rfl
        · have h := zif_f hk2 h
          cases h
theorem yy_L_run : zYH yL_run cL_run 3 (some .int) [(0, 8, 11, 15), (0, 8, 14, 31)] 2 := ⟨q_866, q_74, by decide +kernel, by decide +kernel, by decide +kernel⟩
noncomputable def w_run (P : Nat)  (I : zI) (L : zL) : Option (Int32 × Nat × zI × zL) :=
  zb3 (f_X11_run P I L) (fun x9 I9 L9 => zsm x9 (fun v9 => some ((0 : Int32), 0, I9, zul L9 133 0 (v9.toInt64))) (fun e9 => if e9 = 1 then some ((1 : Int32), 1, I9, L9) else (if e9 = 3 then some ((2 : Int32), 1, I9, L9) else (none))))
set_option maxHeartbeats 4000000 in
set_option maxRecDepth 100000 in
theorem c_L_run {k9 : Int32} {n9 : Nat} {I2 : zI} {L2 : zL} (hE : zE0 l s0 a0 d cy B0) {P : Nat} (hP : zpl P) (I : zI) (L : zL) (h : w_run P I L = some (k9, n9, I2, L2)) : zMH l s0 d cy B0 yL_run cL_run 3 (some .int) [(0, 8, 11, 15), (0, 8, 14, 31)] 8 220 [.ref (B0 + 0), .ref (B0 + 133)] zSH zKn bc bs I L (.inl (some (.int k9))) zSH zKn (bc + n9) (bs + 6 * n9) I2 L2 := by
  unfold w_run at h
  obtain ⟨x9, I9, L9, hg, h⟩ := zb3_e h
  refine z_methH yy_L_run hE (Nat.le_of_ble_eq_true rfl) (fun p e R s m args below meth c C => ?_)
  show zG p l e R s m args below meth c d cy B0 3 bc bs (zQ below s args d cy B0 bc bs (.inl (some (.int k9))) zSH zKn (bc + n9) (bs + 6 * n9) I2 L2) 0 [(0, .ref (B0 + 0)), (1, .ref (B0 + 133))] [] zSH zKn bc bs I L
  refine z_aload_n C rfl 1 rfl dL_run_0 ?_
  refine z_iconst C (v := 0) (by decide) dL_run_1 ?_
  refine z_aload_n C rfl 0 rfl dL_run_2 ?_
  rcases x9 with v9 | e9
  · have h := zsm_l h
    obtain ⟨e1, e2, e3, e4⟩ := zw_inj h
    subst e1
    subst e2
    subst e3
    subst e4
    refine z_callV C zc_11 rfl (by decide) dL_run_3 yy_X11_run (cn_X11_run C.2.2.2.2.1 hP I L hg) q_868 q_869 q_870 (by decide) (by decide) rfl rfl (Nat.le_of_ble_eq_true rfl) ⟨Nat.le_refl _, Nat.le_refl _, Nat.le_refl _, Nat.le_refl _⟩ ?_
    refine z_i2l C dL_run_6 ?_
    refine z_lastore C dL_run_7 (q := 133) (n := 1) rfl rfl (by decide) (zbd_in (by decide)) ?_
    refine z_goto C 17 (by decide) dL_run_8 ?_
    refine z_iconst C (v := 0) (by decide) dL_run_17 ?_
    exact z_iret C dL_run_18 .int rfl rfl rfl
  · have h := zsm_r h
    by_cases hk0 : e9 = 1
    · have h := zif_t hk0 h
      obtain ⟨e1, e2, e3, e4⟩ := zw_inj h
      subst e1
      subst e2
      subst e3
      subst e4
      subst hk0
      refine z_callVC C (E1 := "java/lang/IllegalStateException") zc_11 rfl (by decide) dL_run_3 yy_X11_run (cx_X11_run (k9 := 1) C.2.2.2.2.1 hP I L hg) q_868 q_869 q_870 (by decide) (by decide) rfl rfl (Nat.le_of_ble_eq_true rfl) ⟨Nat.le_succ _, Nat.le_refl _, Nat.le_add_right _ _, Nat.le_refl _⟩ [] ⟨0, 8, 11, 15⟩ [⟨0, 8, 14, 31⟩] rfl (fun _ h => absurd h List.not_mem_nil) (by decide) (by decide) q_721 q_798 (fun a9 => ?_)
      refine z_astore_n C (lv' := [(2, .ref a9), (0, .ref (B0 + 0)), (1, .ref (B0 + 133))]) rfl (by decide) rfl dL_run_11 ?_
      refine z_iconst C (v := 1) (by decide) dL_run_12 ?_
      exact z_iret C dL_run_13 .int rfl rfl rfl
    · have h := zif_f hk0 h
      by_cases hk1 : e9 = 3
      · have h := zif_t hk1 h
        obtain ⟨e1, e2, e3, e4⟩ := zw_inj h
        subst e1
        subst e2
        subst e3
        subst e4
        subst hk1
        refine z_callVC C (E1 := "java/lang/UnsupportedOperationException") zc_11 rfl (by decide) dL_run_3 yy_X11_run (cx_X11_run (k9 := 3) C.2.2.2.2.1 hP I L hg) q_868 q_869 q_870 (by decide) (by decide) rfl rfl (Nat.le_of_ble_eq_true rfl) ⟨Nat.le_succ _, Nat.le_refl _, Nat.le_add_right _ _, Nat.le_refl _⟩ [⟨0, 8, 11, 15⟩] ⟨0, 8, 14, 31⟩ [] rfl (List.forall_mem_cons.mpr ⟨Or.inr ⟨by decide, "java/lang/IllegalStateException", q_721, flat_of_before _ C.2.2.2.2.1.2.2.2.2.1 _ (by decide +kernel)⟩, (fun _ h => absurd h List.not_mem_nil)⟩) (by decide) (by decide) q_867 q_1058 (fun a9 => ?_)
        refine z_astore_n C (lv' := [(2, .ref a9), (0, .ref (B0 + 0)), (1, .ref (B0 + 133))]) rfl (by decide) rfl dL_run_14 ?_
        refine z_iconst C (v := 2) (by decide) dL_run_15 ?_
        exact z_iret C dL_run_16 .int rfl rfl rfl
      · have h := zif_f hk1 h
        cases h
theorem yy_L_device : zYH yL_device cL_device 5 (some .int) [(0, 10, 13, 13), (0, 10, 17, 15)] 4 := ⟨q_1073, q_74, by decide +kernel, by decide +kernel, by decide +kernel⟩
noncomputable def w_device  (a1 : Int32) (a2 : Int32) (I : zI) (L : zL) : Option (Int32 × Nat × zI × zL) :=
  zb1 (f_X11_device a1 a2 I) (fun x9 => zsm x9 (fun v9 => some ((0 : Int32), 0, I, zul L 133 0 (v9.toInt64))) (fun e9 => if e9 = 0 then some ((1 : Int32), 1, I, L) else (if e9 = 1 then some ((2 : Int32), 1, I, L) else (none))))
set_option maxHeartbeats 4000000 in
set_option maxRecDepth 100000 in
theorem c_L_device {k9 : Int32} {n9 : Nat} {I2 : zI} {L2 : zL} (hE : zE0 l s0 a0 d cy B0) (a1 : Int32) (a2 : Int32) (I : zI) (L : zL) (h : w_device a1 a2 I L = some (k9, n9, I2, L2)) : zMH l s0 d cy B0 yL_device cL_device 5 (some .int) [(0, 10, 13, 13), (0, 10, 17, 15)] 8 220 [.ref (B0 + 0), .int a1, .int a2, .ref (B0 + 133)] zSH zKn bc bs I L (.inl (some (.int k9))) zSH zKn (bc + n9) (bs + 6 * n9) I2 L2 := by
  unfold w_device at h
  obtain ⟨x9, hg, h⟩ := zb1_e h
  refine z_methH yy_L_device hE (Nat.le_of_ble_eq_true rfl) (fun p e R s m args below meth c C => ?_)
  show zG p l e R s m args below meth c d cy B0 5 bc bs (zQ below s args d cy B0 bc bs (.inl (some (.int k9))) zSH zKn (bc + n9) (bs + 6 * n9) I2 L2) 0 [(0, .ref (B0 + 0)), (1, .int a1), (2, .int a2), (3, .ref (B0 + 133))] [] zSH zKn bc bs I L
  refine z_aload_n C rfl 3 rfl dL_device_0 ?_
  refine z_iconst C (v := 0) (by decide) dL_device_1 ?_
  refine z_aload_n C rfl 0 rfl dL_device_2 ?_
  refine z_iload_n C rfl 1 rfl dL_device_3 ?_
  refine z_iload_n C rfl 2 rfl dL_device_4 ?_
  rcases x9 with v9 | e9
  · have h := zsm_l h
    obtain ⟨e1, e2, e3, e4⟩ := zw_inj h
    subst e1
    subst e2
    subst e3
    subst e4
    refine z_callV C zc_11 rfl (by decide) dL_device_5 yy_X11_device (cn_X11_device C.2.2.2.2.1 a1 a2 I L hg) q_1074 q_1075 q_1076 (by decide) (by decide) rfl rfl (Nat.le_of_ble_eq_true rfl) ⟨Nat.le_refl _, Nat.le_refl _, Nat.le_refl _, Nat.le_refl _⟩ ?_
    refine z_i2l C dL_device_8 ?_
    refine z_lastore C dL_device_9 (q := 133) (n := 1) rfl rfl (by decide) (zbd_in (by decide)) ?_
    refine z_goto C 21 (by decide) dL_device_10 ?_
    refine z_iconst C (v := 0) (by decide) dL_device_21 ?_
    exact z_iret C dL_device_22 .int rfl rfl rfl
  · have h := zsm_r h
    by_cases hk0 : e9 = 0
    · have h := zif_t hk0 h
      obtain ⟨e1, e2, e3, e4⟩ := zw_inj h
      subst e1
      subst e2
      subst e3
      subst e4
      subst hk0
      refine z_callVC C (E1 := "java/lang/IndexOutOfBoundsException") zc_11 rfl (by decide) dL_device_5 yy_X11_device (cx_X11_device (k9 := 0) C.2.2.2.2.1 a1 a2 I L hg) q_1074 q_1075 q_1076 (by decide) (by decide) rfl rfl (Nat.le_of_ble_eq_true rfl) ⟨Nat.le_succ _, Nat.le_refl _, Nat.le_add_right _ _, Nat.le_refl _⟩ [] ⟨0, 10, 13, 13⟩ [⟨0, 10, 17, 15⟩] rfl (fun _ h => absurd h List.not_mem_nil) (by decide) (by decide) q_720 q_731 (fun a9 => ?_)
      refine z_astore C (lv' := [(4, .ref a9), (0, .ref (B0 + 0)), (1, .int a1), (2, .int a2), (3, .ref (B0 + 133))]) (by decide) rfl dL_device_13 ?_
      refine z_iconst C (v := 1) (by decide) dL_device_15 ?_
      exact z_iret C dL_device_16 .int rfl rfl rfl
    · have h := zif_f hk0 h
      by_cases hk1 : e9 = 1
      · have h := zif_t hk1 h
        obtain ⟨e1, e2, e3, e4⟩ := zw_inj h
        subst e1
        subst e2
        subst e3
        subst e4
        subst hk1
        refine z_callVC C (E1 := "java/lang/IllegalStateException") zc_11 rfl (by decide) dL_device_5 yy_X11_device (cx_X11_device (k9 := 1) C.2.2.2.2.1 a1 a2 I L hg) q_1074 q_1075 q_1076 (by decide) (by decide) rfl rfl (Nat.le_of_ble_eq_true rfl) ⟨Nat.le_succ _, Nat.le_refl _, Nat.le_add_right _ _, Nat.le_refl _⟩ [⟨0, 10, 13, 13⟩] ⟨0, 10, 17, 15⟩ [] rfl (List.forall_mem_cons.mpr ⟨Or.inr ⟨by decide, "java/lang/IndexOutOfBoundsException", q_720, flat_of_before _ C.2.2.2.2.1.2.2.2.2.1 _ (by decide +kernel)⟩, (fun _ h => absurd h List.not_mem_nil)⟩) (by decide) (by decide) q_721 q_798 (fun a9 => ?_)
        refine z_astore C (lv' := [(4, .ref a9), (0, .ref (B0 + 0)), (1, .int a1), (2, .int a2), (3, .ref (B0 + 133))]) (by decide) rfl dL_device_17 ?_
        refine z_iconst C (v := 2) (by decide) dL_device_19 ?_
        exact z_iret C dL_device_20 .int rfl rfl rfl
      · have h := zif_f hk1 h
        cases h
theorem yy_L_size : zYH yL_size cL_size 5 (some .int) [(0, 9, 12, 13), (0, 9, 16, 15)] 4 := ⟨q_1082, q_74, by decide +kernel, by decide +kernel, by decide +kernel⟩
noncomputable def w_size  (a1 : Int32) (a2 : Int32) (I : zI) (L : zL) : Option (Int32 × Nat × zI × zL) :=
  zb1 (f_X11_size a1 a2 I) (fun x9 => zsm x9 (fun v9 => some ((0 : Int32), 0, I, zul L 133 0 (v9))) (fun e9 => if e9 = 0 then some ((1 : Int32), 1, I, L) else (if e9 = 1 then some ((2 : Int32), 1, I, L) else (none))))
set_option maxHeartbeats 4000000 in
set_option maxRecDepth 100000 in
theorem c_L_size {k9 : Int32} {n9 : Nat} {I2 : zI} {L2 : zL} (hE : zE0 l s0 a0 d cy B0) (a1 : Int32) (a2 : Int32) (I : zI) (L : zL) (h : w_size a1 a2 I L = some (k9, n9, I2, L2)) : zMH l s0 d cy B0 yL_size cL_size 5 (some .int) [(0, 9, 12, 13), (0, 9, 16, 15)] 8 220 [.ref (B0 + 0), .int a1, .int a2, .ref (B0 + 133)] zSH zKn bc bs I L (.inl (some (.int k9))) zSH zKn (bc + n9) (bs + 6 * n9) I2 L2 := by
  unfold w_size at h
  obtain ⟨x9, hg, h⟩ := zb1_e h
  refine z_methH yy_L_size hE (Nat.le_of_ble_eq_true rfl) (fun p e R s m args below meth c C => ?_)
  show zG p l e R s m args below meth c d cy B0 5 bc bs (zQ below s args d cy B0 bc bs (.inl (some (.int k9))) zSH zKn (bc + n9) (bs + 6 * n9) I2 L2) 0 [(0, .ref (B0 + 0)), (1, .int a1), (2, .int a2), (3, .ref (B0 + 133))] [] zSH zKn bc bs I L
  refine z_aload_n C rfl 3 rfl dL_size_0 ?_
  refine z_iconst C (v := 0) (by decide) dL_size_1 ?_
  refine z_aload_n C rfl 0 rfl dL_size_2 ?_
  refine z_iload_n C rfl 1 rfl dL_size_3 ?_
  refine z_iload_n C rfl 2 rfl dL_size_4 ?_
  rcases x9 with v9 | e9
  · have h := zsm_l h
    obtain ⟨e1, e2, e3, e4⟩ := zw_inj h
    subst e1
    subst e2
    subst e3
    subst e4
    refine z_callV C zc_11 rfl (by decide) dL_size_5 yy_X11_size (cn_X11_size C.2.2.2.2.1 a1 a2 I L hg) q_1083 q_1084 q_1085 (by decide) (by decide) rfl rfl (Nat.le_of_ble_eq_true rfl) ⟨Nat.le_refl _, Nat.le_refl _, Nat.le_refl _, Nat.le_refl _⟩ ?_
    refine z_lastore C dL_size_8 (q := 133) (n := 1) rfl rfl (by decide) (zbd_in (by decide)) ?_
    refine z_goto C 20 (by decide) dL_size_9 ?_
    refine z_iconst C (v := 0) (by decide) dL_size_20 ?_
    exact z_iret C dL_size_21 .int rfl rfl rfl
  · have h := zsm_r h
    by_cases hk0 : e9 = 0
    · have h := zif_t hk0 h
      obtain ⟨e1, e2, e3, e4⟩ := zw_inj h
      subst e1
      subst e2
      subst e3
      subst e4
      subst hk0
      refine z_callVC C (E1 := "java/lang/IndexOutOfBoundsException") zc_11 rfl (by decide) dL_size_5 yy_X11_size (cx_X11_size (k9 := 0) C.2.2.2.2.1 a1 a2 I L hg) q_1083 q_1084 q_1085 (by decide) (by decide) rfl rfl (Nat.le_of_ble_eq_true rfl) ⟨Nat.le_succ _, Nat.le_refl _, Nat.le_add_right _ _, Nat.le_refl _⟩ [] ⟨0, 9, 12, 13⟩ [⟨0, 9, 16, 15⟩] rfl (fun _ h => absurd h List.not_mem_nil) (by decide) (by decide) q_720 q_731 (fun a9 => ?_)
      refine z_astore C (lv' := [(4, .ref a9), (0, .ref (B0 + 0)), (1, .int a1), (2, .int a2), (3, .ref (B0 + 133))]) (by decide) rfl dL_size_12 ?_
      refine z_iconst C (v := 1) (by decide) dL_size_14 ?_
      exact z_iret C dL_size_15 .int rfl rfl rfl
    · have h := zif_f hk0 h
      by_cases hk1 : e9 = 1
      · have h := zif_t hk1 h
        obtain ⟨e1, e2, e3, e4⟩ := zw_inj h
        subst e1
        subst e2
        subst e3
        subst e4
        subst hk1
        refine z_callVC C (E1 := "java/lang/IllegalStateException") zc_11 rfl (by decide) dL_size_5 yy_X11_size (cx_X11_size (k9 := 1) C.2.2.2.2.1 a1 a2 I L hg) q_1083 q_1084 q_1085 (by decide) (by decide) rfl rfl (Nat.le_of_ble_eq_true rfl) ⟨Nat.le_succ _, Nat.le_refl _, Nat.le_add_right _ _, Nat.le_refl _⟩ [⟨0, 9, 12, 13⟩] ⟨0, 9, 16, 15⟩ [] rfl (List.forall_mem_cons.mpr ⟨Or.inr ⟨by decide, "java/lang/IndexOutOfBoundsException", q_720, flat_of_before _ C.2.2.2.2.1.2.2.2.2.1 _ (by decide +kernel)⟩, (fun _ h => absurd h List.not_mem_nil)⟩) (by decide) (by decide) q_721 q_798 (fun a9 => ?_)
        refine z_astore C (lv' := [(4, .ref a9), (0, .ref (B0 + 0)), (1, .int a1), (2, .int a2), (3, .ref (B0 + 133))]) (by decide) rfl dL_size_16 ?_
        refine z_iconst C (v := 2) (by decide) dL_size_18 ?_
        exact z_iret C dL_size_19 .int rfl rfl rfl
      · have h := zif_f hk1 h
        cases h
theorem yy_L_pin : zYH yL_pin cL_pin 5 (some .int) [(0, 10, 13, 15), (0, 10, 17, 13)] 4 := ⟨q_1089, q_74, by decide +kernel, by decide +kernel, by decide +kernel⟩
noncomputable def w_pin (P : Nat) (a1 : Int32) (a2 : Int32) (I : zI) (L : zL) : Option (Int32 × Nat × zI × zL) :=
  zb1 (f_X11_pin P a1 a2 I) (fun x9 => zsm x9 (fun v9 => some ((0 : Int32), 0, I, zul L 133 0 (v9.toInt64))) (fun e9 => if e9 = 1 then some ((1 : Int32), 1, I, L) else (if e9 = 0 then some ((2 : Int32), 1, I, L) else (none))))
set_option maxHeartbeats 4000000 in
set_option maxRecDepth 100000 in
theorem c_L_pin {k9 : Int32} {n9 : Nat} {I2 : zI} {L2 : zL} (hE : zE0 l s0 a0 d cy B0) {P : Nat} (hP : zpl P) (a1 : Int32) (a2 : Int32) (I : zI) (L : zL) (h : w_pin P a1 a2 I L = some (k9, n9, I2, L2)) : zMH l s0 d cy B0 yL_pin cL_pin 5 (some .int) [(0, 10, 13, 15), (0, 10, 17, 13)] 8 220 [.ref (B0 + 0), .int a1, .int a2, .ref (B0 + 133)] zSH zKn bc bs I L (.inl (some (.int k9))) zSH zKn (bc + n9) (bs + 6 * n9) I2 L2 := by
  unfold w_pin at h
  obtain ⟨x9, hg, h⟩ := zb1_e h
  refine z_methH yy_L_pin hE (Nat.le_of_ble_eq_true rfl) (fun p e R s m args below meth c C => ?_)
  show zG p l e R s m args below meth c d cy B0 5 bc bs (zQ below s args d cy B0 bc bs (.inl (some (.int k9))) zSH zKn (bc + n9) (bs + 6 * n9) I2 L2) 0 [(0, .ref (B0 + 0)), (1, .int a1), (2, .int a2), (3, .ref (B0 + 133))] [] zSH zKn bc bs I L
  refine z_aload_n C rfl 3 rfl dL_pin_0 ?_
  refine z_iconst C (v := 0) (by decide) dL_pin_1 ?_
  refine z_aload_n C rfl 0 rfl dL_pin_2 ?_
  refine z_iload_n C rfl 1 rfl dL_pin_3 ?_
  refine z_iload_n C rfl 2 rfl dL_pin_4 ?_
  rcases x9 with v9 | e9
  · have h := zsm_l h
    obtain ⟨e1, e2, e3, e4⟩ := zw_inj h
    subst e1
    subst e2
    subst e3
    subst e4
    refine z_callV C zc_11 rfl (by decide) dL_pin_5 yy_X11_pin (cn_X11_pin C.2.2.2.2.1 hP a1 a2 I L hg) q_1090 q_1091 q_1092 (by decide) (by decide) rfl rfl (Nat.le_of_ble_eq_true rfl) ⟨Nat.le_refl _, Nat.le_refl _, Nat.le_refl _, Nat.le_refl _⟩ ?_
    refine z_i2l C dL_pin_8 ?_
    refine z_lastore C dL_pin_9 (q := 133) (n := 1) rfl rfl (by decide) (zbd_in (by decide)) ?_
    refine z_goto C 21 (by decide) dL_pin_10 ?_
    refine z_iconst C (v := 0) (by decide) dL_pin_21 ?_
    exact z_iret C dL_pin_22 .int rfl rfl rfl
  · have h := zsm_r h
    by_cases hk0 : e9 = 1
    · have h := zif_t hk0 h
      obtain ⟨e1, e2, e3, e4⟩ := zw_inj h
      subst e1
      subst e2
      subst e3
      subst e4
      subst hk0
      refine z_callVC C (E1 := "java/lang/IllegalStateException") zc_11 rfl (by decide) dL_pin_5 yy_X11_pin (cx_X11_pin (k9 := 1) C.2.2.2.2.1 hP a1 a2 I L hg) q_1090 q_1091 q_1092 (by decide) (by decide) rfl rfl (Nat.le_of_ble_eq_true rfl) ⟨Nat.le_succ _, Nat.le_refl _, Nat.le_add_right _ _, Nat.le_refl _⟩ [] ⟨0, 10, 13, 15⟩ [⟨0, 10, 17, 13⟩] rfl (fun _ h => absurd h List.not_mem_nil) (by decide) (by decide) q_721 q_798 (fun a9 => ?_)
      refine z_astore C (lv' := [(4, .ref a9), (0, .ref (B0 + 0)), (1, .int a1), (2, .int a2), (3, .ref (B0 + 133))]) (by decide) rfl dL_pin_13 ?_
      refine z_iconst C (v := 1) (by decide) dL_pin_15 ?_
      exact z_iret C dL_pin_16 .int rfl rfl rfl
    · have h := zif_f hk0 h
      by_cases hk1 : e9 = 0
      · have h := zif_t hk1 h
        obtain ⟨e1, e2, e3, e4⟩ := zw_inj h
        subst e1
        subst e2
        subst e3
        subst e4
        subst hk1
        refine z_callVC C (E1 := "java/lang/IndexOutOfBoundsException") zc_11 rfl (by decide) dL_pin_5 yy_X11_pin (cx_X11_pin (k9 := 0) C.2.2.2.2.1 hP a1 a2 I L hg) q_1090 q_1091 q_1092 (by decide) (by decide) rfl rfl (Nat.le_of_ble_eq_true rfl) ⟨Nat.le_succ _, Nat.le_refl _, Nat.le_add_right _ _, Nat.le_refl _⟩ [⟨0, 10, 13, 15⟩] ⟨0, 10, 17, 13⟩ [] rfl (List.forall_mem_cons.mpr ⟨Or.inr ⟨by decide, "java/lang/IllegalStateException", q_721, flat_of_before _ C.2.2.2.2.1.2.2.2.2.1 _ (by decide +kernel)⟩, (fun _ h => absurd h List.not_mem_nil)⟩) (by decide) (by decide) q_720 q_731 (fun a9 => ?_)
        refine z_astore C (lv' := [(4, .ref a9), (0, .ref (B0 + 0)), (1, .int a1), (2, .int a2), (3, .ref (B0 + 133))]) (by decide) rfl dL_pin_17 ?_
        refine z_iconst C (v := 2) (by decide) dL_pin_19 ?_
        exact z_iret C dL_pin_20 .int rfl rfl rfl
      · have h := zif_f hk1 h
        cases h
theorem yy_L_net : zYH yL_net cL_net 8 (some .int) [(0, 13, 16, 13), (0, 13, 20, 15)] 5 := ⟨q_1096, q_74, by decide +kernel, by decide +kernel, by decide +kernel⟩
noncomputable def w_net (P : Nat) (a1 : Int32) (a2 : Int64) (a3 : Int64) (I : zI) (L : zL) : Option (Int32 × Nat × zI × zL) :=
  zb1 (f_X11_net P a1 a2 a3 I) (fun x9 => zsm x9 (fun v9 => some ((0 : Int32), 0, I, zul L 133 0 (v9.toInt64))) (fun e9 => if e9 = 0 then some ((1 : Int32), 1, I, L) else (if e9 = 1 then some ((2 : Int32), 1, I, L) else (none))))
set_option maxHeartbeats 4000000 in
set_option maxRecDepth 100000 in
theorem c_L_net {k9 : Int32} {n9 : Nat} {I2 : zI} {L2 : zL} (hE : zE0 l s0 a0 d cy B0) {P : Nat} (hP : zpl P) (a1 : Int32) (a2 : Int64) (a3 : Int64) (I : zI) (L : zL) (h : w_net P a1 a2 a3 I L = some (k9, n9, I2, L2)) : zMH l s0 d cy B0 yL_net cL_net 8 (some .int) [(0, 13, 16, 13), (0, 13, 20, 15)] 8 220 [.ref (B0 + 0), .int a1, .long a2, .long a3, .ref (B0 + 133)] zSH zKn bc bs I L (.inl (some (.int k9))) zSH zKn (bc + n9) (bs + 6 * n9) I2 L2 := by
  unfold w_net at h
  obtain ⟨x9, hg, h⟩ := zb1_e h
  refine z_methH yy_L_net hE (Nat.le_of_ble_eq_true rfl) (fun p e R s m args below meth c C => ?_)
  show zG p l e R s m args below meth c d cy B0 8 bc bs (zQ below s args d cy B0 bc bs (.inl (some (.int k9))) zSH zKn (bc + n9) (bs + 6 * n9) I2 L2) 0 [(0, .ref (B0 + 0)), (1, .int a1), (2, .long a2), (4, .long a3), (6, .ref (B0 + 133))] [] zSH zKn bc bs I L
  refine z_aload C 4 rfl dL_net_0 ?_
  refine z_iconst C (v := 0) (by decide) dL_net_2 ?_
  refine z_aload_n C rfl 0 rfl dL_net_3 ?_
  refine z_iload_n C rfl 1 rfl dL_net_4 ?_
  refine z_lload_n C rfl 2 rfl dL_net_5 ?_
  refine z_lload C 3 rfl dL_net_6 ?_
  rcases x9 with v9 | e9
  · have h := zsm_l h
    obtain ⟨e1, e2, e3, e4⟩ := zw_inj h
    subst e1
    subst e2
    subst e3
    subst e4
    refine z_callV C zc_11 rfl (by decide) dL_net_8 yy_X11_net (cn_X11_net C.2.2.2.2.1 hP a1 a2 a3 I L hg) q_1097 q_1098 q_1099 (by decide) (by decide) rfl rfl (Nat.le_of_ble_eq_true rfl) ⟨Nat.le_refl _, Nat.le_refl _, Nat.le_refl _, Nat.le_refl _⟩ ?_
    refine z_i2l C dL_net_11 ?_
    refine z_lastore C dL_net_12 (q := 133) (n := 1) rfl rfl (by decide) (zbd_in (by decide)) ?_
    refine z_goto C 24 (by decide) dL_net_13 ?_
    refine z_iconst C (v := 0) (by decide) dL_net_24 ?_
    exact z_iret C dL_net_25 .int rfl rfl rfl
  · have h := zsm_r h
    by_cases hk0 : e9 = 0
    · have h := zif_t hk0 h
      obtain ⟨e1, e2, e3, e4⟩ := zw_inj h
      subst e1
      subst e2
      subst e3
      subst e4
      subst hk0
      refine z_callVC C (E1 := "java/lang/IndexOutOfBoundsException") zc_11 rfl (by decide) dL_net_8 yy_X11_net (cx_X11_net (k9 := 0) C.2.2.2.2.1 hP a1 a2 a3 I L hg) q_1097 q_1098 q_1099 (by decide) (by decide) rfl rfl (Nat.le_of_ble_eq_true rfl) ⟨Nat.le_succ _, Nat.le_refl _, Nat.le_add_right _ _, Nat.le_refl _⟩ [] ⟨0, 13, 16, 13⟩ [⟨0, 13, 20, 15⟩] rfl (fun _ h => absurd h List.not_mem_nil) (by decide) (by decide) q_720 q_731 (fun a9 => ?_)
      refine z_astore C (lv' := [(7, .ref a9), (0, .ref (B0 + 0)), (1, .int a1), (2, .long a2), (4, .long a3), (6, .ref (B0 + 133))]) (by decide) rfl dL_net_16 ?_
      refine z_iconst C (v := 1) (by decide) dL_net_18 ?_
      exact z_iret C dL_net_19 .int rfl rfl rfl
    · have h := zif_f hk0 h
      by_cases hk1 : e9 = 1
      · have h := zif_t hk1 h
        obtain ⟨e1, e2, e3, e4⟩ := zw_inj h
        subst e1
        subst e2
        subst e3
        subst e4
        subst hk1
        refine z_callVC C (E1 := "java/lang/IllegalStateException") zc_11 rfl (by decide) dL_net_8 yy_X11_net (cx_X11_net (k9 := 1) C.2.2.2.2.1 hP a1 a2 a3 I L hg) q_1097 q_1098 q_1099 (by decide) (by decide) rfl rfl (Nat.le_of_ble_eq_true rfl) ⟨Nat.le_succ _, Nat.le_refl _, Nat.le_add_right _ _, Nat.le_refl _⟩ [⟨0, 13, 16, 13⟩] ⟨0, 13, 20, 15⟩ [] rfl (List.forall_mem_cons.mpr ⟨Or.inr ⟨by decide, "java/lang/IndexOutOfBoundsException", q_720, flat_of_before _ C.2.2.2.2.1.2.2.2.2.1 _ (by decide +kernel)⟩, (fun _ h => absurd h List.not_mem_nil)⟩) (by decide) (by decide) q_721 q_798 (fun a9 => ?_)
        refine z_astore C (lv' := [(7, .ref a9), (0, .ref (B0 + 0)), (1, .int a1), (2, .long a2), (4, .long a3), (6, .ref (B0 + 133))]) (by decide) rfl dL_net_20 ?_
        refine z_iconst C (v := 2) (by decide) dL_net_22 ?_
        exact z_iret C dL_net_23 .int rfl rfl rfl
      · have h := zif_f hk1 h
        cases h
theorem yy_L_named : zYH yL_named cL_named 4 (some .int) [(0, 9, 12, 15), (0, 9, 15, 13)] 3 := ⟨q_1104, q_74, by decide +kernel, by decide +kernel, by decide +kernel⟩
noncomputable def w_named  (a1 : Int32) (I : zI) (L : zL) : Option (Int32 × Nat × zI × zL) :=
  zb1 (f_X11_named a1 I) (fun x9 => zsm x9 (fun v9 => some ((0 : Int32), 0, I, zul L 133 0 (v9.toInt64))) (fun e9 => if e9 = 1 then some ((1 : Int32), 1, I, L) else (if e9 = 0 then some ((2 : Int32), 1, I, L) else (none))))
set_option maxHeartbeats 4000000 in
set_option maxRecDepth 100000 in
theorem c_L_named {k9 : Int32} {n9 : Nat} {I2 : zI} {L2 : zL} (hE : zE0 l s0 a0 d cy B0) (a1 : Int32) (I : zI) (L : zL) (h : w_named a1 I L = some (k9, n9, I2, L2)) : zMH l s0 d cy B0 yL_named cL_named 4 (some .int) [(0, 9, 12, 15), (0, 9, 15, 13)] 8 220 [.ref (B0 + 0), .int a1, .ref (B0 + 133)] zSH zKn bc bs I L (.inl (some (.int k9))) zSH zKn (bc + n9) (bs + 6 * n9) I2 L2 := by
  unfold w_named at h
  obtain ⟨x9, hg, h⟩ := zb1_e h
  refine z_methH yy_L_named hE (Nat.le_of_ble_eq_true rfl) (fun p e R s m args below meth c C => ?_)
  show zG p l e R s m args below meth c d cy B0 4 bc bs (zQ below s args d cy B0 bc bs (.inl (some (.int k9))) zSH zKn (bc + n9) (bs + 6 * n9) I2 L2) 0 [(0, .ref (B0 + 0)), (1, .int a1), (2, .ref (B0 + 133))] [] zSH zKn bc bs I L
  refine z_aload_n C rfl 2 rfl dL_named_0 ?_
  refine z_iconst C (v := 0) (by decide) dL_named_1 ?_
  refine z_aload_n C rfl 0 rfl dL_named_2 ?_
  refine z_iload_n C rfl 1 rfl dL_named_3 ?_
  rcases x9 with v9 | e9
  · have h := zsm_l h
    obtain ⟨e1, e2, e3, e4⟩ := zw_inj h
    subst e1
    subst e2
    subst e3
    subst e4
    refine z_callV C zc_11 rfl (by decide) dL_named_4 yy_X11_named (cn_X11_named C.2.2.2.2.1 a1 I L hg) q_1105 q_1106 q_1107 (by decide) (by decide) rfl rfl (Nat.le_of_ble_eq_true rfl) ⟨Nat.le_refl _, Nat.le_refl _, Nat.le_refl _, Nat.le_refl _⟩ ?_
    refine z_i2l C dL_named_7 ?_
    refine z_lastore C dL_named_8 (q := 133) (n := 1) rfl rfl (by decide) (zbd_in (by decide)) ?_
    refine z_goto C 18 (by decide) dL_named_9 ?_
    refine z_iconst C (v := 0) (by decide) dL_named_18 ?_
    exact z_iret C dL_named_19 .int rfl rfl rfl
  · have h := zsm_r h
    by_cases hk0 : e9 = 1
    · have h := zif_t hk0 h
      obtain ⟨e1, e2, e3, e4⟩ := zw_inj h
      subst e1
      subst e2
      subst e3
      subst e4
      subst hk0
      refine z_callVC C (E1 := "java/lang/IllegalStateException") zc_11 rfl (by decide) dL_named_4 yy_X11_named (cx_X11_named (k9 := 1) C.2.2.2.2.1 a1 I L hg) q_1105 q_1106 q_1107 (by decide) (by decide) rfl rfl (Nat.le_of_ble_eq_true rfl) ⟨Nat.le_succ _, Nat.le_refl _, Nat.le_add_right _ _, Nat.le_refl _⟩ [] ⟨0, 9, 12, 15⟩ [⟨0, 9, 15, 13⟩] rfl (fun _ h => absurd h List.not_mem_nil) (by decide) (by decide) q_721 q_798 (fun a9 => ?_)
      refine z_astore_n C (lv' := [(3, .ref a9), (0, .ref (B0 + 0)), (1, .int a1), (2, .ref (B0 + 133))]) rfl (by decide) rfl dL_named_12 ?_
      refine z_iconst C (v := 1) (by decide) dL_named_13 ?_
      exact z_iret C dL_named_14 .int rfl rfl rfl
    · have h := zif_f hk0 h
      by_cases hk1 : e9 = 0
      · have h := zif_t hk1 h
        obtain ⟨e1, e2, e3, e4⟩ := zw_inj h
        subst e1
        subst e2
        subst e3
        subst e4
        subst hk1
        refine z_callVC C (E1 := "java/lang/IndexOutOfBoundsException") zc_11 rfl (by decide) dL_named_4 yy_X11_named (cx_X11_named (k9 := 0) C.2.2.2.2.1 a1 I L hg) q_1105 q_1106 q_1107 (by decide) (by decide) rfl rfl (Nat.le_of_ble_eq_true rfl) ⟨Nat.le_succ _, Nat.le_refl _, Nat.le_add_right _ _, Nat.le_refl _⟩ [⟨0, 9, 12, 15⟩] ⟨0, 9, 15, 13⟩ [] rfl (List.forall_mem_cons.mpr ⟨Or.inr ⟨by decide, "java/lang/IllegalStateException", q_721, flat_of_before _ C.2.2.2.2.1.2.2.2.2.1 _ (by decide +kernel)⟩, (fun _ h => absurd h List.not_mem_nil)⟩) (by decide) (by decide) q_720 q_731 (fun a9 => ?_)
        refine z_astore_n C (lv' := [(3, .ref a9), (0, .ref (B0 + 0)), (1, .int a1), (2, .ref (B0 + 133))]) rfl (by decide) rfl dL_named_15 ?_
        refine z_iconst C (v := 2) (by decide) dL_named_16 ?_
        exact z_iret C dL_named_17 .int rfl rfl rfl
      · have h := zif_f hk1 h
        cases h
theorem yy_L_twice : zYH yL_twice cL_twice 4 (some .int) [(0, 9, 12, 13), (0, 9, 15, 15)] 3 := ⟨q_1115, q_74, by decide +kernel, by decide +kernel, by decide +kernel⟩
noncomputable def w_twice  (a1 : Int32) (I : zI) (L : zL) : Option (Int32 × Nat × zI × zL) :=
  zb1 (f_X11_twice a1 I) (fun x9 => zsm x9 (fun v9 => some ((0 : Int32), 0, I, zul L 133 0 (v9.toInt64))) (fun e9 => if e9 = 0 then some ((1 : Int32), 1, I, L) else (if e9 = 1 then some ((2 : Int32), 1, I, L) else (none))))
set_option maxHeartbeats 4000000 in
set_option maxRecDepth 100000 in
theorem c_L_twice {k9 : Int32} {n9 : Nat} {I2 : zI} {L2 : zL} (hE : zE0 l s0 a0 d cy B0) (a1 : Int32) (I : zI) (L : zL) (h : w_twice a1 I L = some (k9, n9, I2, L2)) : zMH l s0 d cy B0 yL_twice cL_twice 4 (some .int) [(0, 9, 12, 13), (0, 9, 15, 15)] 8 220 [.ref (B0 + 0), .int a1, .ref (B0 + 133)] zSH zKn bc bs I L (.inl (some (.int k9))) zSH zKn (bc + n9) (bs + 6 * n9) I2 L2 := by
  unfold w_twice at h
  obtain ⟨x9, hg, h⟩ := zb1_e h
  refine z_methH yy_L_twice hE (Nat.le_of_ble_eq_true rfl) (fun p e R s m args below meth c C => ?_)
  show zG p l e R s m args below meth c d cy B0 4 bc bs (zQ below s args d cy B0 bc bs (.inl (some (.int k9))) zSH zKn (bc + n9) (bs + 6 * n9) I2 L2) 0 [(0, .ref (B0 + 0)), (1, .int a1), (2, .ref (B0 + 133))] [] zSH zKn bc bs I L
  refine z_aload_n C rfl 2 rfl dL_twice_0 ?_
  refine z_iconst C (v := 0) (by decide) dL_twice_1 ?_
  refine z_aload_n C rfl 0 rfl dL_twice_2 ?_
  refine z_iload_n C rfl 1 rfl dL_twice_3 ?_
  rcases x9 with v9 | e9
  · have h := zsm_l h
    obtain ⟨e1, e2, e3, e4⟩ := zw_inj h
    subst e1
    subst e2
    subst e3
    subst e4
    refine z_callV C zc_11 rfl (by decide) dL_twice_4 yy_X11_twice (cn_X11_twice C.2.2.2.2.1 a1 I L hg) q_1116 q_1117 q_1118 (by decide) (by decide) rfl rfl (Nat.le_of_ble_eq_true rfl) ⟨Nat.le_refl _, Nat.le_refl _, Nat.le_refl _, Nat.le_refl _⟩ ?_
    refine z_i2l C dL_twice_7 ?_
    refine z_lastore C dL_twice_8 (q := 133) (n := 1) rfl rfl (by decide) (zbd_in (by decide)) ?_
    refine z_goto C 18 (by decide) dL_twice_9 ?_
    refine z_iconst C (v := 0) (by decide) dL_twice_18 ?_
    exact z_iret C dL_twice_19 .int rfl rfl rfl
  · have h := zsm_r h
    by_cases hk0 : e9 = 0
    · have h := zif_t hk0 h
      obtain ⟨e1, e2, e3, e4⟩ := zw_inj h
      subst e1
      subst e2
      subst e3
      subst e4
      subst hk0
      refine z_callVC C (E1 := "java/lang/IndexOutOfBoundsException") zc_11 rfl (by decide) dL_twice_4 yy_X11_twice (cx_X11_twice (k9 := 0) C.2.2.2.2.1 a1 I L hg) q_1116 q_1117 q_1118 (by decide) (by decide) rfl rfl (Nat.le_of_ble_eq_true rfl) ⟨Nat.le_succ _, Nat.le_refl _, Nat.le_add_right _ _, Nat.le_refl _⟩ [] ⟨0, 9, 12, 13⟩ [⟨0, 9, 15, 15⟩] rfl (fun _ h => absurd h List.not_mem_nil) (by decide) (by decide) q_720 q_731 (fun a9 => ?_)
      refine z_astore_n C (lv' := [(3, .ref a9), (0, .ref (B0 + 0)), (1, .int a1), (2, .ref (B0 + 133))]) rfl (by decide) rfl dL_twice_12 ?_
      refine z_iconst C (v := 1) (by decide) dL_twice_13 ?_
      exact z_iret C dL_twice_14 .int rfl rfl rfl
    · have h := zif_f hk0 h
      by_cases hk1 : e9 = 1
      · have h := zif_t hk1 h
        obtain ⟨e1, e2, e3, e4⟩ := zw_inj h
        subst e1
        subst e2
        subst e3
        subst e4
        subst hk1
        refine z_callVC C (E1 := "java/lang/IllegalStateException") zc_11 rfl (by decide) dL_twice_4 yy_X11_twice (cx_X11_twice (k9 := 1) C.2.2.2.2.1 a1 I L hg) q_1116 q_1117 q_1118 (by decide) (by decide) rfl rfl (Nat.le_of_ble_eq_true rfl) ⟨Nat.le_succ _, Nat.le_refl _, Nat.le_add_right _ _, Nat.le_refl _⟩ [⟨0, 9, 12, 13⟩] ⟨0, 9, 15, 15⟩ [] rfl (List.forall_mem_cons.mpr ⟨Or.inr ⟨by decide, "java/lang/IndexOutOfBoundsException", q_720, flat_of_before _ C.2.2.2.2.1.2.2.2.2.1 _ (by decide +kernel)⟩, (fun _ h => absurd h List.not_mem_nil)⟩) (by decide) (by decide) q_721 q_798 (fun a9 => ?_)
        refine z_astore_n C (lv' := [(3, .ref a9), (0, .ref (B0 + 0)), (1, .int a1), (2, .ref (B0 + 133))]) rfl (by decide) rfl dL_twice_15 ?_
        refine z_iconst C (v := 2) (by decide) dL_twice_16 ?_
        exact z_iret C dL_twice_17 .int rfl rfl rfl
      · have h := zif_f hk1 h
        cases h
theorem yy_L_bad : zYH yL_bad cL_bad 4 (some .int) [(0, 9, 12, 13), (0, 9, 15, 15)] 3 := ⟨q_1137, q_74, by decide +kernel, by decide +kernel, by decide +kernel⟩
noncomputable def w_bad  (a1 : Int32) (I : zI) (L : zL) : Option (Int32 × Nat × zI × zL) :=
  zb1 (f_X11_bad a1 I) (fun x9 => zsm x9 (fun v9 => some ((0 : Int32), 0, I, zul L 133 0 (v9.toInt64))) (fun e9 => if e9 = 0 then some ((1 : Int32), 1, I, L) else (if e9 = 1 then some ((2 : Int32), 1, I, L) else (none))))
set_option maxHeartbeats 4000000 in
set_option maxRecDepth 100000 in
theorem c_L_bad {k9 : Int32} {n9 : Nat} {I2 : zI} {L2 : zL} (hE : zE0 l s0 a0 d cy B0) (a1 : Int32) (I : zI) (L : zL) (h : w_bad a1 I L = some (k9, n9, I2, L2)) : zMH l s0 d cy B0 yL_bad cL_bad 4 (some .int) [(0, 9, 12, 13), (0, 9, 15, 15)] 8 220 [.ref (B0 + 0), .int a1, .ref (B0 + 133)] zSH zKn bc bs I L (.inl (some (.int k9))) zSH zKn (bc + n9) (bs + 6 * n9) I2 L2 := by
  unfold w_bad at h
  obtain ⟨x9, hg, h⟩ := zb1_e h
  refine z_methH yy_L_bad hE (Nat.le_of_ble_eq_true rfl) (fun p e R s m args below meth c C => ?_)
  show zG p l e R s m args below meth c d cy B0 4 bc bs (zQ below s args d cy B0 bc bs (.inl (some (.int k9))) zSH zKn (bc + n9) (bs + 6 * n9) I2 L2) 0 [(0, .ref (B0 + 0)), (1, .int a1), (2, .ref (B0 + 133))] [] zSH zKn bc bs I L
  refine z_aload_n C rfl 2 rfl dL_bad_0 ?_
  refine z_iconst C (v := 0) (by decide) dL_bad_1 ?_
  refine z_aload_n C rfl 0 rfl dL_bad_2 ?_
  refine z_iload_n C rfl 1 rfl dL_bad_3 ?_
  rcases x9 with v9 | e9
  · have h := zsm_l h
    obtain ⟨e1, e2, e3, e4⟩ := zw_inj h
    subst e1
    subst e2
    subst e3
    subst e4
    refine z_callV C zc_11 rfl (by decide) dL_bad_4 yy_X11_bad (cn_X11_bad C.2.2.2.2.1 a1 I L hg) q_1138 q_1139 q_1140 (by decide) (by decide) rfl rfl (Nat.le_of_ble_eq_true rfl) ⟨Nat.le_refl _, Nat.le_refl _, Nat.le_refl _, Nat.le_refl _⟩ ?_
    refine z_i2l C dL_bad_7 ?_
    refine z_lastore C dL_bad_8 (q := 133) (n := 1) rfl rfl (by decide) (zbd_in (by decide)) ?_
    refine z_goto C 18 (by decide) dL_bad_9 ?_
    refine z_iconst C (v := 0) (by decide) dL_bad_18 ?_
    exact z_iret C dL_bad_19 .int rfl rfl rfl
  · have h := zsm_r h
    by_cases hk0 : e9 = 0
    · have h := zif_t hk0 h
      obtain ⟨e1, e2, e3, e4⟩ := zw_inj h
      subst e1
      subst e2
      subst e3
      subst e4
      subst hk0
      refine z_callVC C (E1 := "java/lang/IndexOutOfBoundsException") zc_11 rfl (by decide) dL_bad_4 yy_X11_bad (cx_X11_bad (k9 := 0) C.2.2.2.2.1 a1 I L hg) q_1138 q_1139 q_1140 (by decide) (by decide) rfl rfl (Nat.le_of_ble_eq_true rfl) ⟨Nat.le_succ _, Nat.le_refl _, Nat.le_add_right _ _, Nat.le_refl _⟩ [] ⟨0, 9, 12, 13⟩ [⟨0, 9, 15, 15⟩] rfl (fun _ h => absurd h List.not_mem_nil) (by decide) (by decide) q_720 q_731 (fun a9 => ?_)
      refine z_astore_n C (lv' := [(3, .ref a9), (0, .ref (B0 + 0)), (1, .int a1), (2, .ref (B0 + 133))]) rfl (by decide) rfl dL_bad_12 ?_
      refine z_iconst C (v := 1) (by decide) dL_bad_13 ?_
      exact z_iret C dL_bad_14 .int rfl rfl rfl
    · have h := zif_f hk0 h
      by_cases hk1 : e9 = 1
      · have h := zif_t hk1 h
        obtain ⟨e1, e2, e3, e4⟩ := zw_inj h
        subst e1
        subst e2
        subst e3
        subst e4
        subst hk1
        refine z_callVC C (E1 := "java/lang/IllegalStateException") zc_11 rfl (by decide) dL_bad_4 yy_X11_bad (cx_X11_bad (k9 := 1) C.2.2.2.2.1 a1 I L hg) q_1138 q_1139 q_1140 (by decide) (by decide) rfl rfl (Nat.le_of_ble_eq_true rfl) ⟨Nat.le_succ _, Nat.le_refl _, Nat.le_add_right _ _, Nat.le_refl _⟩ [⟨0, 9, 12, 13⟩] ⟨0, 9, 15, 15⟩ [] rfl (List.forall_mem_cons.mpr ⟨Or.inr ⟨by decide, "java/lang/IndexOutOfBoundsException", q_720, flat_of_before _ C.2.2.2.2.1.2.2.2.2.1 _ (by decide +kernel)⟩, (fun _ h => absurd h List.not_mem_nil)⟩) (by decide) (by decide) q_721 q_798 (fun a9 => ?_)
        refine z_astore_n C (lv' := [(3, .ref a9), (0, .ref (B0 + 0)), (1, .int a1), (2, .ref (B0 + 133))]) rfl (by decide) rfl dL_bad_15 ?_
        refine z_iconst C (v := 2) (by decide) dL_bad_16 ?_
        exact z_iret C dL_bad_17 .int rfl rfl rfl
      · have h := zif_f hk1 h
        cases h
theorem yy_L_joined : zYH yL_joined cL_joined 4 (some .int) [(0, 9, 12, 15), (0, 9, 15, 13)] 3 := ⟨q_1148, q_74, by decide +kernel, by decide +kernel, by decide +kernel⟩
noncomputable def w_joined (P : Nat) (a1 : Int32) (I : zI) (L : zL) : Option (Int32 × Nat × zI × zL) :=
  zb1 (f_X11_joined P a1 I) (fun x9 => zsm x9 (fun v9 => some ((0 : Int32), 0, I, zul L 133 0 (v9.toInt64))) (fun e9 => if e9 = 1 then some ((1 : Int32), 1, I, L) else (if e9 = 0 then some ((2 : Int32), 1, I, L) else (none))))
set_option maxHeartbeats 4000000 in
set_option maxRecDepth 100000 in
theorem c_L_joined {k9 : Int32} {n9 : Nat} {I2 : zI} {L2 : zL} (hE : zE0 l s0 a0 d cy B0) {P : Nat} (hP : zpl P) (a1 : Int32) (I : zI) (L : zL) (h : w_joined P a1 I L = some (k9, n9, I2, L2)) : zMH l s0 d cy B0 yL_joined cL_joined 4 (some .int) [(0, 9, 12, 15), (0, 9, 15, 13)] 8 220 [.ref (B0 + 0), .int a1, .ref (B0 + 133)] zSH zKn bc bs I L (.inl (some (.int k9))) zSH zKn (bc + n9) (bs + 6 * n9) I2 L2 := by
  unfold w_joined at h
  obtain ⟨x9, hg, h⟩ := zb1_e h
  refine z_methH yy_L_joined hE (Nat.le_of_ble_eq_true rfl) (fun p e R s m args below meth c C => ?_)
  show zG p l e R s m args below meth c d cy B0 4 bc bs (zQ below s args d cy B0 bc bs (.inl (some (.int k9))) zSH zKn (bc + n9) (bs + 6 * n9) I2 L2) 0 [(0, .ref (B0 + 0)), (1, .int a1), (2, .ref (B0 + 133))] [] zSH zKn bc bs I L
  refine z_aload_n C rfl 2 rfl dL_joined_0 ?_
  refine z_iconst C (v := 0) (by decide) dL_joined_1 ?_
  refine z_aload_n C rfl 0 rfl dL_joined_2 ?_
  refine z_iload_n C rfl 1 rfl dL_joined_3 ?_
  rcases x9 with v9 | e9
  · have h := zsm_l h
    obtain ⟨e1, e2, e3, e4⟩ := zw_inj h
    subst e1
    subst e2
    subst e3
    subst e4
    refine z_callV C zc_11 rfl (by decide) dL_joined_4 yy_X11_joined (cn_X11_joined C.2.2.2.2.1 hP a1 I L hg) q_1149 q_1150 q_1151 (by decide) (by decide) rfl rfl (Nat.le_of_ble_eq_true rfl) ⟨Nat.le_refl _, Nat.le_refl _, Nat.le_refl _, Nat.le_refl _⟩ ?_
    refine z_i2l C dL_joined_7 ?_
    refine z_lastore C dL_joined_8 (q := 133) (n := 1) rfl rfl (by decide) (zbd_in (by decide)) ?_
    refine z_goto C 18 (by decide) dL_joined_9 ?_
    refine z_iconst C (v := 0) (by decide) dL_joined_18 ?_
    exact z_iret C dL_joined_19 .int rfl rfl rfl
  · have h := zsm_r h
    by_cases hk0 : e9 = 1
    · have h := zif_t hk0 h
      obtain ⟨e1, e2, e3, e4⟩ := zw_inj h
      subst e1
      subst e2
      subst e3
      subst e4
      subst hk0
      refine z_callVC C (E1 := "java/lang/IllegalStateException") zc_11 rfl (by decide) dL_joined_4 yy_X11_joined (cx_X11_joined (k9 := 1) C.2.2.2.2.1 hP a1 I L hg) q_1149 q_1150 q_1151 (by decide) (by decide) rfl rfl (Nat.le_of_ble_eq_true rfl) ⟨Nat.le_succ _, Nat.le_refl _, Nat.le_add_right _ _, Nat.le_refl _⟩ [] ⟨0, 9, 12, 15⟩ [⟨0, 9, 15, 13⟩] rfl (fun _ h => absurd h List.not_mem_nil) (by decide) (by decide) q_721 q_798 (fun a9 => ?_)
      refine z_astore_n C (lv' := [(3, .ref a9), (0, .ref (B0 + 0)), (1, .int a1), (2, .ref (B0 + 133))]) rfl (by decide) rfl dL_joined_12 ?_
      refine z_iconst C (v := 1) (by decide) dL_joined_13 ?_
      exact z_iret C dL_joined_14 .int rfl rfl rfl
    · have h := zif_f hk0 h
      by_cases hk1 : e9 = 0
      · have h := zif_t hk1 h
        obtain ⟨e1, e2, e3, e4⟩ := zw_inj h
        subst e1
        subst e2
        subst e3
        subst e4
        subst hk1
        refine z_callVC C (E1 := "java/lang/IndexOutOfBoundsException") zc_11 rfl (by decide) dL_joined_4 yy_X11_joined (cx_X11_joined (k9 := 0) C.2.2.2.2.1 hP a1 I L hg) q_1149 q_1150 q_1151 (by decide) (by decide) rfl rfl (Nat.le_of_ble_eq_true rfl) ⟨Nat.le_succ _, Nat.le_refl _, Nat.le_add_right _ _, Nat.le_refl _⟩ [⟨0, 9, 12, 15⟩] ⟨0, 9, 15, 13⟩ [] rfl (List.forall_mem_cons.mpr ⟨Or.inr ⟨by decide, "java/lang/IllegalStateException", q_721, flat_of_before _ C.2.2.2.2.1.2.2.2.2.1 _ (by decide +kernel)⟩, (fun _ h => absurd h List.not_mem_nil)⟩) (by decide) (by decide) q_720 q_731 (fun a9 => ?_)
        refine z_astore_n C (lv' := [(3, .ref a9), (0, .ref (B0 + 0)), (1, .int a1), (2, .ref (B0 + 133))]) rfl (by decide) rfl dL_joined_15 ?_
        refine z_iconst C (v := 2) (by decide) dL_joined_16 ?_
        exact z_iret C dL_joined_17 .int rfl rfl rfl
      · have h := zif_f hk1 h
        cases h
theorem yy_L_count : zYH yL_count cL_count 4 (some .int) [(0, 9, 12, 13)] 3 := ⟨q_1155, q_74, by decide +kernel, by decide +kernel, by decide +kernel⟩
noncomputable def w_count (P : Nat) (a1 : Int32) (I : zI) (L : zL) : Option (Int32 × Nat × zI × zL) :=
  zb1 (f_X11_count P a1 I) (fun x9 => zsm x9 (fun v9 => some ((0 : Int32), 0, I, zul L 133 0 (v9.toInt64))) (fun e9 => if e9 = 0 then some ((1 : Int32), 1, I, L) else (none)))
set_option maxHeartbeats 4000000 in
set_option maxRecDepth 100000 in
theorem c_L_count {k9 : Int32} {n9 : Nat} {I2 : zI} {L2 : zL} (hE : zE0 l s0 a0 d cy B0) {P : Nat} (hP : zpl P) (a1 : Int32) (I : zI) (L : zL) (h : w_count P a1 I L = some (k9, n9, I2, L2)) : zMH l s0 d cy B0 yL_count cL_count 4 (some .int) [(0, 9, 12, 13)] 8 220 [.ref (B0 + 0), .int a1, .ref (B0 + 133)] zSH zKn bc bs I L (.inl (some (.int k9))) zSH zKn (bc + n9) (bs + 6 * n9) I2 L2 := by
  unfold w_count at h
  obtain ⟨x9, hg, h⟩ := zb1_e h
  refine z_methH yy_L_count hE (Nat.le_of_ble_eq_true rfl) (fun p e R s m args below meth c C => ?_)
  show zG p l e R s m args below meth c d cy B0 4 bc bs (zQ below s args d cy B0 bc bs (.inl (some (.int k9))) zSH zKn (bc + n9) (bs + 6 * n9) I2 L2) 0 [(0, .ref (B0 + 0)), (1, .int a1), (2, .ref (B0 + 133))] [] zSH zKn bc bs I L
  refine z_aload_n C rfl 2 rfl dL_count_0 ?_
  refine z_iconst C (v := 0) (by decide) dL_count_1 ?_
  refine z_aload_n C rfl 0 rfl dL_count_2 ?_
  refine z_iload_n C rfl 1 rfl dL_count_3 ?_
  rcases x9 with v9 | e9
  · have h := zsm_l h
    obtain ⟨e1, e2, e3, e4⟩ := zw_inj h
    subst e1
    subst e2
    subst e3
    subst e4
    refine z_callV C zc_11 rfl (by decide) dL_count_4 yy_X11_count (cn_X11_count C.2.2.2.2.1 hP a1 I L hg) q_1156 q_1157 q_1158 (by decide) (by decide) rfl rfl (Nat.le_of_ble_eq_true rfl) ⟨Nat.le_refl _, Nat.le_refl _, Nat.le_refl _, Nat.le_refl _⟩ ?_
    refine z_i2l C dL_count_7 ?_
    refine z_lastore C dL_count_8 (q := 133) (n := 1) rfl rfl (by decide) (zbd_in (by decide)) ?_
    refine z_goto C 15 (by decide) dL_count_9 ?_
    refine z_iconst C (v := 0) (by decide) dL_count_15 ?_
    exact z_iret C dL_count_16 .int rfl rfl rfl
  · have h := zsm_r h
    by_cases hk0 : e9 = 0
    · have h := zif_t hk0 h
      obtain ⟨e1, e2, e3, e4⟩ := zw_inj h
      subst e1
      subst e2
      subst e3
      subst e4
      subst hk0
      refine z_callVC C (E1 := "java/lang/IndexOutOfBoundsException") zc_11 rfl (by decide) dL_count_4 yy_X11_count (cx_X11_count (k9 := 0) C.2.2.2.2.1 hP a1 I L hg) q_1156 q_1157 q_1158 (by decide) (by decide) rfl rfl (Nat.le_of_ble_eq_true rfl) ⟨Nat.le_succ _, Nat.le_refl _, Nat.le_add_right _ _, Nat.le_refl _⟩ [] ⟨0, 9, 12, 13⟩ [] rfl (fun _ h => absurd h List.not_mem_nil) (by decide) (by decide) q_720 q_731 (fun a9 => ?_)
      refine z_astore_n C (lv' := [(3, .ref a9), (0, .ref (B0 + 0)), (1, .int a1), (2, .ref (B0 + 133))]) rfl (by decide) rfl dL_count_12 ?_
      refine z_iconst C (v := 1) (by decide) dL_count_13 ?_
      exact z_iret C dL_count_14 .int rfl rfl rfl
    · have h := zif_f hk0 h
      cases h
end Zw4
