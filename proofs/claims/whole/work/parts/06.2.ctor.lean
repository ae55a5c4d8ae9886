section Zc1
variable {p : Program} {l : Launch} {e : Env} {R : Room} {s : State} {m : MethodId} {args : Array Value} {below : List Frame} {meth : Method} {c : Code} {s0 : State} {a0 : Array Value} {d : va_G} {cy : Nat → ClassId} {B0 : Nat}
theorem q_107 : (Cond.code ({ cls := "DeviceFind", name := "<init>", desc := "(I)V" } : Jvm.MethodName) prog_1_method_1_code (3 : Nat) (Option.none : Option Jvm.ClassFile.FieldType)) ∈ lw_tbl := List.mem_of_getElem? (i := 107) (by decide +kernel)
theorem q_108 : (Cond.methodLink "DeviceFind" (3 : Nat) ({ cls := "java/lang/Object", name := "<init>", desc := "()V" } : Jvm.MethodName)) ∈ lw_tbl := List.mem_of_getElem? (i := 108) (by decide +kernel)
theorem q_109 : (Cond.instanceMethod ({ cls := "java/lang/Object", name := "<init>", desc := "()V" } : Jvm.MethodName)) ∈ lw_tbl := List.mem_of_getElem? (i := 109) (by decide +kernel)
theorem q_110 : (Cond.code ({ cls := "java/lang/Object", name := "<init>", desc := "()V" } : Jvm.MethodName) object_method_1_code (1 : Nat) (Option.none : Option Jvm.ClassFile.FieldType)) ∈ lw_tbl := List.mem_of_getElem? (i := 110) (by decide +kernel)
theorem q_111 : (Cond.constant "DeviceFind" (9 : Nat) (65536 : Int32)) ∈ lw_tbl := List.mem_of_getElem? (i := 111) (by decide +kernel)
theorem q_112 : (Cond.methodLink "DeviceFind" (10 : Nat) ({ cls := "java/lang/Math", name := "min", desc := "(II)I" } : Jvm.MethodName)) ∈ lw_tbl := List.mem_of_getElem? (i := 112) (by decide +kernel)
theorem q_115 : (Cond.methodLink "DeviceFind" (16 : Nat) ({ cls := "java/lang/Math", name := "max", desc := "(II)I" } : Jvm.MethodName)) ∈ lw_tbl := List.mem_of_getElem? (i := 115) (by decide +kernel)
theorem q_118 : (Cond.classLink "DeviceFind" (23 : Nat) "DeviceFind$Tape") ∈ lw_tbl := List.mem_of_getElem? (i := 118) (by decide +kernel)
theorem q_119 : (Cond.instantiable "DeviceFind$Tape" (2 : Nat)) ∈ lw_tbl := List.mem_of_getElem? (i := 119) (by decide +kernel)
theorem q_120 : (Cond.methodLinkNest "DeviceFind" (25 : Nat) ({ cls := "DeviceFind$Tape", name := "<init>", desc := "()V" } : Jvm.MethodName) "DeviceFind") ∈ lw_tbl := List.mem_of_getElem? (i := 120) (by decide +kernel)
theorem q_121 : (Cond.instanceMethod ({ cls := "DeviceFind$Tape", name := "<init>", desc := "()V" } : Jvm.MethodName)) ∈ lw_tbl := List.mem_of_getElem? (i := 121) (by decide +kernel)
theorem q_122 : (Cond.code ({ cls := "DeviceFind$Tape", name := "<init>", desc := "()V" } : Jvm.MethodName) prog_11_method_1_code (1 : Nat) (Option.none : Option Jvm.ClassFile.FieldType)) ∈ lw_tbl := List.mem_of_getElem? (i := 122) (by decide +kernel)
theorem q_123 : (Cond.methodLink "DeviceFind$Tape" (3 : Nat) ({ cls := "java/lang/Object", name := "<init>", desc := "()V" } : Jvm.MethodName)) ∈ lw_tbl := List.mem_of_getElem? (i := 123) (by decide +kernel)
theorem q_134 : (Cond.arrayClass Jvm.ClassFile.FieldType.char) ∈ lw_tbl := List.mem_of_getElem? (i := 134) (by decide +kernel)
theorem q_135 : (Cond.classLink "DeviceFind" (30 : Nat) "DeviceFind$Reader") ∈ lw_tbl := List.mem_of_getElem? (i := 135) (by decide +kernel)
theorem q_136 : (Cond.instantiable "DeviceFind$Reader" (5 : Nat)) ∈ lw_tbl := List.mem_of_getElem? (i := 136) (by decide +kernel)
theorem q_137 : (Cond.methodLink "DeviceFind" (32 : Nat) ({ cls := "DeviceFind$Reader", name := "<init>", desc := "(LDeviceFind$Tape;I)V" } : Jvm.MethodName)) ∈ lw_tbl := List.mem_of_getElem? (i := 137) (by decide +kernel)
theorem q_138 : (Cond.instanceMethod ({ cls := "DeviceFind$Reader", name := "<init>", desc := "(LDeviceFind$Tape;I)V" } : Jvm.MethodName)) ∈ lw_tbl := List.mem_of_getElem? (i := 138) (by decide +kernel)
theorem q_139 : (Cond.code ({ cls := "DeviceFind$Reader", name := "<init>", desc := "(LDeviceFind$Tape;I)V" } : Jvm.MethodName) prog_10_method_1_code (3 : Nat) (Option.none : Option Jvm.ClassFile.FieldType)) ∈ lw_tbl := List.mem_of_getElem? (i := 139) (by decide +kernel)
theorem q_140 : (Cond.methodLink "DeviceFind$Reader" (3 : Nat) ({ cls := "java/lang/Object", name := "<init>", desc := "()V" } : Jvm.MethodName)) ∈ lw_tbl := List.mem_of_getElem? (i := 140) (by decide +kernel)
theorem q_141 : (Cond.classLink "DeviceFind$Reader" (19 : Nat) "DeviceFind$Words") ∈ lw_tbl := List.mem_of_getElem? (i := 141) (by decide +kernel)
theorem q_142 : (Cond.instantiable "DeviceFind$Words" (4 : Nat)) ∈ lw_tbl := List.mem_of_getElem? (i := 142) (by decide +kernel)
theorem q_143 : (Cond.methodLinkNest "DeviceFind$Reader" (21 : Nat) ({ cls := "DeviceFind$Words", name := "<init>", desc := "()V" } : Jvm.MethodName) "DeviceFind") ∈ lw_tbl := List.mem_of_getElem? (i := 143) (by decide +kernel)
theorem q_144 : (Cond.instanceMethod ({ cls := "DeviceFind$Words", name := "<init>", desc := "()V" } : Jvm.MethodName)) ∈ lw_tbl := List.mem_of_getElem? (i := 144) (by decide +kernel)
theorem q_145 : (Cond.code ({ cls := "DeviceFind$Words", name := "<init>", desc := "()V" } : Jvm.MethodName) prog_12_method_1_code (1 : Nat) (Option.none : Option Jvm.ClassFile.FieldType)) ∈ lw_tbl := List.mem_of_getElem? (i := 145) (by decide +kernel)
theorem q_146 : (Cond.methodLink "DeviceFind$Words" (3 : Nat) ({ cls := "java/lang/Object", name := "<init>", desc := "()V" } : Jvm.MethodName)) ∈ lw_tbl := List.mem_of_getElem? (i := 146) (by decide +kernel)
theorem q_162 : (Cond.arrayClass Jvm.ClassFile.FieldType.int) ∈ lw_tbl := List.mem_of_getElem? (i := 162) (by decide +kernel)
theorem q_163 : (Cond.arrayClass Jvm.ClassFile.FieldType.long) ∈ lw_tbl := List.mem_of_getElem? (i := 163) (by decide +kernel)
theorem q_164 : (Cond.classLink "DeviceFind$Reader" (26 : Nat) "DeviceFind$Plan") ∈ lw_tbl := List.mem_of_getElem? (i := 164) (by decide +kernel)
theorem q_165 : (Cond.instantiable "DeviceFind$Plan" (16 : Nat)) ∈ lw_tbl := List.mem_of_getElem? (i := 165) (by decide +kernel)
theorem q_166 : (Cond.methodLinkNest "DeviceFind$Reader" (28 : Nat) ({ cls := "DeviceFind$Plan", name := "<init>", desc := "()V" } : Jvm.MethodName) "DeviceFind") ∈ lw_tbl := List.mem_of_getElem? (i := 166) (by decide +kernel)
theorem q_167 : (Cond.instanceMethod ({ cls := "DeviceFind$Plan", name := "<init>", desc := "()V" } : Jvm.MethodName)) ∈ lw_tbl := List.mem_of_getElem? (i := 167) (by decide +kernel)
theorem q_168 : (Cond.code ({ cls := "DeviceFind$Plan", name := "<init>", desc := "()V" } : Jvm.MethodName) prog_9_method_1_code (1 : Nat) (Option.none : Option Jvm.ClassFile.FieldType)) ∈ lw_tbl := List.mem_of_getElem? (i := 168) (by decide +kernel)
theorem q_169 : (Cond.methodLink "DeviceFind$Plan" (3 : Nat) ({ cls := "java/lang/Object", name := "<init>", desc := "()V" } : Jvm.MethodName)) ∈ lw_tbl := List.mem_of_getElem? (i := 169) (by decide +kernel)
theorem q_193 : (Cond.fieldLink "DeviceFind$Plan" (46 : Nat) "DeviceFind$Plan" "pinWires" "[I") ∈ lw_tbl := List.mem_of_getElem? (i := 193) (by decide +kernel)
theorem q_262 : (Cond.classLink "DeviceFind" (39 : Nat) "DeviceFind$Drawing") ∈ lw_tbl := List.mem_of_getElem? (i := 262) (by decide +kernel)
theorem q_263 : (Cond.instantiable "DeviceFind$Drawing" (6 : Nat)) ∈ lw_tbl := List.mem_of_getElem? (i := 263) (by decide +kernel)
theorem q_264 : (Cond.methodLinkNest "DeviceFind" (41 : Nat) ({ cls := "DeviceFind$Drawing", name := "<init>", desc := "()V" } : Jvm.MethodName) "DeviceFind") ∈ lw_tbl := List.mem_of_getElem? (i := 264) (by decide +kernel)
theorem q_265 : (Cond.instanceMethod ({ cls := "DeviceFind$Drawing", name := "<init>", desc := "()V" } : Jvm.MethodName)) ∈ lw_tbl := List.mem_of_getElem? (i := 265) (by decide +kernel)
theorem q_266 : (Cond.code ({ cls := "DeviceFind$Drawing", name := "<init>", desc := "()V" } : Jvm.MethodName) prog_3_method_1_code (1 : Nat) (Option.none : Option Jvm.ClassFile.FieldType)) ∈ lw_tbl := List.mem_of_getElem? (i := 266) (by decide +kernel)
theorem q_267 : (Cond.methodLink "DeviceFind$Drawing" (3 : Nat) ({ cls := "java/lang/Object", name := "<init>", desc := "()V" } : Jvm.MethodName)) ∈ lw_tbl := List.mem_of_getElem? (i := 267) (by decide +kernel)
theorem q_292 : (Cond.classLink "DeviceFind" (46 : Nat) "DeviceFind$Notes") ∈ lw_tbl := List.mem_of_getElem? (i := 292) (by decide +kernel)
theorem q_293 : (Cond.instantiable "DeviceFind$Notes" (5 : Nat)) ∈ lw_tbl := List.mem_of_getElem? (i := 293) (by decide +kernel)
theorem q_294 : (Cond.methodLinkNest "DeviceFind" (48 : Nat) ({ cls := "DeviceFind$Notes", name := "<init>", desc := "()V" } : Jvm.MethodName) "DeviceFind") ∈ lw_tbl := List.mem_of_getElem? (i := 294) (by decide +kernel)
theorem q_295 : (Cond.instanceMethod ({ cls := "DeviceFind$Notes", name := "<init>", desc := "()V" } : Jvm.MethodName)) ∈ lw_tbl := List.mem_of_getElem? (i := 295) (by decide +kernel)
theorem q_296 : (Cond.code ({ cls := "DeviceFind$Notes", name := "<init>", desc := "()V" } : Jvm.MethodName) prog_6_method_1_code (1 : Nat) (Option.none : Option Jvm.ClassFile.FieldType)) ∈ lw_tbl := List.mem_of_getElem? (i := 296) (by decide +kernel)
theorem q_297 : (Cond.methodLink "DeviceFind$Notes" (3 : Nat) ({ cls := "java/lang/Object", name := "<init>", desc := "()V" } : Jvm.MethodName)) ∈ lw_tbl := List.mem_of_getElem? (i := 297) (by decide +kernel)
theorem q_315 : (Cond.classLink "DeviceFind" (53 : Nat) "DeviceFind$Layers") ∈ lw_tbl := List.mem_of_getElem? (i := 315) (by decide +kernel)
theorem q_316 : (Cond.instantiable "DeviceFind$Layers" (1 : Nat)) ∈ lw_tbl := List.mem_of_getElem? (i := 316) (by decide +kernel)
theorem q_317 : (Cond.methodLinkNest "DeviceFind" (55 : Nat) ({ cls := "DeviceFind$Layers", name := "<init>", desc := "()V" } : Jvm.MethodName) "DeviceFind") ∈ lw_tbl := List.mem_of_getElem? (i := 317) (by decide +kernel)
theorem q_318 : (Cond.instanceMethod ({ cls := "DeviceFind$Layers", name := "<init>", desc := "()V" } : Jvm.MethodName)) ∈ lw_tbl := List.mem_of_getElem? (i := 318) (by decide +kernel)
theorem q_319 : (Cond.code ({ cls := "DeviceFind$Layers", name := "<init>", desc := "()V" } : Jvm.MethodName) prog_4_method_1_code (1 : Nat) (Option.none : Option Jvm.ClassFile.FieldType)) ∈ lw_tbl := List.mem_of_getElem? (i := 319) (by decide +kernel)
theorem q_320 : (Cond.methodLink "DeviceFind$Layers" (3 : Nat) ({ cls := "java/lang/Object", name := "<init>", desc := "()V" } : Jvm.MethodName)) ∈ lw_tbl := List.mem_of_getElem? (i := 320) (by decide +kernel)
theorem q_321 : (Cond.classLink "DeviceFind$Layers" (9 : Nat) "[[J") ∈ lw_tbl := List.mem_of_getElem? (i := 321) (by decide +kernel)
theorem q_322 : (Cond.arrayOver (Jvm.ClassFile.FieldType.array Jvm.ClassFile.FieldType.long)) ∈ lw_tbl := List.mem_of_getElem? (i := 322) (by decide +kernel)
theorem q_330 : (Cond.classLink "DeviceFind" (60 : Nat) "DeviceFind$Peeler") ∈ lw_tbl := List.mem_of_getElem? (i := 330) (by decide +kernel)
theorem q_331 : (Cond.instantiable "DeviceFind$Peeler" (6 : Nat)) ∈ lw_tbl := List.mem_of_getElem? (i := 331) (by decide +kernel)
theorem q_332 : (Cond.methodLinkNest "DeviceFind" (62 : Nat) ({ cls := "DeviceFind$Peeler", name := "<init>", desc := "()V" } : Jvm.MethodName) "DeviceFind") ∈ lw_tbl := List.mem_of_getElem? (i := 332) (by decide +kernel)
theorem q_333 : (Cond.instanceMethod ({ cls := "DeviceFind$Peeler", name := "<init>", desc := "()V" } : Jvm.MethodName)) ∈ lw_tbl := List.mem_of_getElem? (i := 333) (by decide +kernel)
theorem q_334 : (Cond.code ({ cls := "DeviceFind$Peeler", name := "<init>", desc := "()V" } : Jvm.MethodName) prog_7_method_1_code (1 : Nat) (Option.none : Option Jvm.ClassFile.FieldType)) ∈ lw_tbl := List.mem_of_getElem? (i := 334) (by decide +kernel)
theorem q_335 : (Cond.methodLink "DeviceFind$Peeler" (3 : Nat) ({ cls := "java/lang/Object", name := "<init>", desc := "()V" } : Jvm.MethodName)) ∈ lw_tbl := List.mem_of_getElem? (i := 335) (by decide +kernel)
theorem q_362 : (Cond.classLink "DeviceFind" (63 : Nat) "DeviceFind$Nets") ∈ lw_tbl := List.mem_of_getElem? (i := 362) (by decide +kernel)
theorem q_363 : (Cond.instantiable "DeviceFind$Nets" (7 : Nat)) ∈ lw_tbl := List.mem_of_getElem? (i := 363) (by decide +kernel)
theorem q_364 : (Cond.methodLink "DeviceFind" (65 : Nat) ({ cls := "DeviceFind$Nets", name := "<init>", desc := "(LDeviceFind$Layers;LDeviceFind$Peeler;)V" } : Jvm.MethodName)) ∈ lw_tbl := List.mem_of_getElem? (i := 364) (by decide +kernel)
theorem q_365 : (Cond.instanceMethod ({ cls := "DeviceFind$Nets", name := "<init>", desc := "(LDeviceFind$Layers;LDeviceFind$Peeler;)V" } : Jvm.MethodName)) ∈ lw_tbl := List.mem_of_getElem? (i := 365) (by decide +kernel)
theorem q_366 : (Cond.code ({ cls := "DeviceFind$Nets", name := "<init>", desc := "(LDeviceFind$Layers;LDeviceFind$Peeler;)V" } : Jvm.MethodName) prog_5_method_1_code (3 : Nat) (Option.none : Option Jvm.ClassFile.FieldType)) ∈ lw_tbl := List.mem_of_getElem? (i := 366) (by decide +kernel)
theorem q_367 : (Cond.methodLink "DeviceFind$Nets" (3 : Nat) ({ cls := "java/lang/Object", name := "<init>", desc := "()V" } : Jvm.MethodName)) ∈ lw_tbl := List.mem_of_getElem? (i := 367) (by decide +kernel)
theorem q_368 : (Cond.classLink "DeviceFind$Nets" (9 : Nat) "[[I") ∈ lw_tbl := List.mem_of_getElem? (i := 368) (by decide +kernel)
theorem q_369 : (Cond.arrayOver (Jvm.ClassFile.FieldType.array Jvm.ClassFile.FieldType.int)) ∈ lw_tbl := List.mem_of_getElem? (i := 369) (by decide +kernel)
theorem q_394 : (Cond.classLink "DeviceFind" (72 : Nat) "DeviceFind$Devices") ∈ lw_tbl := List.mem_of_getElem? (i := 394) (by decide +kernel)
theorem q_395 : (Cond.instantiable "DeviceFind$Devices" (11 : Nat)) ∈ lw_tbl := List.mem_of_getElem? (i := 395) (by decide +kernel)
theorem q_396 : (Cond.classLink "DeviceFind" (74 : Nat) "DeviceFind$Place") ∈ lw_tbl := List.mem_of_getElem? (i := 396) (by decide +kernel)
theorem q_397 : (Cond.instantiable "DeviceFind$Place" (6 : Nat)) ∈ lw_tbl := List.mem_of_getElem? (i := 397) (by decide +kernel)
theorem q_398 : (Cond.methodLink "DeviceFind" (76 : Nat) ({ cls := "DeviceFind$Place", name := "<init>", desc := "(LDeviceFind$Layers;LDeviceFind$Nets;LDeviceFind$Peeler;)V" } : Jvm.MethodName)) ∈ lw_tbl := List.mem_of_getElem? (i := 398) (by decide +kernel)
theorem q_399 : (Cond.instanceMethod ({ cls := "DeviceFind$Place", name := "<init>", desc := "(LDeviceFind$Layers;LDeviceFind$Nets;LDeviceFind$Peeler;)V" } : Jvm.MethodName)) ∈ lw_tbl := List.mem_of_getElem? (i := 399) (by decide +kernel)
theorem q_400 : (Cond.code ({ cls := "DeviceFind$Place", name := "<init>", desc := "(LDeviceFind$Layers;LDeviceFind$Nets;LDeviceFind$Peeler;)V" } : Jvm.MethodName) prog_8_method_1_code (4 : Nat) (Option.none : Option Jvm.ClassFile.FieldType)) ∈ lw_tbl := List.mem_of_getElem? (i := 400) (by decide +kernel)
theorem q_401 : (Cond.methodLink "DeviceFind$Place" (3 : Nat) ({ cls := "java/lang/Object", name := "<init>", desc := "()V" } : Jvm.MethodName)) ∈ lw_tbl := List.mem_of_getElem? (i := 401) (by decide +kernel)
theorem q_421 : (Cond.methodLink "DeviceFind" (79 : Nat) ({ cls := "DeviceFind$Devices", name := "<init>", desc := "(LDeviceFind$Layers;LDeviceFind$Peeler;LDeviceFind$Place;)V" } : Jvm.MethodName)) ∈ lw_tbl := List.mem_of_getElem? (i := 421) (by decide +kernel)
theorem q_422 : (Cond.instanceMethod ({ cls := "DeviceFind$Devices", name := "<init>", desc := "(LDeviceFind$Layers;LDeviceFind$Peeler;LDeviceFind$Place;)V" } : Jvm.MethodName)) ∈ lw_tbl := List.mem_of_getElem? (i := 422) (by decide +kernel)
theorem q_423 : (Cond.code ({ cls := "DeviceFind$Devices", name := "<init>", desc := "(LDeviceFind$Layers;LDeviceFind$Peeler;LDeviceFind$Place;)V" } : Jvm.MethodName) prog_2_method_1_code (4 : Nat) (Option.none : Option Jvm.ClassFile.FieldType)) ∈ lw_tbl := List.mem_of_getElem? (i := 423) (by decide +kernel)
theorem q_424 : (Cond.methodLink "DeviceFind$Devices" (3 : Nat) ({ cls := "java/lang/Object", name := "<init>", desc := "()V" } : Jvm.MethodName)) ∈ lw_tbl := List.mem_of_getElem? (i := 424) (by decide +kernel)
theorem q_467 : (Cond.classLink "DeviceFind" (86 : Nat) "DeviceFind$Plan") ∈ lw_tbl := List.mem_of_getElem? (i := 467) (by decide +kernel)
theorem q_468 : (Cond.methodLinkNest "DeviceFind" (88 : Nat) ({ cls := "DeviceFind$Plan", name := "<init>", desc := "()V" } : Jvm.MethodName) "DeviceFind") ∈ lw_tbl := List.mem_of_getElem? (i := 468) (by decide +kernel)
theorem q_1164 : (Cond.code ({ cls := "DeviceFindModel", name := "<init>", desc := "(I)V" } : Jvm.MethodName) prog_14_method_1_code (2 : Nat) (Option.none : Option Jvm.ClassFile.FieldType)) ∈ lw_tbl := List.mem_of_getElem? (i := 1164) (by decide +kernel)
theorem q_1165 : (Cond.methodLink "DeviceFindModel" (1 : Nat) ({ cls := "java/lang/Object", name := "<init>", desc := "()V" } : Jvm.MethodName)) ∈ lw_tbl := List.mem_of_getElem? (i := 1165) (by decide +kernel)
theorem q_1166 : (Cond.constant "DeviceFindModel" (71 : Nat) (98304 : Int32)) ∈ lw_tbl := List.mem_of_getElem? (i := 1166) (by decide +kernel)
theorem q_1167 : (Cond.constant "DeviceFindModel" (85 : Nat) (32768 : Int32)) ∈ lw_tbl := List.mem_of_getElem? (i := 1167) (by decide +kernel)
theorem q_1168 : (Cond.constant "DeviceFindModel" (119 : Nat) (65536 : Int32)) ∈ lw_tbl := List.mem_of_getElem? (i := 1168) (by decide +kernel)
theorem q_1341 : (Cond.arrayClass Jvm.ClassFile.FieldType.boolean) ∈ lw_tbl := List.mem_of_getElem? (i := 1341) (by decide +kernel)
theorem zdf_0 : ∀ k, k < 11 → defaultValue (tyX0 k) = (if zk 0 k = 0 then .int 0 else if zk 0 k = 1 then .long 0 else .null) := by decide +kernel
theorem zd4_0 : ∀ k, k < 11 → zk 0 k < 4 := by decide +kernel
theorem zdf_1 : ∀ k, k < 6 → defaultValue (tyX1 k) = (if zk 1 k = 0 then .int 0 else if zk 1 k = 1 then .long 0 else .null) := by decide +kernel
theorem zd4_1 : ∀ k, k < 6 → zk 1 k < 4 := by decide +kernel
theorem zdf_2 : ∀ k, k < 1 → defaultValue (tyX2 k) = (if zk 2 k = 0 then .int 0 else if zk 2 k = 1 then .long 0 else .null) := by decide +kernel
theorem zd4_2 : ∀ k, k < 1 → zk 2 k < 4 := by decide +kernel
theorem zdf_3 : ∀ k, k < 7 → defaultValue (tyX3 k) = (if zk 3 k = 0 then .int 0 else if zk 3 k = 1 then .long 0 else .null) := by decide +kernel
theorem zd4_3 : ∀ k, k < 7 → zk 3 k < 4 := by decide +kernel
theorem zdf_4 : ∀ k, k < 5 → defaultValue (tyX4 k) = (if zk 4 k = 0 then .int 0 else if zk 4 k = 1 then .long 0 else .null) := by decide +kernel
theorem zd4_4 : ∀ k, k < 5 → zk 4 k < 4 := by decide +kernel
theorem zdf_5 : ∀ k, k < 6 → defaultValue (tyX5 k) = (if zk 5 k = 0 then .int 0 else if zk 5 k = 1 then .long 0 else .null) := by decide +kernel
theorem zd4_5 : ∀ k, k < 6 → zk 5 k < 4 := by decide +kernel
theorem zdf_6 : ∀ k, k < 6 → defaultValue (tyX6 k) = (if zk 6 k = 0 then .int 0 else if zk 6 k = 1 then .long 0 else .null) := by decide +kernel
theorem zd4_6 : ∀ k, k < 6 → zk 6 k < 4 := by decide +kernel
theorem zdf_7 : ∀ k, k < 16 → defaultValue (tyX7 k) = (if zk 7 k = 0 then .int 0 else if zk 7 k = 1 then .long 0 else .null) := by decide +kernel
theorem zd4_7 : ∀ k, k < 16 → zk 7 k < 4 := by decide +kernel
theorem zdf_8 : ∀ k, k < 5 → defaultValue (tyX8 k) = (if zk 8 k = 0 then .int 0 else if zk 8 k = 1 then .long 0 else .null) := by decide +kernel
theorem zd4_8 : ∀ k, k < 5 → zk 8 k < 4 := by decide +kernel
theorem zdf_9 : ∀ k, k < 2 → defaultValue (tyX9 k) = (if zk 9 k = 0 then .int 0 else if zk 9 k = 1 then .long 0 else .null) := by decide +kernel
theorem zd4_9 : ∀ k, k < 2 → zk 9 k < 4 := by decide +kernel
theorem zdf_10 : ∀ k, k < 4 → defaultValue (tyX10 k) = (if zk 10 k = 0 then .int 0 else if zk 10 k = 1 then .long 0 else .null) := by decide +kernel
theorem zd4_10 : ∀ k, k < 4 → zk 10 k < 4 := by decide +kernel
theorem zdf_11 : ∀ k, k < 11 → defaultValue (tyX11 k) = (if zk 11 k = 0 then .int 0 else if zk 11 k = 1 then .long 0 else .null) := by decide +kernel
theorem zd4_11 : ∀ k, k < 11 → zk 11 k < 4 := by decide +kernel
theorem zdf_12 : ∀ k, k < 57 → defaultValue (tyX12 k) = (if zk 12 k = 0 then .int 0 else if zk 12 k = 1 then .long 0 else .null) := by decide +kernel
theorem zd4_12 : ∀ k, k < 57 → zk 12 k < 4 := by decide +kernel
def zclp (n : Int32) : Int32 := if n < 1 then 1 else if 65536 < n then 65536 else n
theorem zclp_1 {n : Int32} (h : ¬ 1 ≤ n) : zclp n = 1 := by
  unfold zclp; rw [if_pos (Int32.not_le.mp h)]
theorem zclp_2 {n : Int32} (h : 1 ≤ n) (h2 : ¬ n ≤ 65536) : zclp n = 65536 := by
  unfold zclp; rw [if_neg (Int32.not_lt.mpr h), if_pos (Int32.not_le.mp h2)]
theorem zclp_3 {n : Int32} (h : 1 ≤ n) (h2 : n ≤ 65536) : zclp n = n := by
  unfold zclp; rw [if_neg (Int32.not_lt.mpr h), if_neg (Int32.not_lt.mpr h2)]
theorem yy_X9_init : zY yX9_init cX9_init 1 none 0 := ⟨q_122, q_77, by decide +kernel, by decide +kernel, by decide +kernel⟩
set_option maxHeartbeats 4000000 in
set_option maxRecDepth 100000 in
theorem c_X9_init_p1 (hE : zE0 l s0 a0 d cy B0) (I : zI) (L : zL) (hZ : zzI I 2) (hZL : zzL L 2) : zM l s0 d cy B0 yX9_init cX9_init 1 none 1 40 [.ref (B0 + 1)] (zpt 2 [(1, 0), (0, 1), (0, 2), (0, 3), (0, 4), (0, 5), (0, 6), (0, 7)]) 2 2 13 I L (.inl none) (zpt 3 [(0, 1), (0, 2), (0, 3), (0, 4), (0, 5), (0, 6), (0, 7)]) 3 3 813 (zu I 1 1 (0 : Int32)) L := by
  refine z_methI yy_X9_init rfl hE (Nat.le_of_ble_eq_true rfl) (fun p e R s m args below meth c C hin => ?_)
  show zG p l e R s m args below meth c d cy B0 1 2 13 (zQ below s args d cy B0 2 13 (.inl none) (zpt 3 [(0, 1), (0, 2), (0, 3), (0, 4), (0, 5), (0, 6), (0, 7)]) 3 3 813 (zu I 1 1 (0 : Int32)) L) 0 [(0, .ref (B0 + 1))] [] (zpt 2 [(1, 0), (0, 1), (0, 2), (0, 3), (0, 4), (0, 5), (0, 6), (0, 7)]) 2 2 13 I L
  refine z_aload_n C rfl 0 rfl dX9_init_0 ?_
  refine z_obj C dX9_init_1 q_123 q_109 q_110 (by decide) (Nat.le_of_ble_eq_true rfl) ?_
  refine z_aload_n C rfl 0 rfl dX9_init_4 ?_
  refine z_sipush C (v := 800) (by decide) dX9_init_5 ?_
  refine z_newarr C (t := 0) (by decide) rfl rfl rfl dX9_init_8 q_134 (by decide) (by decide) (by decide) rfl rfl rfl (hZ _ (Nat.le_refl _)) (hZL _ (Nat.le_refl _)) (znm (by decide)) (by decide) (fun _ _ h => h) ?_
  have hZ1 := zz_up hZ
  have hZL := zzl_up hZL
  refine z_putF C hin zc_9 dX9_init_10 0 1 2 rfl (by decide) (by decide) rfl rfl q_124 rfl rfl rfl rfl [(0, 1), (0, 2), (0, 3), (0, 4), (0, 5), (0, 6), (0, 7)] rfl ?_
  refine z_aload_n C rfl 0 rfl dX9_init_13 ?_
  refine z_iconst C (v := 0) (by decide) dX9_init_14 ?_
  refine z_puti C zc_9 dX9_init_15 1 1 rfl (by decide) (by decide) rfl q_126 rfl rfl rfl ?_
  have hZ2 := zz_u (q := 1) (k := 1) (v := (0 : Int32)) hZ1 (by decide)
  exact z_vret C dX9_init_18 rfl rfl
theorem yy_X10_init : zY yX10_init cX10_init 1 none 0 := ⟨q_145, q_79, by decide +kernel, by decide +kernel, by decide +kernel⟩
set_option maxHeartbeats 4000000 in
set_option maxRecDepth 100000 in
theorem c_X10_init_p4 (hE : zE0 l s0 a0 d cy B0) (I : zI) (L : zL) (hZ : zzI I 5) (hZL : zzL L 5) : zM l s0 d cy B0 yX10_init cX10_init 1 none 1 40 [.ref (B0 + 4)] (zpt 5 [(4, 0), (4, 1), (3, 2), (0, 2), (0, 3), (0, 4), (0, 5), (0, 6), (0, 7)]) 5 5 822 I L (.inl none) (zpt 7 [(3, 2), (0, 2), (0, 3), (0, 4), (0, 5), (0, 6), (0, 7)]) 7 7 2424 (zu (zu I 4 2 (0 : Int32)) 4 3 (0 : Int32)) L := by
  refine z_methI yy_X10_init rfl hE (Nat.le_of_ble_eq_true rfl) (fun p e R s m args below meth c C hin => ?_)
  show zG p l e R s m args below meth c d cy B0 1 5 822 (zQ below s args d cy B0 5 822 (.inl none) (zpt 7 [(3, 2), (0, 2), (0, 3), (0, 4), (0, 5), (0, 6), (0, 7)]) 7 7 2424 (zu (zu I 4 2 (0 : Int32)) 4 3 (0 : Int32)) L) 0 [(0, .ref (B0 + 4))] [] (zpt 5 [(4, 0), (4, 1), (3, 2), (0, 2), (0, 3), (0, 4), (0, 5), (0, 6), (0, 7)]) 5 5 822 I L
  refine z_aload_n C rfl 0 rfl dX10_init_0 ?_
  refine z_obj C dX10_init_1 q_146 q_109 q_110 (by decide) (Nat.le_of_ble_eq_true rfl) ?_
  refine z_aload_n C rfl 0 rfl dX10_init_4 ?_
  refine z_sipush C (v := 801) (by decide) dX10_init_5 ?_
  refine z_newarr C (t := 1) (by decide) rfl rfl rfl dX10_init_8 q_162 (by decide) (by decide) (by decide) rfl rfl rfl (hZ _ (Nat.le_refl _)) (hZL _ (Nat.le_refl _)) (znm (by decide)) (by decide) (fun _ _ h => h) ?_
  have hZ1 := zz_up hZ
  have hZL := zzl_up hZL
  refine z_putF C hin zc_10 dX10_init_10 0 4 5 rfl (by decide) (by decide) rfl rfl q_147 rfl rfl rfl rfl [(4, 1), (3, 2), (0, 2), (0, 3), (0, 4), (0, 5), (0, 6), (0, 7)] rfl ?_
  refine z_aload_n C rfl 0 rfl dX10_init_13 ?_
  refine z_sipush C (v := 801) (by decide) dX10_init_14 ?_
  refine z_newarr C (t := 2) (by decide) rfl rfl rfl dX10_init_17 q_163 (by decide) (by decide) (by decide) rfl rfl rfl (hZ1 _ (Nat.le_refl _)) (hZL _ (Nat.le_refl _)) (znm (by decide)) (by decide) (fun _ _ h => h) ?_
  have hZ2 := zz_up hZ1
  have hZL := zzl_up hZL
  refine z_putF C hin zc_10 dX10_init_19 1 4 6 rfl (by decide) (by decide) rfl rfl q_149 rfl rfl rfl rfl [(3, 2), (0, 2), (0, 3), (0, 4), (0, 5), (0, 6), (0, 7)] rfl ?_
  refine z_aload_n C rfl 0 rfl dX10_init_22 ?_
  refine z_iconst C (v := 0) (by decide) dX10_init_23 ?_
  refine z_puti C zc_10 dX10_init_24 2 4 rfl (by decide) (by decide) rfl q_151 rfl rfl rfl ?_
  have hZ3 := zz_u (q := 4) (k := 2) (v := (0 : Int32)) hZ2 (by decide)
  refine z_aload_n C rfl 0 rfl dX10_init_27 ?_
  refine z_iconst C (v := 0) (by decide) dX10_init_28 ?_
  refine z_puti C zc_10 dX10_init_29 3 4 rfl (by decide) (by decide) rfl q_152 rfl rfl rfl ?_
  have hZ4 := zz_u (q := 4) (k := 3) (v := (0 : Int32)) hZ3 (by decide)
  exact z_vret C dX10_init_32 rfl rfl
theorem yy_X7_init : zY yX7_init cX7_init 1 none 0 := ⟨q_168, q_80, by decide +kernel, by decide +kernel, by decide +kernel⟩
set_option maxHeartbeats 4000000 in
set_option maxRecDepth 100000 in
theorem c_X7_init_p7 (hE : zE0 l s0 a0 d cy B0) (I : zI) (L : zL) (hZ : zzI I 8) (hZL : zzL L 8) : zM l s0 d cy B0 yX7_init cX7_init 1 none 1 40 [.ref (B0 + 7)] (zpt 8 [(7, 0), (7, 1), (7, 2), (7, 3), (7, 4), (7, 5), (7, 6), (7, 7), (7, 8), (7, 9), (7, 10), (7, 11), (0, 2), (0, 3), (0, 4), (0, 5), (0, 6), (0, 7)]) 8 8 2440 I L (.inl none) (zpt 20 [(0, 2), (0, 3), (0, 4), (0, 5), (0, 6), (0, 7)]) 20 20 2648 (zu (zu (zu (zu I 7 12 (0 : Int32)) 7 13 (0 : Int32)) 7 14 (0 : Int32)) 7 15 (0 : Int32)) L := by
  refine z_methI yy_X7_init rfl hE (Nat.le_of_ble_eq_true rfl) (fun p e R s m args below meth c C hin => ?_)
  show zG p l e R s m args below meth c d cy B0 1 8 2440 (zQ below s args d cy B0 8 2440 (.inl none) (zpt 20 [(0, 2), (0, 3), (0, 4), (0, 5), (0, 6), (0, 7)]) 20 20 2648 (zu (zu (zu (zu I 7 12 (0 : Int32)) 7 13 (0 : Int32)) 7 14 (0 : Int32)) 7 15 (0 : Int32)) L) 0 [(0, .ref (B0 + 7))] [] (zpt 8 [(7, 0), (7, 1), (7, 2), (7, 3), (7, 4), (7, 5), (7, 6), (7, 7), (7, 8), (7, 9), (7, 10), (7, 11), (0, 2), (0, 3), (0, 4), (0, 5), (0, 6), (0, 7)]) 8 8 2440 I L
  refine z_aload_n C rfl 0 rfl dX7_init_0 ?_
  refine z_obj C dX7_init_1 q_169 q_109 q_110 (by decide) (Nat.le_of_ble_eq_true rfl) ?_
  refine z_aload_n C rfl 0 rfl dX7_init_4 ?_
  refine z_bipush C (v := 24) (by decide) dX7_init_5 ?_
  refine z_newarr C (t := 2) (by decide) rfl rfl rfl dX7_init_7 q_163 (by decide) (by decide) (by decide) rfl rfl rfl (hZ _ (Nat.le_refl _)) (hZL _ (Nat.le_refl _)) (znm (by decide)) (by decide) (fun _ _ h => h) ?_
  have hZ1 := zz_up hZ
  have hZL := zzl_up hZL
  refine z_putF C hin zc_7 dX7_init_9 0 7 8 rfl (by decide) (by decide) rfl rfl q_170 rfl rfl rfl rfl [(7, 1), (7, 2), (7, 3), (7, 4), (7, 5), (7, 6), (7, 7), (7, 8), (7, 9), (7, 10), (7, 11), (0, 2), (0, 3), (0, 4), (0, 5), (0, 6), (0, 7)] rfl ?_
  refine z_aload_n C rfl 0 rfl dX7_init_12 ?_
  refine z_bipush C (v := 24) (by decide) dX7_init_13 ?_
  refine z_newarr C (t := 1) (by decide) rfl rfl rfl dX7_init_15 q_162 (by decide) (by decide) (by decide) rfl rfl rfl (hZ1 _ (Nat.le_refl _)) (hZL _ (Nat.le_refl _)) (znm (by decide)) (by decide) (fun _ _ h => h) ?_
  have hZ2 := zz_up hZ1
  have hZL := zzl_up hZL
  refine z_putF C hin zc_7 dX7_init_17 1 7 9 rfl (by decide) (by decide) rfl rfl q_171 rfl rfl rfl rfl [(7, 2), (7, 3), (7, 4), (7, 5), (7, 6), (7, 7), (7, 8), (7, 9), (7, 10), (7, 11), (0, 2), (0, 3), (0, 4), (0, 5), (0, 6), (0, 7)] rfl ?_
  refine z_aload_n C rfl 0 rfl dX7_init_20 ?_
  refine z_bipush C (v := 24) (by decide) dX7_init_21 ?_
  refine z_newarr C (t := 1) (by decide) rfl rfl rfl dX7_init_23 q_162 (by decide) (by decide) (by decide) rfl rfl rfl (hZ2 _ (Nat.le_refl _)) (hZL _ (Nat.le_refl _)) (znm (by decide)) (by decide) (fun _ _ h => h) ?_
  have hZ3 := zz_up hZ2
  have hZL := zzl_up hZL
  refine z_putF C hin zc_7 dX7_init_25 2 7 10 rfl (by decide) (by decide) rfl rfl q_173 rfl rfl rfl rfl [(7, 3), (7, 4), (7, 5), (7, 6), (7, 7), (7, 8), (7, 9), (7, 10), (7, 11), (0, 2), (0, 3), (0, 4), (0, 5), (0, 6), (0, 7)] rfl ?_
  refine z_aload_n C rfl 0 rfl dX7_init_28 ?_
  refine z_bipush C (v := 24) (by decide) dX7_init_29 ?_
  refine z_newarr C (t := 1) (by decide) rfl rfl rfl dX7_init_31 q_162 (by decide) (by decide) (by decide) rfl rfl rfl (hZ3 _ (Nat.le_refl _)) (hZL _ (Nat.le_refl _)) (znm (by decide)) (by decide) (fun _ _ h => h) ?_
  have hZ4 := zz_up hZ3
  have hZL := zzl_up hZL
  refine z_putF C hin zc_7 dX7_init_33 3 7 11 rfl (by decide) (by decide) rfl rfl q_175 rfl rfl rfl rfl [(7, 4), (7, 5), (7, 6), (7, 7), (7, 8), (7, 9), (7, 10), (7, 11), (0, 2), (0, 3), (0, 4), (0, 5), (0, 6), (0, 7)] rfl ?_
  refine z_aload_n C rfl 0 rfl dX7_init_36 ?_
  refine z_bipush C (v := 8) (by decide) dX7_init_37 ?_
  refine z_newarr C (t := 1) (by decide) rfl rfl rfl dX7_init_39 q_162 (by decide) (by decide) (by decide) rfl rfl rfl (hZ4 _ (Nat.le_refl _)) (hZL _ (Nat.le_refl _)) (znm (by decide)) (by decide) (fun _ _ h => h) ?_
  have hZ5 := zz_up hZ4
  have hZL := zzl_up hZL
  refine z_putF C hin zc_7 dX7_init_41 4 7 12 rfl (by decide) (by decide) rfl rfl q_177 rfl rfl rfl rfl [(7, 5), (7, 6), (7, 7), (7, 8), (7, 9), (7, 10), (7, 11), (0, 2), (0, 3), (0, 4), (0, 5), (0, 6), (0, 7)] rfl ?_
  refine z_aload_n C rfl 0 rfl dX7_init_44 ?_
  refine z_bipush C (v := 16) (by decide) dX7_init_45 ?_
  refine z_newarr C (t := 1) (by decide) rfl rfl rfl dX7_init_47 q_162 (by decide) (by decide) (by decide) rfl rfl rfl (hZ5 _ (Nat.le_refl _)) (hZL _ (Nat.le_refl _)) (znm (by decide)) (by decide) (fun _ _ h => h) ?_
  have hZ6 := zz_up hZ5
  have hZL := zzl_up hZL
  refine z_putF C hin zc_7 dX7_init_49 5 7 13 rfl (by decide) (by decide) rfl rfl q_180 rfl rfl rfl rfl [(7, 6), (7, 7), (7, 8), (7, 9), (7, 10), (7, 11), (0, 2), (0, 3), (0, 4), (0, 5), (0, 6), (0, 7)] rfl ?_
  refine z_aload_n C rfl 0 rfl dX7_init_52 ?_
  refine z_bipush C (v := 16) (by decide) dX7_init_53 ?_
  refine z_newarr C (t := 1) (by decide) rfl rfl rfl dX7_init_55 q_162 (by decide) (by decide) (by decide) rfl rfl rfl (hZ6 _ (Nat.le_refl _)) (hZL _ (Nat.le_refl _)) (znm (by decide)) (by decide) (fun _ _ h => h) ?_
  have hZ7 := zz_up hZ6
  have hZL := zzl_up hZL
  refine z_putF C hin zc_7 dX7_init_57 6 7 14 rfl (by decide) (by decide) rfl rfl q_182 rfl rfl rfl rfl [(7, 7), (7, 8), (7, 9), (7, 10), (7, 11), (0, 2), (0, 3), (0, 4), (0, 5), (0, 6), (0, 7)] rfl ?_
  refine z_aload_n C rfl 0 rfl dX7_init_60 ?_
  refine z_bipush C (v := 16) (by decide) dX7_init_61 ?_
  refine z_newarr C (t := 1) (by decide) rfl rfl rfl dX7_init_63 q_162 (by decide) (by decide) (by decide) rfl rfl rfl (hZ7 _ (Nat.le_refl _)) (hZL _ (Nat.le_refl _)) (znm (by decide)) (by decide) (fun _ _ h => h) ?_
  have hZ8 := zz_up hZ7
  have hZL := zzl_up hZL
  refine z_putF C hin zc_7 dX7_init_65 7 7 15 rfl (by decide) (by decide) rfl rfl q_184 rfl rfl rfl rfl [(7, 8), (7, 9), (7, 10), (7, 11), (0, 2), (0, 3), (0, 4), (0, 5), (0, 6), (0, 7)] rfl ?_
  refine z_aload_n C rfl 0 rfl dX7_init_68 ?_
  refine z_bipush C (v := 8) (by decide) dX7_init_69 ?_
  refine z_newarr C (t := 2) (by decide) rfl rfl rfl dX7_init_71 q_163 (by decide) (by decide) (by decide) rfl rfl rfl (hZ8 _ (Nat.le_refl _)) (hZL _ (Nat.le_refl _)) (znm (by decide)) (by decide) (fun _ _ h => h) ?_
  have hZ9 := zz_up hZ8
  have hZL := zzl_up hZL
  refine z_putF C hin zc_7 dX7_init_73 8 7 16 rfl (by decide) (by decide) rfl rfl q_186 rfl rfl rfl rfl [(7, 9), (7, 10), (7, 11), (0, 2), (0, 3), (0, 4), (0, 5), (0, 6), (0, 7)] rfl ?_
  refine z_aload_n C rfl 0 rfl dX7_init_76 ?_
  refine z_bipush C (v := 8) (by decide) dX7_init_77 ?_
  refine z_newarr C (t := 1) (by decide) rfl rfl rfl dX7_init_79 q_162 (by decide) (by decide) (by decide) rfl rfl rfl (hZ9 _ (Nat.le_refl _)) (hZL _ (Nat.le_refl _)) (znm (by decide)) (by decide) (fun _ _ h => h) ?_
  have hZ10 := zz_up hZ9
  have hZL := zzl_up hZL
  refine z_putF C hin zc_7 dX7_init_81 9 7 17 rfl (by decide) (by decide) rfl rfl q_187 rfl rfl rfl rfl [(7, 10), (7, 11), (0, 2), (0, 3), (0, 4), (0, 5), (0, 6), (0, 7)] rfl ?_
  refine z_aload_n C rfl 0 rfl dX7_init_84 ?_
  refine z_bipush C (v := 8) (by decide) dX7_init_85 ?_
  refine z_newarr C (t := 1) (by decide) rfl rfl rfl dX7_init_87 q_162 (by decide) (by decide) (by decide) rfl rfl rfl (hZ10 _ (Nat.le_refl _)) (hZL _ (Nat.le_refl _)) (znm (by decide)) (by decide) (fun _ _ h => h) ?_
  have hZ11 := zz_up hZ10
  have hZL := zzl_up hZL
  refine z_putF C hin zc_7 dX7_init_89 10 7 18 rfl (by decide) (by decide) rfl rfl q_189 rfl rfl rfl rfl [(7, 11), (0, 2), (0, 3), (0, 4), (0, 5), (0, 6), (0, 7)] rfl ?_
  refine z_aload_n C rfl 0 rfl dX7_init_92 ?_
  refine z_bipush C (v := 32) (by decide) dX7_init_93 ?_
  refine z_newarr C (t := 1) (by decide) rfl rfl rfl dX7_init_95 q_162 (by decide) (by decide) (by decide) rfl rfl rfl (hZ11 _ (Nat.le_refl _)) (hZL _ (Nat.le_refl _)) (znm (by decide)) (by decide) (fun _ _ h => h) ?_
  have hZ12 := zz_up hZ11
  have hZL := zzl_up hZL
  refine z_putF C hin zc_7 dX7_init_97 11 7 19 rfl (by decide) (by decide) rfl rfl q_193 rfl rfl rfl rfl [(0, 2), (0, 3), (0, 4), (0, 5), (0, 6), (0, 7)] rfl ?_
  refine z_aload_n C rfl 0 rfl dX7_init_100 ?_
  refine z_iconst C (v := 0) (by decide) dX7_init_101 ?_
  refine z_puti C zc_7 dX7_init_102 12 7 rfl (by decide) (by decide) rfl q_196 rfl rfl rfl ?_
  have hZ13 := zz_u (q := 7) (k := 12) (v := (0 : Int32)) hZ12 (by decide)
  refine z_aload_n C rfl 0 rfl dX7_init_105 ?_
  refine z_iconst C (v := 0) (by decide) dX7_init_106 ?_
  refine z_puti C zc_7 dX7_init_107 13 7 rfl (by decide) (by decide) rfl q_200 rfl rfl rfl ?_
  have hZ14 := zz_u (q := 7) (k := 13) (v := (0 : Int32)) hZ13 (by decide)
  refine z_aload_n C rfl 0 rfl dX7_init_110 ?_
  refine z_iconst C (v := 0) (by decide) dX7_init_111 ?_
  refine z_puti C zc_7 dX7_init_112 14 7 rfl (by decide) (by decide) rfl q_205 rfl rfl rfl ?_
  have hZ15 := zz_u (q := 7) (k := 14) (v := (0 : Int32)) hZ14 (by decide)
  refine z_aload_n C rfl 0 rfl dX7_init_115 ?_
  refine z_iconst C (v := 0) (by decide) dX7_init_116 ?_
  refine z_puti C zc_7 dX7_init_117 15 7 rfl (by decide) (by decide) rfl q_209 rfl rfl rfl ?_
  have hZ16 := zz_u (q := 7) (k := 15) (v := (0 : Int32)) hZ15 (by decide)
  exact z_vret C dX7_init_120 rfl rfl
theorem yy_X8_init : zY yX8_init cX8_init 3 none 2 := ⟨q_139, q_78, by decide +kernel, by decide +kernel, by decide +kernel⟩
set_option maxHeartbeats 4000000 in
set_option maxRecDepth 100000 in
theorem c_X8_init_p3 (hE : zE0 l s0 a0 d cy B0) (b2 : Int32) (I : zI) (L : zL) (hZ : zzI I 4) (hZL : zzL L 4) : zM l s0 d cy B0 yX8_init cX8_init 3 none 2 60 [.ref (B0 + 3), .ref (B0 + 1), .int b2] (zpt 4 [(3, 0), (3, 2), (0, 2), (0, 3), (0, 4), (0, 5), (0, 6), (0, 7)]) 4 4 818 I L (.inl none) (zpt 20 [(0, 2), (0, 3), (0, 4), (0, 5), (0, 6), (0, 7)]) 20 20 2648 (zu (zu (zu (zu (zu (zu (zu (zu (zu I 3 1 b2) 4 2 (0 : Int32)) 4 3 (0 : Int32)) 7 12 (0 : Int32)) 7 13 (0 : Int32)) 7 14 (0 : Int32)) 7 15 (0 : Int32)) 3 3 ((nI (7 + 1)))) 3 4 (0 : Int32)) L := by
  refine z_methI yy_X8_init rfl hE (Nat.le_of_ble_eq_true rfl) (fun p e R s m args below meth c C hin => ?_)
  show zG p l e R s m args below meth c d cy B0 3 4 818 (zQ below s args d cy B0 4 818 (.inl none) (zpt 20 [(0, 2), (0, 3), (0, 4), (0, 5), (0, 6), (0, 7)]) 20 20 2648 (zu (zu (zu (zu (zu (zu (zu (zu (zu I 3 1 b2) 4 2 (0 : Int32)) 4 3 (0 : Int32)) 7 12 (0 : Int32)) 7 13 (0 : Int32)) 7 14 (0 : Int32)) 7 15 (0 : Int32)) 3 3 ((nI (7 + 1)))) 3 4 (0 : Int32)) L) 0 [(0, .ref (B0 + 3)), (1, .ref (B0 + 1)), (2, .int b2)] [] (zpt 4 [(3, 0), (3, 2), (0, 2), (0, 3), (0, 4), (0, 5), (0, 6), (0, 7)]) 4 4 818 I L
  refine z_aload_n C rfl 0 rfl dX8_init_0 ?_
  refine z_obj C dX8_init_1 q_140 q_109 q_110 (by decide) (Nat.le_of_ble_eq_true rfl) ?_
  refine z_aload_n C rfl 0 rfl dX8_init_4 ?_
  refine z_aload_n C rfl 1 rfl dX8_init_5 ?_
  refine z_putF C hin zc_8 dX8_init_6 0 3 1 rfl (by decide) (by decide) rfl rfl q_246 rfl rfl rfl rfl [(3, 2), (0, 2), (0, 3), (0, 4), (0, 5), (0, 6), (0, 7)] rfl ?_
  refine z_aload_n C rfl 0 rfl dX8_init_9 ?_
  refine z_iload_n C rfl 2 rfl dX8_init_10 ?_
  refine z_putFi C hin zc_8 dX8_init_11 1 3 rfl (by decide) (by decide) rfl rfl q_247 rfl rfl rfl ?_
  have hZ1 := zz_u (q := 3) (k := 1) (v := b2) hZ (by decide)
  refine z_aload_n C rfl 0 rfl dX8_init_14 ?_
  refine z_new C zc_10 dX8_init_15 q_141 q_142 q_79 [(4, 0), (4, 1), (3, 2), (0, 2), (0, 3), (0, 4), (0, 5), (0, 6), (0, 7)] rfl (zmem_new [(4, 0), (4, 1)]) (by decide) zdf_10 zd4_10 (hZ1 _ (Nat.le_refl _)) (hZL _ (Nat.le_refl _)) (by decide) ?_
  have hZ2 := zz_up hZ1
  have hZL := zzl_up hZL
  refine z_dup C rfl dX8_init_18 ?_
  refine z_callIN C dX8_init_19 yy_X10_init (c_X10_init_p4 C.2.2.2.2.1  ((zu I 3 1 b2)) L hZ2 hZL) rfl q_143 q_144 (by decide) (by decide) rfl rfl (Nat.le_of_ble_eq_true rfl) (by decide) ?_
  have hZ3 := zz_upn 2 hZ2
  have hZL := zzl_upn 2 hZL
  have hZ4 := zz_u (q := 4) (k := 2) (v := (0 : Int32)) hZ3 (by decide)
  have hZ5 := zz_u (q := 4) (k := 3) (v := (0 : Int32)) hZ4 (by decide)
  refine z_putF C hin zc_8 dX8_init_22 2 3 4 rfl (by decide) (by decide) rfl rfl q_248 rfl rfl rfl rfl [(0, 2), (0, 3), (0, 4), (0, 5), (0, 6), (0, 7)] rfl ?_
  refine z_aload_n C rfl 0 rfl dX8_init_25 ?_
  refine z_new C zc_7 dX8_init_26 q_164 q_165 q_80 [(7, 0), (7, 1), (7, 2), (7, 3), (7, 4), (7, 5), (7, 6), (7, 7), (7, 8), (7, 9), (7, 10), (7, 11), (0, 2), (0, 3), (0, 4), (0, 5), (0, 6), (0, 7)] rfl (zmem_new [(7, 0), (7, 1), (7, 2), (7, 3), (7, 4), (7, 5), (7, 6), (7, 7), (7, 8), (7, 9), (7, 10), (7, 11)]) (by decide) zdf_7 zd4_7 (hZ5 _ (Nat.le_refl _)) (hZL _ (Nat.le_refl _)) (by decide) ?_
  have hZ6 := zz_up hZ5
  have hZL := zzl_up hZL
  refine z_dup C rfl dX8_init_29 ?_
  refine z_callIN C dX8_init_30 yy_X7_init (c_X7_init_p7 C.2.2.2.2.1  ((zu (zu (zu I 3 1 b2) 4 2 (0 : Int32)) 4 3 (0 : Int32))) L hZ6 hZL) rfl q_166 q_167 (by decide) (by decide) rfl rfl (Nat.le_of_ble_eq_true rfl) (by decide) ?_
  have hZ7 := zz_upn 12 hZ6
  have hZL := zzl_upn 12 hZL
  have hZ8 := zz_u (q := 7) (k := 12) (v := (0 : Int32)) hZ7 (by decide)
  have hZ9 := zz_u (q := 7) (k := 13) (v := (0 : Int32)) hZ8 (by decide)
  have hZ10 := zz_u (q := 7) (k := 14) (v := (0 : Int32)) hZ9 (by decide)
  have hZ11 := zz_u (q := 7) (k := 15) (v := (0 : Int32)) hZ10 (by decide)
  refine z_putr C zc_8 dX8_init_33 3 3 rfl (by decide) (by decide) rfl q_249 (by decide) rfl rfl rfl ?_
  have hZ12 := zz_u (q := 3) (k := 3) (v := (nI (7 + 1))) hZ11 (by decide)
  refine z_aload_n C rfl 0 rfl dX8_init_36 ?_
  refine z_iconst C (v := 0) (by decide) dX8_init_37 ?_
  refine z_puti C zc_8 dX8_init_38 4 3 rfl (by decide) (by decide) rfl q_250 rfl rfl rfl ?_
  have hZ13 := zz_u (q := 3) (k := 4) (v := (0 : Int32)) hZ12 (by decide)
  exact z_vret C dX8_init_41 rfl rfl
theorem yy_X1_init : zY yX1_init cX1_init 1 none 0 := ⟨q_266, q_81, by decide +kernel, by decide +kernel, by decide +kernel⟩
set_option maxHeartbeats 4000000 in
set_option maxRecDepth 100000 in
theorem c_X1_init_p20 (hE : zE0 l s0 a0 d cy B0) (I : zI) (L : zL) (hZ : zzI I 21) (hZL : zzL L 21) : zM l s0 d cy B0 yX1_init cX1_init 1 none 1 40 [.ref (B0 + 20)] (zpt 21 [(20, 0), (20, 1), (20, 2), (20, 3), (20, 4), (0, 3), (0, 4), (0, 5), (0, 6), (0, 7)]) 21 21 2654 I L (.inl none) (zpt 26 [(0, 3), (0, 4), (0, 5), (0, 6), (0, 7)]) 26 26 4758 (zu I 20 5 (0 : Int32)) L := by
  refine z_methI yy_X1_init rfl hE (Nat.le_of_ble_eq_true rfl) (fun p e R s m args below meth c C hin => ?_)
  show zG p l e R s m args below meth c d cy B0 1 21 2654 (zQ below s args d cy B0 21 2654 (.inl none) (zpt 26 [(0, 3), (0, 4), (0, 5), (0, 6), (0, 7)]) 26 26 4758 (zu I 20 5 (0 : Int32)) L) 0 [(0, .ref (B0 + 20))] [] (zpt 21 [(20, 0), (20, 1), (20, 2), (20, 3), (20, 4), (0, 3), (0, 4), (0, 5), (0, 6), (0, 7)]) 21 21 2654 I L
  refine z_aload_n C rfl 0 rfl dX1_init_0 ?_
  refine z_obj C dX1_init_1 q_267 q_109 q_110 (by decide) (Nat.le_of_ble_eq_true rfl) ?_
  refine z_aload_n C rfl 0 rfl dX1_init_4 ?_
  refine z_bipush C (v := 60) (by decide) dX1_init_5 ?_
  refine z_newarr C (t := 1) (by decide) rfl rfl rfl dX1_init_7 q_162 (by decide) (by decide) (by decide) rfl rfl rfl (hZ _ (Nat.le_refl _)) (hZL _ (Nat.le_refl _)) (znm (by decide)) (by decide) (fun _ _ h => h) ?_
  have hZ1 := zz_up hZ
  have hZL := zzl_up hZL
  refine z_putF C hin zc_1 dX1_init_9 0 20 21 rfl (by decide) (by decide) rfl rfl q_268 rfl rfl rfl rfl [(20, 1), (20, 2), (20, 3), (20, 4), (0, 3), (0, 4), (0, 5), (0, 6), (0, 7)] rfl ?_
  refine z_aload_n C rfl 0 rfl dX1_init_12 ?_
  refine z_bipush C (v := 60) (by decide) dX1_init_13 ?_
  refine z_newarr C (t := 1) (by decide) rfl rfl rfl dX1_init_15 q_162 (by decide) (by decide) (by decide) rfl rfl rfl (hZ1 _ (Nat.le_refl _)) (hZL _ (Nat.le_refl _)) (znm (by decide)) (by decide) (fun _ _ h => h) ?_
  have hZ2 := zz_up hZ1
  have hZL := zzl_up hZL
  refine z_putF C hin zc_1 dX1_init_17 1 20 22 rfl (by decide) (by decide) rfl rfl q_270 rfl rfl rfl rfl [(20, 2), (20, 3), (20, 4), (0, 3), (0, 4), (0, 5), (0, 6), (0, 7)] rfl ?_
  refine z_aload_n C rfl 0 rfl dX1_init_20 ?_
  refine z_sipush C (v := 960) (by decide) dX1_init_21 ?_
  refine z_newarr C (t := 1) (by decide) rfl rfl rfl dX1_init_24 q_162 (by decide) (by decide) (by decide) rfl rfl rfl (hZ2 _ (Nat.le_refl _)) (hZL _ (Nat.le_refl _)) (znm (by decide)) (by decide) (fun _ _ h => h) ?_
  have hZ3 := zz_up hZ2
  have hZL := zzl_up hZL
  refine z_putF C hin zc_1 dX1_init_26 2 20 23 rfl (by decide) (by decide) rfl rfl q_272 rfl rfl rfl rfl [(20, 3), (20, 4), (0, 3), (0, 4), (0, 5), (0, 6), (0, 7)] rfl ?_
  refine z_aload_n C rfl 0 rfl dX1_init_29 ?_
  refine z_sipush C (v := 960) (by decide) dX1_init_30 ?_
  refine z_newarr C (t := 1) (by decide) rfl rfl rfl dX1_init_33 q_162 (by decide) (by decide) (by decide) rfl rfl rfl (hZ3 _ (Nat.le_refl _)) (hZL _ (Nat.le_refl _)) (znm (by decide)) (by decide) (fun _ _ h => h) ?_
  have hZ4 := zz_up hZ3
  have hZL := zzl_up hZL
  refine z_putF C hin zc_1 dX1_init_35 3 20 24 rfl (by decide) (by decide) rfl rfl q_273 rfl rfl rfl rfl [(20, 4), (0, 3), (0, 4), (0, 5), (0, 6), (0, 7)] rfl ?_
  refine z_aload_n C rfl 0 rfl dX1_init_38 ?_
  refine z_bipush C (v := 64) (by decide) dX1_init_39 ?_
  refine z_newarr C (t := 2) (by decide) rfl rfl rfl dX1_init_41 q_163 (by decide) (by decide) (by decide) rfl rfl rfl (hZ4 _ (Nat.le_refl _)) (hZL _ (Nat.le_refl _)) (znm (by decide)) (by decide) (fun _ _ h => h) ?_
  have hZ5 := zz_up hZ4
  have hZL := zzl_up hZL
  refine z_putF C hin zc_1 dX1_init_43 4 20 25 rfl (by decide) (by decide) rfl rfl q_274 rfl rfl rfl rfl [(0, 3), (0, 4), (0, 5), (0, 6), (0, 7)] rfl ?_
  refine z_aload_n C rfl 0 rfl dX1_init_46 ?_
  refine z_iconst C (v := 0) (by decide) dX1_init_47 ?_
  refine z_puti C zc_1 dX1_init_48 5 20 rfl (by decide) (by decide) rfl q_276 rfl rfl rfl ?_
  have hZ6 := zz_u (q := 20) (k := 5) (v := (0 : Int32)) hZ5 (by decide)
  exact z_vret C dX1_init_51 rfl rfl
theorem yy_X4_init : zY yX4_init cX4_init 1 none 0 := ⟨q_296, q_82, by decide +kernel, by decide +kernel, by decide +kernel⟩
set_option maxHeartbeats 4000000 in
set_option maxRecDepth 100000 in
theorem c_X4_init_p26 (hE : zE0 l s0 a0 d cy B0) (I : zI) (L : zL) (hZ : zzI I 27) (hZL : zzL L 27) : zM l s0 d cy B0 yX4_init cX4_init 1 none 1 40 [.ref (B0 + 26)] (zpt 27 [(26, 1), (26, 2), (26, 3), (26, 4), (0, 4), (0, 5), (0, 6), (0, 7)]) 27 27 4763 I L (.inl none) (zpt 31 [(0, 4), (0, 5), (0, 6), (0, 7)]) 31 31 4923 (zu I 26 0 (0 : Int32)) L := by
  refine z_methI yy_X4_init rfl hE (Nat.le_of_ble_eq_true rfl) (fun p e R s m args below meth c C hin => ?_)
  show zG p l e R s m args below meth c d cy B0 1 27 4763 (zQ below s args d cy B0 27 4763 (.inl none) (zpt 31 [(0, 4), (0, 5), (0, 6), (0, 7)]) 31 31 4923 (zu I 26 0 (0 : Int32)) L) 0 [(0, .ref (B0 + 26))] [] (zpt 27 [(26, 1), (26, 2), (26, 3), (26, 4), (0, 4), (0, 5), (0, 6), (0, 7)]) 27 27 4763 I L
  refine z_aload_n C rfl 0 rfl dX4_init_0 ?_
  refine z_obj C dX4_init_1 q_297 q_109 q_110 (by decide) (Nat.le_of_ble_eq_true rfl) ?_
  refine z_aload_n C rfl 0 rfl dX4_init_4 ?_
  refine z_iconst C (v := 0) (by decide) dX4_init_5 ?_
  refine z_puti C zc_4 dX4_init_6 0 26 rfl (by decide) (by decide) rfl q_298 rfl rfl rfl ?_
  have hZ1 := zz_u (q := 26) (k := 0) (v := (0 : Int32)) hZ (by decide)
  refine z_aload_n C rfl 0 rfl dX4_init_9 ?_
  refine z_bipush C (v := 40) (by decide) dX4_init_10 ?_
  refine z_newarr C (t := 1) (by decide) rfl rfl rfl dX4_init_12 q_162 (by decide) (by decide) (by decide) rfl rfl rfl (hZ1 _ (Nat.le_refl _)) (hZL _ (Nat.le_refl _)) (znm (by decide)) (by decide) (fun _ _ h => h) ?_
  have hZ2 := zz_up hZ1
  have hZL := zzl_up hZL
  refine z_putF C hin zc_4 dX4_init_14 1 26 27 rfl (by decide) (by decide) rfl rfl q_300 rfl rfl rfl rfl [(26, 2), (26, 3), (26, 4), (0, 4), (0, 5), (0, 6), (0, 7)] rfl ?_
  refine z_aload_n C rfl 0 rfl dX4_init_17 ?_
  refine z_bipush C (v := 40) (by decide) dX4_init_18 ?_
  refine z_newarr C (t := 1) (by decide) rfl rfl rfl dX4_init_20 q_162 (by decide) (by decide) (by decide) rfl rfl rfl (hZ2 _ (Nat.le_refl _)) (hZL _ (Nat.le_refl _)) (znm (by decide)) (by decide) (fun _ _ h => h) ?_
  have hZ3 := zz_up hZ2
  have hZL := zzl_up hZL
  refine z_putF C hin zc_4 dX4_init_22 2 26 28 rfl (by decide) (by decide) rfl rfl q_301 rfl rfl rfl rfl [(26, 3), (26, 4), (0, 4), (0, 5), (0, 6), (0, 7)] rfl ?_
  refine z_aload_n C rfl 0 rfl dX4_init_25 ?_
  refine z_bipush C (v := 40) (by decide) dX4_init_26 ?_
  refine z_newarr C (t := 1) (by decide) rfl rfl rfl dX4_init_28 q_162 (by decide) (by decide) (by decide) rfl rfl rfl (hZ3 _ (Nat.le_refl _)) (hZL _ (Nat.le_refl _)) (znm (by decide)) (by decide) (fun _ _ h => h) ?_
  have hZ4 := zz_up hZ3
  have hZL := zzl_up hZL
  refine z_putF C hin zc_4 dX4_init_30 3 26 29 rfl (by decide) (by decide) rfl rfl q_302 rfl rfl rfl rfl [(26, 4), (0, 4), (0, 5), (0, 6), (0, 7)] rfl ?_
  refine z_aload_n C rfl 0 rfl dX4_init_33 ?_
  refine z_bipush C (v := 40) (by decide) dX4_init_34 ?_
  refine z_newarr C (t := 1) (by decide) rfl rfl rfl dX4_init_36 q_162 (by decide) (by decide) (by decide) rfl rfl rfl (hZ4 _ (Nat.le_refl _)) (hZL _ (Nat.le_refl _)) (znm (by decide)) (by decide) (fun _ _ h => h) ?_
  have hZ5 := zz_up hZ4
  have hZL := zzl_up hZL
  refine z_putF C hin zc_4 dX4_init_38 4 26 30 rfl (by decide) (by decide) rfl rfl q_303 rfl rfl rfl rfl [(0, 4), (0, 5), (0, 6), (0, 7)] rfl ?_
  exact z_vret C dX4_init_41 rfl rfl
theorem yy_X2_init : zY yX2_init cX2_init 1 none 0 := ⟨q_319, q_83, by decide +kernel, by decide +kernel, by decide +kernel⟩
set_option maxHeartbeats 4000000 in
set_option maxRecDepth 100000 in
theorem c_X2_init_p31 (hE : zE0 l s0 a0 d cy B0) (I : zI) (L : zL) (hZ : zzI I 32) (hZL : zzL L 32) : zM l s0 d cy B0 yX2_init cX2_init 1 none 1 40 [.ref (B0 + 31)] (zpt 32 [(31, 0), (0, 5), (0, 6), (0, 7)]) 32 32 4924 I L (.inl none) (zpt 57 [(0, 5), (0, 6), (0, 7)]) 57 57 6484 I L := by
  refine z_methI yy_X2_init rfl hE (Nat.le_of_ble_eq_true rfl) (fun p e R s m args below meth c C hin => ?_)
  show zG p l e R s m args below meth c d cy B0 1 32 4924 (zQ below s args d cy B0 32 4924 (.inl none) (zpt 57 [(0, 5), (0, 6), (0, 7)]) 57 57 6484 I L) 0 [(0, .ref (B0 + 31))] [] (zpt 32 [(31, 0), (0, 5), (0, 6), (0, 7)]) 32 32 4924 I L
  refine z_aload_n C rfl 0 rfl dX2_init_0 ?_
  refine z_obj C dX2_init_1 q_320 q_109 q_110 (by decide) (Nat.le_of_ble_eq_true rfl) ?_
  refine z_aload_n C rfl 0 rfl dX2_init_4 ?_
  refine z_bipush C (v := 24) (by decide) dX2_init_5 ?_
  refine z_bipush C (v := 64) (by decide) dX2_init_7 ?_
  refine z_multi (ty := .long) (t := 2) (N := 24) (K := 64) C dX2_init_9 (nm := "[[J") (by decide +kernel) q_321 q_322 q_163 (Or.inr ⟨rfl, rfl⟩) (by decide) (by decide) (by decide) (by decide) (by decide) (by decide) (by decide) (by decide) ⟨rfl, rfl⟩ (by decide +kernel) (by decide) hZ hZL ?_
  have hZ1 := zz_upn 25 hZ
  have hZL := zzl_upn 25 hZL
  refine z_putF C hin zc_2 dX2_init_13 0 31 32 rfl (by decide) (by decide) rfl rfl q_323 rfl rfl rfl rfl [(0, 5), (0, 6), (0, 7)] rfl ?_
  exact z_vret C dX2_init_16 rfl rfl
theorem yy_X5_init : zY yX5_init cX5_init 1 none 0 := ⟨q_334, q_84, by decide +kernel, by decide +kernel, by decide +kernel⟩
set_option maxHeartbeats 4000000 in
set_option maxRecDepth 100000 in
theorem c_X5_init_p57 (hE : zE0 l s0 a0 d cy B0) (I : zI) (L : zL) (hZ : zzI I 58) (hZL : zzL L 58) : zM l s0 d cy B0 yX5_init cX5_init 1 none 1 40 [.ref (B0 + 57)] (zpt 58 [(57, 0), (57, 1), (57, 5), (0, 6), (0, 7)]) 58 58 6490 I L (.inl none) (zpt 61 [(0, 6), (0, 7)]) 61 61 10714 (zu (zu (zu I 57 2 (0 : Int32)) 57 3 (0 : Int32)) 57 4 (-1 : Int32)) L := by
  refine z_methI yy_X5_init rfl hE (Nat.le_of_ble_eq_true rfl) (fun p e R s m args below meth c C hin => ?_)
  show zG p l e R s m args below meth c d cy B0 1 58 6490 (zQ below s args d cy B0 58 6490 (.inl none) (zpt 61 [(0, 6), (0, 7)]) 61 61 10714 (zu (zu (zu I 57 2 (0 : Int32)) 57 3 (0 : Int32)) 57 4 (-1 : Int32)) L) 0 [(0, .ref (B0 + 57))] [] (zpt 58 [(57, 0), (57, 1), (57, 5), (0, 6), (0, 7)]) 58 58 6490 I L
  refine z_aload_n C rfl 0 rfl dX5_init_0 ?_
  refine z_obj C dX5_init_1 q_335 q_109 q_110 (by decide) (Nat.le_of_ble_eq_true rfl) ?_
  refine z_aload_n C rfl 0 rfl dX5_init_4 ?_
  refine z_bipush C (v := 64) (by decide) dX5_init_5 ?_
  refine z_newarr C (t := 2) (by decide) rfl rfl rfl dX5_init_7 q_163 (by decide) (by decide) (by decide) rfl rfl rfl (hZ _ (Nat.le_refl _)) (hZL _ (Nat.le_refl _)) (znm (by decide)) (by decide) (fun _ _ h => h) ?_
  have hZ1 := zz_up hZ
  have hZL := zzl_up hZL
  refine z_putF C hin zc_5 dX5_init_9 0 57 58 rfl (by decide) (by decide) rfl rfl q_336 rfl rfl rfl rfl [(57, 1), (57, 5), (0, 6), (0, 7)] rfl ?_
  refine z_aload_n C rfl 0 rfl dX5_init_12 ?_
  refine z_sipush C (v := 4096) (by decide) dX5_init_13 ?_
  refine z_newarr C (t := 1) (by decide) rfl rfl rfl dX5_init_16 q_162 (by decide) (by decide) (by decide) rfl rfl rfl (hZ1 _ (Nat.le_refl _)) (hZL _ (Nat.le_refl _)) (znm (by decide)) (by decide) (fun _ _ h => h) ?_
  have hZ2 := zz_up hZ1
  have hZL := zzl_up hZL
  refine z_putF C hin zc_5 dX5_init_18 1 57 59 rfl (by decide) (by decide) rfl rfl q_338 rfl rfl rfl rfl [(57, 5), (0, 6), (0, 7)] rfl ?_
  refine z_aload_n C rfl 0 rfl dX5_init_21 ?_
  refine z_iconst C (v := 0) (by decide) dX5_init_22 ?_
  refine z_puti C zc_5 dX5_init_23 2 57 rfl (by decide) (by decide) rfl q_341 rfl rfl rfl ?_
  have hZ3 := zz_u (q := 57) (k := 2) (v := (0 : Int32)) hZ2 (by decide)
  refine z_aload_n C rfl 0 rfl dX5_init_26 ?_
  refine z_iconst C (v := 0) (by decide) dX5_init_27 ?_
  refine z_puti C zc_5 dX5_init_28 3 57 rfl (by decide) (by decide) rfl q_344 rfl rfl rfl ?_
  have hZ4 := zz_u (q := 57) (k := 3) (v := (0 : Int32)) hZ3 (by decide)
  refine z_aload_n C rfl 0 rfl dX5_init_31 ?_
  refine z_iconst C (v := -1) (by decide) dX5_init_32 ?_
  refine z_puti C zc_5 dX5_init_33 4 57 rfl (by decide) (by decide) rfl q_346 rfl rfl rfl ?_
  have hZ5 := zz_u (q := 57) (k := 4) (v := (-1 : Int32)) hZ4 (by decide)
  refine z_aload_n C rfl 0 rfl dX5_init_36 ?_
  refine z_bipush C (v := 64) (by decide) dX5_init_37 ?_
  refine z_newarr C (t := 2) (by decide) rfl rfl rfl dX5_init_39 q_163 (by decide) (by decide) (by decide) rfl rfl rfl (hZ5 _ (Nat.le_refl _)) (hZL _ (Nat.le_refl _)) (znm (by decide)) (by decide) (fun _ _ h => h) ?_
  have hZ6 := zz_up hZ5
  have hZL := zzl_up hZL
  refine z_putF C hin zc_5 dX5_init_41 5 57 60 rfl (by decide) (by decide) rfl rfl q_348 rfl rfl rfl rfl [(0, 6), (0, 7)] rfl ?_
  exact z_vret C dX5_init_44 rfl rfl
theorem yy_X3_init : zY yX3_init cX3_init 3 none 2 := ⟨q_366, q_85, by decide +kernel, by decide +kernel, by decide +kernel⟩
set_option maxHeartbeats 4000000 in
set_option maxRecDepth 100000 in
theorem c_X3_init_p61 (hE : zE0 l s0 a0 d cy B0) (I : zI) (L : zL) (hZ : zzI I 62) (hZL : zzL L 62) : zM l s0 d cy B0 yX3_init cX3_init 3 none 1 40 [.ref (B0 + 61), .ref (B0 + 31), .ref (B0 + 57)] (zpt 62 [(61, 0), (61, 2), (61, 3), (61, 4), (61, 5), (0, 6), (0, 7)]) 62 62 10721 I L (.inl none) (zpt 73 [(0, 6), (0, 7)]) 73 73 76265 (zu (zu I 61 1 (0 : Int32)) 61 6 (0 : Int32)) L := by
  refine z_methI yy_X3_init rfl hE (Nat.le_of_ble_eq_true rfl) (fun p e R s m args below meth c C hin => ?_)
  show zG p l e R s m args below meth c d cy B0 3 62 10721 (zQ below s args d cy B0 62 10721 (.inl none) (zpt 73 [(0, 6), (0, 7)]) 73 73 76265 (zu (zu I 61 1 (0 : Int32)) 61 6 (0 : Int32)) L) 0 [(0, .ref (B0 + 61)), (1, .ref (B0 + 31)), (2, .ref (B0 + 57))] [] (zpt 62 [(61, 0), (61, 2), (61, 3), (61, 4), (61, 5), (0, 6), (0, 7)]) 62 62 10721 I L
  refine z_aload_n C rfl 0 rfl dX3_init_0 ?_
  refine z_obj C dX3_init_1 q_367 q_109 q_110 (by decide) (Nat.le_of_ble_eq_true rfl) ?_
  refine z_aload_n C rfl 0 rfl dX3_init_4 ?_
  refine z_bipush C (v := 8) (by decide) dX3_init_5 ?_
  refine z_sipush C (v := 4096) (by decide) dX3_init_7 ?_
  refine z_multi (ty := .int) (t := 1) (N := 8) (K := 4096) C dX3_init_10 (nm := "[[I") (by decide +kernel) q_368 q_369 q_162 (Or.inl ⟨rfl, rfl⟩) (by decide) (by decide) (by decide) (by decide) (by decide) (by decide) (by decide) (by decide) ⟨rfl, rfl⟩ (by decide +kernel) (by decide) hZ hZL ?_
  have hZ1 := zz_upn 9 hZ
  have hZL := zzl_upn 9 hZL
  refine z_putF C hin zc_3 dX3_init_14 0 61 62 rfl (by decide) (by decide) rfl rfl q_370 rfl rfl rfl rfl [(61, 2), (61, 3), (61, 4), (61, 5), (0, 6), (0, 7)] rfl ?_
  refine z_aload_n C rfl 0 rfl dX3_init_17 ?_
  refine z_iconst C (v := 0) (by decide) dX3_init_18 ?_
  refine z_puti C zc_3 dX3_init_19 1 61 rfl (by decide) (by decide) rfl q_372 rfl rfl rfl ?_
  have hZ2 := zz_u (q := 61) (k := 1) (v := (0 : Int32)) hZ1 (by decide)
  refine z_aload_n C rfl 0 rfl dX3_init_22 ?_
  refine z_sipush C (v := 16384) (by decide) dX3_init_23 ?_
  refine z_newarr C (t := 1) (by decide) rfl rfl rfl dX3_init_26 q_162 (by decide) (by decide) (by decide) rfl rfl rfl (hZ2 _ (Nat.le_refl _)) (hZL _ (Nat.le_refl _)) (znm (by decide)) (by decide) (fun _ _ h => h) ?_
  have hZ3 := zz_up hZ2
  have hZL := zzl_up hZL
  refine z_putF C hin zc_3 dX3_init_28 4 61 71 rfl (by decide) (by decide) rfl rfl q_376 rfl rfl rfl rfl [(61, 2), (61, 3), (61, 5), (0, 6), (0, 7)] rfl ?_
  refine z_aload_n C rfl 0 rfl dX3_init_31 ?_
  refine z_sipush C (v := 16384) (by decide) dX3_init_32 ?_
  refine z_newarr C (t := 1) (by decide) rfl rfl rfl dX3_init_35 q_162 (by decide) (by decide) (by decide) rfl rfl rfl (hZ3 _ (Nat.le_refl _)) (hZL _ (Nat.le_refl _)) (znm (by decide)) (by decide) (fun _ _ h => h) ?_
  have hZ4 := zz_up hZ3
  have hZL := zzl_up hZL
  refine z_putF C hin zc_3 dX3_init_37 5 61 72 rfl (by decide) (by decide) rfl rfl q_377 rfl rfl rfl rfl [(61, 2), (61, 3), (0, 6), (0, 7)] rfl ?_
  refine z_aload_n C rfl 0 rfl dX3_init_40 ?_
  refine z_iconst C (v := 0) (by decide) dX3_init_41 ?_
  refine z_puti C zc_3 dX3_init_42 6 61 rfl (by decide) (by decide) rfl q_378 rfl rfl rfl ?_
  have hZ5 := zz_u (q := 61) (k := 6) (v := (0 : Int32)) hZ4 (by decide)
  refine z_aload_n C rfl 0 rfl dX3_init_45 ?_
  refine z_aload_n C rfl 1 rfl dX3_init_46 ?_
  refine z_putF C hin zc_3 dX3_init_47 2 61 31 rfl (by decide) (by decide) rfl rfl q_374 rfl rfl rfl rfl [(61, 3), (0, 6), (0, 7)] rfl ?_
  refine z_aload_n C rfl 0 rfl dX3_init_50 ?_
  refine z_aload_n C rfl 2 rfl dX3_init_51 ?_
  refine z_putF C hin zc_3 dX3_init_52 3 61 57 rfl (by decide) (by decide) rfl rfl q_375 rfl rfl rfl rfl [(0, 6), (0, 7)] rfl ?_
  exact z_vret C dX3_init_55 rfl rfl
theorem yy_X6_init : zY yX6_init cX6_init 4 none 3 := ⟨q_400, q_87, by decide +kernel, by decide +kernel, by decide +kernel⟩
set_option maxHeartbeats 4000000 in
set_option maxRecDepth 100000 in
theorem c_X6_init_p74 (hE : zE0 l s0 a0 d cy B0) (I : zI) (L : zL) (hZ : zzI I 75) (hZL : zzL L 75) : zM l s0 d cy B0 yX6_init cX6_init 4 none 1 40 [.ref (B0 + 74), .ref (B0 + 31), .ref (B0 + 61), .ref (B0 + 57)] (zpt 75 [(74, 0), (74, 1), (74, 2), (74, 3), (74, 4), (73, 0), (73, 1), (73, 2), (73, 3), (73, 4), (73, 5), (73, 6), (73, 8), (73, 9), (73, 10), (0, 7)]) 75 75 76282 I L (.inl none) (zpt 77 [(73, 0), (73, 1), (73, 2), (73, 3), (73, 4), (73, 5), (73, 6), (73, 8), (73, 9), (73, 10), (0, 7)]) 77 77 76350 (zu I 74 5 (0 : Int32)) L := by
  refine z_methI yy_X6_init rfl hE (Nat.le_of_ble_eq_true rfl) (fun p e R s m args below meth c C hin => ?_)
  show zG p l e R s m args below meth c d cy B0 4 75 76282 (zQ below s args d cy B0 75 76282 (.inl none) (zpt 77 [(73, 0), (73, 1), (73, 2), (73, 3), (73, 4), (73, 5), (73, 6), (73, 8), (73, 9), (73, 10), (0, 7)]) 77 77 76350 (zu I 74 5 (0 : Int32)) L) 0 [(0, .ref (B0 + 74)), (1, .ref (B0 + 31)), (2, .ref (B0 + 61)), (3, .ref (B0 + 57))] [] (zpt 75 [(74, 0), (74, 1), (74, 2), (74, 3), (74, 4), (73, 0), (73, 1), (73, 2), (73, 3), (73, 4), (73, 5), (73, 6), (73, 8), (73, 9), (73, 10), (0, 7)]) 75 75 76282 I L
  refine z_aload_n C rfl 0 rfl dX6_init_0 ?_
  refine z_obj C dX6_init_1 q_401 q_109 q_110 (by decide) (Nat.le_of_ble_eq_true rfl) ?_
  refine z_aload_n C rfl 0 rfl dX6_init_4 ?_
  refine z_iconst C (v := 4) (by decide) dX6_init_5 ?_
  refine z_newarr C (t := 1) (by decide) rfl rfl rfl dX6_init_6 q_162 (by decide) (by decide) (by decide) rfl rfl rfl (hZ _ (Nat.le_refl _)) (hZL _ (Nat.le_refl _)) (znm (by decide)) (by decide) (fun _ _ h => h) ?_
  have hZ1 := zz_up hZ
  have hZL := zzl_up hZL
  refine z_putF C hin zc_6 dX6_init_8 0 74 75 rfl (by decide) (by decide) rfl rfl q_402 rfl rfl rfl rfl [(74, 1), (74, 2), (74, 3), (74, 4), (73, 0), (73, 1), (73, 2), (73, 3), (73, 4), (73, 5), (73, 6), (73, 8), (73, 9), (73, 10), (0, 7)] rfl ?_
  refine z_aload_n C rfl 0 rfl dX6_init_11 ?_
  refine z_bipush C (v := 64) (by decide) dX6_init_12 ?_
  refine z_newarr C (t := 2) (by decide) rfl rfl rfl dX6_init_14 q_163 (by decide) (by decide) (by decide) rfl rfl rfl (hZ1 _ (Nat.le_refl _)) (hZL _ (Nat.le_refl _)) (znm (by decide)) (by decide) (fun _ _ h => h) ?_
  have hZ2 := zz_up hZ1
  have hZL := zzl_up hZL
  refine z_putF C hin zc_6 dX6_init_16 4 74 76 rfl (by decide) (by decide) rfl rfl q_406 rfl rfl rfl rfl [(74, 1), (74, 2), (74, 3), (73, 0), (73, 1), (73, 2), (73, 3), (73, 4), (73, 5), (73, 6), (73, 8), (73, 9), (73, 10), (0, 7)] rfl ?_
  refine z_aload_n C rfl 0 rfl dX6_init_19 ?_
  refine z_iconst C (v := 0) (by decide) dX6_init_20 ?_
  refine z_puti C zc_6 dX6_init_21 5 74 rfl (by decide) (by decide) rfl q_407 rfl rfl rfl ?_
  have hZ3 := zz_u (q := 74) (k := 5) (v := (0 : Int32)) hZ2 (by decide)
  refine z_aload_n C rfl 0 rfl dX6_init_24 ?_
  refine z_aload_n C rfl 1 rfl dX6_init_25 ?_
  refine z_putF C hin zc_6 dX6_init_26 1 74 31 rfl (by decide) (by decide) rfl rfl q_403 rfl rfl rfl rfl [(74, 2), (74, 3), (73, 0), (73, 1), (73, 2), (73, 3), (73, 4), (73, 5), (73, 6), (73, 8), (73, 9), (73, 10), (0, 7)] rfl ?_
  refine z_aload_n C rfl 0 rfl dX6_init_29 ?_
  refine z_aload_n C rfl 2 rfl dX6_init_30 ?_
  refine z_putF C hin zc_6 dX6_init_31 2 74 61 rfl (by decide) (by decide) rfl rfl q_404 rfl rfl rfl rfl [(74, 3), (73, 0), (73, 1), (73, 2), (73, 3), (73, 4), (73, 5), (73, 6), (73, 8), (73, 9), (73, 10), (0, 7)] rfl ?_
  refine z_aload_n C rfl 0 rfl dX6_init_34 ?_
  refine z_aload_n C rfl 3 rfl dX6_init_35 ?_
  refine z_putF C hin zc_6 dX6_init_36 3 74 57 rfl (by decide) (by decide) rfl rfl q_405 rfl rfl rfl rfl [(73, 0), (73, 1), (73, 2), (73, 3), (73, 4), (73, 5), (73, 6), (73, 8), (73, 9), (73, 10), (0, 7)] rfl ?_
  exact z_vret C dX6_init_39 rfl rfl
theorem yy_X0_init : zY yX0_init cX0_init 4 none 3 := ⟨q_423, q_86, by decide +kernel, by decide +kernel, by decide +kernel⟩
set_option maxHeartbeats 4000000 in
set_option maxRecDepth 100000 in
theorem c_X0_init_p73 (hE : zE0 l s0 a0 d cy B0) (I : zI) (L : zL) (hZ : zzI I 77) (hZL : zzL L 77) : zM l s0 d cy B0 yX0_init cX0_init 4 none 1 40 [.ref (B0 + 73), .ref (B0 + 31), .ref (B0 + 57), .ref (B0 + 74)] (zpt 77 [(73, 0), (73, 1), (73, 2), (73, 3), (73, 4), (73, 5), (73, 6), (73, 8), (73, 9), (73, 10), (0, 7)]) 77 77 76350 I L (.inl none) (zpt 84 [(0, 7)]) 84 84 79658 (zu I 73 7 (0 : Int32)) L := by
  refine z_methI yy_X0_init rfl hE (Nat.le_of_ble_eq_true rfl) (fun p e R s m args below meth c C hin => ?_)
  show zG p l e R s m args below meth c d cy B0 4 77 76350 (zQ below s args d cy B0 77 76350 (.inl none) (zpt 84 [(0, 7)]) 84 84 79658 (zu I 73 7 (0 : Int32)) L) 0 [(0, .ref (B0 + 73)), (1, .ref (B0 + 31)), (2, .ref (B0 + 57)), (3, .ref (B0 + 74))] [] (zpt 77 [(73, 0), (73, 1), (73, 2), (73, 3), (73, 4), (73, 5), (73, 6), (73, 8), (73, 9), (73, 10), (0, 7)]) 77 77 76350 I L
  refine z_aload_n C rfl 0 rfl dX0_init_0 ?_
  refine z_obj C dX0_init_1 q_424 q_109 q_110 (by decide) (Nat.le_of_ble_eq_true rfl) ?_
  refine z_aload_n C rfl 0 rfl dX0_init_4 ?_
  refine z_sipush C (v := 300) (by decide) dX0_init_5 ?_
  refine z_newarr C (t := 1) (by decide) rfl rfl rfl dX0_init_8 q_162 (by decide) (by decide) (by decide) rfl rfl rfl (hZ _ (Nat.le_refl _)) (hZL _ (Nat.le_refl _)) (znm (by decide)) (by decide) (fun _ _ h => h) ?_
  have hZ1 := zz_up hZ
  have hZL := zzl_up hZL
  refine z_putF C hin zc_0 dX0_init_10 0 73 77 rfl (by decide) (by decide) rfl rfl q_425 rfl rfl rfl rfl [(73, 1), (73, 2), (73, 3), (73, 4), (73, 5), (73, 6), (73, 8), (73, 9), (73, 10), (0, 7)] rfl ?_
  refine z_aload_n C rfl 0 rfl dX0_init_13 ?_
  refine z_sipush C (v := 300) (by decide) dX0_init_14 ?_
  refine z_newarr C (t := 1) (by decide) rfl rfl rfl dX0_init_17 q_162 (by decide) (by decide) (by decide) rfl rfl rfl (hZ1 _ (Nat.le_refl _)) (hZL _ (Nat.le_refl _)) (znm (by decide)) (by decide) (fun _ _ h => h) ?_
  have hZ2 := zz_up hZ1
  have hZL := zzl_up hZL
  refine z_putF C hin zc_0 dX0_init_19 1 73 78 rfl (by decide) (by decide) rfl rfl q_427 rfl rfl rfl rfl [(73, 2), (73, 3), (73, 4), (73, 5), (73, 6), (73, 8), (73, 9), (73, 10), (0, 7)] rfl ?_
  refine z_aload_n C rfl 0 rfl dX0_init_22 ?_
  refine z_sipush C (v := 300) (by decide) dX0_init_23 ?_
  refine z_newarr C (t := 1) (by decide) rfl rfl rfl dX0_init_26 q_162 (by decide) (by decide) (by decide) rfl rfl rfl (hZ2 _ (Nat.le_refl _)) (hZL _ (Nat.le_refl _)) (znm (by decide)) (by decide) (fun _ _ h => h) ?_
  have hZ3 := zz_up hZ2
  have hZL := zzl_up hZL
  refine z_putF C hin zc_0 dX0_init_28 2 73 79 rfl (by decide) (by decide) rfl rfl q_429 rfl rfl rfl rfl [(73, 3), (73, 4), (73, 5), (73, 6), (73, 8), (73, 9), (73, 10), (0, 7)] rfl ?_
  refine z_aload_n C rfl 0 rfl dX0_init_31 ?_
  refine z_sipush C (v := 300) (by decide) dX0_init_32 ?_
  refine z_newarr C (t := 1) (by decide) rfl rfl rfl dX0_init_35 q_162 (by decide) (by decide) (by decide) rfl rfl rfl (hZ3 _ (Nat.le_refl _)) (hZL _ (Nat.le_refl _)) (znm (by decide)) (by decide) (fun _ _ h => h) ?_
  have hZ4 := zz_up hZ3
  have hZL := zzl_up hZL
  refine z_putF C hin zc_0 dX0_init_37 3 73 80 rfl (by decide) (by decide) rfl rfl q_431 rfl rfl rfl rfl [(73, 4), (73, 5), (73, 6), (73, 8), (73, 9), (73, 10), (0, 7)] rfl ?_
  refine z_aload_n C rfl 0 rfl dX0_init_40 ?_
  refine z_sipush C (v := 900) (by decide) dX0_init_41 ?_
  refine z_newarr C (t := 1) (by decide) rfl rfl rfl dX0_init_44 q_162 (by decide) (by decide) (by decide) rfl rfl rfl (hZ4 _ (Nat.le_refl _)) (hZL _ (Nat.le_refl _)) (znm (by decide)) (by decide) (fun _ _ h => h) ?_
  have hZ5 := zz_up hZ4
  have hZL := zzl_up hZL
  refine z_putF C hin zc_0 dX0_init_46 4 73 81 rfl (by decide) (by decide) rfl rfl q_433 rfl rfl rfl rfl [(73, 5), (73, 6), (73, 8), (73, 9), (73, 10), (0, 7)] rfl ?_
  refine z_aload_n C rfl 0 rfl dX0_init_49 ?_
  refine z_sipush C (v := 1200) (by decide) dX0_init_50 ?_
  refine z_newarr C (t := 1) (by decide) rfl rfl rfl dX0_init_53 q_162 (by decide) (by decide) (by decide) rfl rfl rfl (hZ5 _ (Nat.le_refl _)) (hZL _ (Nat.le_refl _)) (znm (by decide)) (by decide) (fun _ _ h => h) ?_
  have hZ6 := zz_up hZ5
  have hZL := zzl_up hZL
  refine z_putF C hin zc_0 dX0_init_55 5 73 82 rfl (by decide) (by decide) rfl rfl q_435 rfl rfl rfl rfl [(73, 6), (73, 8), (73, 9), (73, 10), (0, 7)] rfl ?_
  refine z_aload_n C rfl 0 rfl dX0_init_58 ?_
  refine z_bipush C (v := 8) (by decide) dX0_init_59 ?_
  refine z_newarr C (t := 1) (by decide) rfl rfl rfl dX0_init_61 q_162 (by decide) (by decide) (by decide) rfl rfl rfl (hZ6 _ (Nat.le_refl _)) (hZL _ (Nat.le_refl _)) (znm (by decide)) (by decide) (fun _ _ h => h) ?_
  have hZ7 := zz_up hZ6
  have hZL := zzl_up hZL
  refine z_putF C hin zc_0 dX0_init_63 6 73 83 rfl (by decide) (by decide) rfl rfl q_437 rfl rfl rfl rfl [(73, 8), (73, 9), (73, 10), (0, 7)] rfl ?_
  refine z_aload_n C rfl 0 rfl dX0_init_66 ?_
  refine z_iconst C (v := 0) (by decide) dX0_init_67 ?_
  refine z_puti C zc_0 dX0_init_68 7 73 rfl (by decide) (by decide) rfl q_439 rfl rfl rfl ?_
  have hZ8 := zz_u (q := 73) (k := 7) (v := (0 : Int32)) hZ7 (by decide)
  refine z_aload_n C rfl 0 rfl dX0_init_71 ?_
  refine z_aload_n C rfl 1 rfl dX0_init_72 ?_
  refine z_putF C hin zc_0 dX0_init_73 8 73 31 rfl (by decide) (by decide) rfl rfl q_441 rfl rfl rfl rfl [(73, 9), (73, 10), (0, 7)] rfl ?_
  refine z_aload_n C rfl 0 rfl dX0_init_76 ?_
  refine z_aload_n C rfl 2 rfl dX0_init_77 ?_
  refine z_putF C hin zc_0 dX0_init_78 9 73 57 rfl (by decide) (by decide) rfl rfl q_442 rfl rfl rfl rfl [(73, 10), (0, 7)] rfl ?_
  refine z_aload_n C rfl 0 rfl dX0_init_81 ?_
  refine z_aload_n C rfl 3 rfl dX0_init_82 ?_
  refine z_putF C hin zc_0 dX0_init_83 10 73 74 rfl (by decide) (by decide) rfl rfl q_443 rfl rfl rfl rfl [(0, 7)] rfl ?_
  exact z_vret C dX0_init_86 rfl rfl
set_option maxHeartbeats 4000000 in
set_option maxRecDepth 100000 in
theorem c_X7_init_p84 (hE : zE0 l s0 a0 d cy B0) (I : zI) (L : zL) (hZ : zzI I 85) (hZL : zzL L 85) : zM l s0 d cy B0 yX7_init cX7_init 1 none 1 40 [.ref (B0 + 84)] (zpt 85 [(84, 0), (84, 1), (84, 2), (84, 3), (84, 4), (84, 5), (84, 6), (84, 7), (84, 8), (84, 9), (84, 10), (84, 11)]) 85 85 79674 I L (.inl none) (zpt 97 []) 97 97 79882 (zu (zu (zu (zu I 84 12 (0 : Int32)) 84 13 (0 : Int32)) 84 14 (0 : Int32)) 84 15 (0 : Int32)) L := by
  refine z_methI yy_X7_init rfl hE (Nat.le_of_ble_eq_true rfl) (fun p e R s m args below meth c C hin => ?_)
  show zG p l e R s m args below meth c d cy B0 1 85 79674 (zQ below s args d cy B0 85 79674 (.inl none) (zpt 97 []) 97 97 79882 (zu (zu (zu (zu I 84 12 (0 : Int32)) 84 13 (0 : Int32)) 84 14 (0 : Int32)) 84 15 (0 : Int32)) L) 0 [(0, .ref (B0 + 84))] [] (zpt 85 [(84, 0), (84, 1), (84, 2), (84, 3), (84, 4), (84, 5), (84, 6), (84, 7), (84, 8), (84, 9), (84, 10), (84, 11)]) 85 85 79674 I L
  refine z_aload_n C rfl 0 rfl dX7_init_0 ?_
  refine z_obj C dX7_init_1 q_169 q_109 q_110 (by decide) (Nat.le_of_ble_eq_true rfl) ?_
  refine z_aload_n C rfl 0 rfl dX7_init_4 ?_
  refine z_bipush C (v := 24) (by decide) dX7_init_5 ?_
  refine z_newarr C (t := 2) (by decide) rfl rfl rfl dX7_init_7 q_163 (by decide) (by decide) (by decide) rfl rfl rfl (hZ _ (Nat.le_refl _)) (hZL _ (Nat.le_refl _)) (znm (by decide)) (by decide) (fun _ _ h => h) ?_
  have hZ1 := zz_up hZ
  have hZL := zzl_up hZL
  refine z_putF C hin zc_7 dX7_init_9 0 84 85 rfl (by decide) (by decide) rfl rfl q_170 rfl rfl rfl rfl [(84, 1), (84, 2), (84, 3), (84, 4), (84, 5), (84, 6), (84, 7), (84, 8), (84, 9), (84, 10), (84, 11)] rfl ?_
  refine z_aload_n C rfl 0 rfl dX7_init_12 ?_
  refine z_bipush C (v := 24) (by decide) dX7_init_13 ?_
  refine z_newarr C (t := 1) (by decide) rfl rfl rfl dX7_init_15 q_162 (by decide) (by decide) (by decide) rfl rfl rfl (hZ1 _ (Nat.le_refl _)) (hZL _ (Nat.le_refl _)) (znm (by decide)) (by decide) (fun _ _ h => h) ?_
  have hZ2 := zz_up hZ1
  have hZL := zzl_up hZL
  refine z_putF C hin zc_7 dX7_init_17 1 84 86 rfl (by decide) (by decide) rfl rfl q_171 rfl rfl rfl rfl [(84, 2), (84, 3), (84, 4), (84, 5), (84, 6), (84, 7), (84, 8), (84, 9), (84, 10), (84, 11)] rfl ?_
  refine z_aload_n C rfl 0 rfl dX7_init_20 ?_
  refine z_bipush C (v := 24) (by decide) dX7_init_21 ?_
  refine z_newarr C (t := 1) (by decide) rfl rfl rfl dX7_init_23 q_162 (by decide) (by decide) (by decide) rfl rfl rfl (hZ2 _ (Nat.le_refl _)) (hZL _ (Nat.le_refl _)) (znm (by decide)) (by decide) (fun _ _ h => h) ?_
  have hZ3 := zz_up hZ2
  have hZL := zzl_up hZL
  refine z_putF C hin zc_7 dX7_init_25 2 84 87 rfl (by decide) (by decide) rfl rfl q_173 rfl rfl rfl rfl [(84, 3), (84, 4), (84, 5), (84, 6), (84, 7), (84, 8), (84, 9), (84, 10), (84, 11)] rfl ?_
  refine z_aload_n C rfl 0 rfl dX7_init_28 ?_
  refine z_bipush C (v := 24) (by decide) dX7_init_29 ?_
  refine z_newarr C (t := 1) (by decide) rfl rfl rfl dX7_init_31 q_162 (by decide) (by decide) (by decide) rfl rfl rfl (hZ3 _ (Nat.le_refl _)) (hZL _ (Nat.le_refl _)) (znm (by decide)) (by decide) (fun _ _ h => h) ?_
  have hZ4 := zz_up hZ3
  have hZL := zzl_up hZL
  refine z_putF C hin zc_7 dX7_init_33 3 84 88 rfl (by decide) (by decide) rfl rfl q_175 rfl rfl rfl rfl [(84, 4), (84, 5), (84, 6), (84, 7), (84, 8), (84, 9), (84, 10), (84, 11)] rfl ?_
  refine z_aload_n C rfl 0 rfl dX7_init_36 ?_
  refine z_bipush C (v := 8) (by decide) dX7_init_37 ?_
  refine z_newarr C (t := 1) (by decide) rfl rfl rfl dX7_init_39 q_162 (by decide) (by decide) (by decide) rfl rfl rfl (hZ4 _ (Nat.le_refl _)) (hZL _ (Nat.le_refl _)) (znm (by decide)) (by decide) (fun _ _ h => h) ?_
  have hZ5 := zz_up hZ4
  have hZL := zzl_up hZL
  refine z_putF C hin zc_7 dX7_init_41 4 84 89 rfl (by decide) (by decide) rfl rfl q_177 rfl rfl rfl rfl [(84, 5), (84, 6), (84, 7), (84, 8), (84, 9), (84, 10), (84, 11)] rfl ?_
  refine z_aload_n C rfl 0 rfl dX7_init_44 ?_
  refine z_bipush C (v := 16) (by decide) dX7_init_45 ?_
  refine z_newarr C (t := 1) (by decide) rfl rfl rfl dX7_init_47 q_162 (by decide) (by decide) (by decide) rfl rfl rfl (hZ5 _ (Nat.le_refl _)) (hZL _ (Nat.le_refl _)) (znm (by decide)) (by decide) (fun _ _ h => h) ?_
  have hZ6 := zz_up hZ5
  have hZL := zzl_up hZL
  refine z_putF C hin zc_7 dX7_init_49 5 84 90 rfl (by decide) (by decide) rfl rfl q_180 rfl rfl rfl rfl [(84, 6), (84, 7), (84, 8), (84, 9), (84, 10), (84, 11)] rfl ?_
  refine z_aload_n C rfl 0 rfl dX7_init_52 ?_
  refine z_bipush C (v := 16) (by decide) dX7_init_53 ?_
  refine z_newarr C (t := 1) (by decide) rfl rfl rfl dX7_init_55 q_162 (by decide) (by decide) (by decide) rfl rfl rfl (hZ6 _ (Nat.le_refl _)) (hZL _ (Nat.le_refl _)) (znm (by decide)) (by decide) (fun _ _ h => h) ?_
  have hZ7 := zz_up hZ6
  have hZL := zzl_up hZL
  refine z_putF C hin zc_7 dX7_init_57 6 84 91 rfl (by decide) (by decide) rfl rfl q_182 rfl rfl rfl rfl [(84, 7), (84, 8), (84, 9), (84, 10), (84, 11)] rfl ?_
  refine z_aload_n C rfl 0 rfl dX7_init_60 ?_
  refine z_bipush C (v := 16) (by decide) dX7_init_61 ?_
  refine z_newarr C (t := 1) (by decide) rfl rfl rfl dX7_init_63 q_162 (by decide) (by decide) (by decide) rfl rfl rfl (hZ7 _ (Nat.le_refl _)) (hZL _ (Nat.le_refl _)) (znm (by decide)) (by decide) (fun _ _ h => h) ?_
  have hZ8 := zz_up hZ7
  have hZL := zzl_up hZL
  refine z_putF C hin zc_7 dX7_init_65 7 84 92 rfl (by decide) (by decide) rfl rfl q_184 rfl rfl rfl rfl [(84, 8), (84, 9), (84, 10), (84, 11)] rfl ?_
  refine z_aload_n C rfl 0 rfl dX7_init_68 ?_
  refine z_bipush C (v := 8) (by decide) dX7_init_69 ?_
  refine z_newarr C (t := 2) (by decide) rfl rfl rfl dX7_init_71 q_163 (by decide) (by decide) (by decide) rfl rfl rfl (hZ8 _ (Nat.le_refl _)) (hZL _ (Nat.le_refl _)) (znm (by decide)) (by decide) (fun _ _ h => h) ?_
  have hZ9 := zz_up hZ8
  have hZL := zzl_up hZL
  refine z_putF C hin zc_7 dX7_init_73 8 84 93 rfl (by decide) (by decide) rfl rfl q_186 rfl rfl rfl rfl [(84, 9), (84, 10), (84, 11)] rfl ?_
  refine z_aload_n C rfl 0 rfl dX7_init_76 ?_
  refine z_bipush C (v := 8) (by decide) dX7_init_77 ?_
  refine z_newarr C (t := 1) (by decide) rfl rfl rfl dX7_init_79 q_162 (by decide) (by decide) (by decide) rfl rfl rfl (hZ9 _ (Nat.le_refl _)) (hZL _ (Nat.le_refl _)) (znm (by decide)) (by decide) (fun _ _ h => h) ?_
  have hZ10 := zz_up hZ9
  have hZL := zzl_up hZL
  refine z_putF C hin zc_7 dX7_init_81 9 84 94 rfl (by decide) (by decide) rfl rfl q_187 rfl rfl rfl rfl [(84, 10), (84, 11)] rfl ?_
  refine z_aload_n C rfl 0 rfl dX7_init_84 ?_
  refine z_bipush C (v := 8) (by decide) dX7_init_85 ?_
  refine z_newarr C (t := 1) (by decide) rfl rfl rfl dX7_init_87 q_162 (by decide) (by decide) (by decide) rfl rfl rfl (hZ10 _ (Nat.le_refl _)) (hZL _ (Nat.le_refl _)) (znm (by decide)) (by decide) (fun _ _ h => h) ?_
  have hZ11 := zz_up hZ10
  have hZL := zzl_up hZL
  refine z_putF C hin zc_7 dX7_init_89 10 84 95 rfl (by decide) (by decide) rfl rfl q_189 rfl rfl rfl rfl [(84, 11)] rfl ?_
  refine z_aload_n C rfl 0 rfl dX7_init_92 ?_
  refine z_bipush C (v := 32) (by decide) dX7_init_93 ?_
  refine z_newarr C (t := 1) (by decide) rfl rfl rfl dX7_init_95 q_162 (by decide) (by decide) (by decide) rfl rfl rfl (hZ11 _ (Nat.le_refl _)) (hZL _ (Nat.le_refl _)) (znm (by decide)) (by decide) (fun _ _ h => h) ?_
  have hZ12 := zz_up hZ11
  have hZL := zzl_up hZL
  refine z_putF C hin zc_7 dX7_init_97 11 84 96 rfl (by decide) (by decide) rfl rfl q_193 rfl rfl rfl rfl [] rfl ?_
  refine z_aload_n C rfl 0 rfl dX7_init_100 ?_
  refine z_iconst C (v := 0) (by decide) dX7_init_101 ?_
  refine z_puti C zc_7 dX7_init_102 12 84 rfl (by decide) (by decide) rfl q_196 rfl rfl rfl ?_
  have hZ13 := zz_u (q := 84) (k := 12) (v := (0 : Int32)) hZ12 (by decide)
  refine z_aload_n C rfl 0 rfl dX7_init_105 ?_
  refine z_iconst C (v := 0) (by decide) dX7_init_106 ?_
  refine z_puti C zc_7 dX7_init_107 13 84 rfl (by decide) (by decide) rfl q_200 rfl rfl rfl ?_
  have hZ14 := zz_u (q := 84) (k := 13) (v := (0 : Int32)) hZ13 (by decide)
  refine z_aload_n C rfl 0 rfl dX7_init_110 ?_
  refine z_iconst C (v := 0) (by decide) dX7_init_111 ?_
  refine z_puti C zc_7 dX7_init_112 14 84 rfl (by decide) (by decide) rfl q_205 rfl rfl rfl ?_
  have hZ15 := zz_u (q := 84) (k := 14) (v := (0 : Int32)) hZ14 (by decide)
  refine z_aload_n C rfl 0 rfl dX7_init_115 ?_
  refine z_iconst C (v := 0) (by decide) dX7_init_116 ?_
  refine z_puti C zc_7 dX7_init_117 15 84 rfl (by decide) (by decide) rfl q_209 rfl rfl rfl ?_
  have hZ16 := zz_u (q := 84) (k := 15) (v := (0 : Int32)) hZ15 (by decide)
  exact z_vret C dX7_init_120 rfl rfl
theorem yy_X11_init : zY yX11_init cX11_init 3 none 1 := ⟨q_107, q_75, by decide +kernel, by decide +kernel, by decide +kernel⟩
set_option maxHeartbeats 4000000 in
set_option maxRecDepth 100000 in
theorem c_X11_init_p0 (hE : zE0 l s0 a0 d cy B0) (b1 : Int32) (I : zI) (L : zL) (hZ : zzI I 1) (hZL : zzL L 1) : zM l s0 d cy B0 yX11_init cX11_init 3 none 3 82 [.ref (B0 + 0), .int b1] (zpt 1 [(0, 1), (0, 2), (0, 3), (0, 4), (0, 5), (0, 6), (0, 7)]) 1 1 11 I L (.inl none) (zpt 97 []) 97 97 79882 (zu (zu (zu (zu (zu (zu (zu (zu (zu (zu (zu (zu (zu (zu (zu (zu (zu (zu (zu (zu (zu (zu (zu (zu (zu (zu (zu I 0 0 (zmx (1 : Int32) (zmn (65536 : Int32) b1))) 1 1 (0 : Int32)) 3 1 (((zu (zu I 0 0 (zmx (1 : Int32) (zmn (65536 : Int32) b1))) 1 1 (0 : Int32)) 0 0))) 4 2 (0 : Int32)) 4 3 (0 : Int32)) 7 12 (0 : Int32)) 7 13 (0 : Int32)) 7 14 (0 : Int32)) 7 15 (0 : Int32)) 3 3 ((nI (7 + 1)))) 3 4 (0 : Int32)) 20 5 (0 : Int32)) 26 0 (0 : Int32)) 57 2 (0 : Int32)) 57 3 (0 : Int32)) 57 4 (-1 : Int32)) 61 1 (0 : Int32)) 61 6 (0 : Int32)) 74 5 (0 : Int32)) 73 7 (0 : Int32)) 84 12 (0 : Int32)) 84 13 (0 : Int32)) 84 14 (0 : Int32)) 84 15 (0 : Int32)) 0 8 ((nI (84 + 1)))) 0 9 (0 : Int32)) 0 10 (0 : Int32)) L := by
  refine z_methI yy_X11_init rfl hE (Nat.le_of_ble_eq_true rfl) (fun p e R s m args below meth c C hin => ?_)
  show zG p l e R s m args below meth c d cy B0 3 1 11 (zQ below s args d cy B0 1 11 (.inl none) (zpt 97 []) 97 97 79882 (zu (zu (zu (zu (zu (zu (zu (zu (zu (zu (zu (zu (zu (zu (zu (zu (zu (zu (zu (zu (zu (zu (zu (zu (zu (zu (zu I 0 0 (zmx (1 : Int32) (zmn (65536 : Int32) b1))) 1 1 (0 : Int32)) 3 1 (((zu (zu I 0 0 (zmx (1 : Int32) (zmn (65536 : Int32) b1))) 1 1 (0 : Int32)) 0 0))) 4 2 (0 : Int32)) 4 3 (0 : Int32)) 7 12 (0 : Int32)) 7 13 (0 : Int32)) 7 14 (0 : Int32)) 7 15 (0 : Int32)) 3 3 ((nI (7 + 1)))) 3 4 (0 : Int32)) 20 5 (0 : Int32)) 26 0 (0 : Int32)) 57 2 (0 : Int32)) 57 3 (0 : Int32)) 57 4 (-1 : Int32)) 61 1 (0 : Int32)) 61 6 (0 : Int32)) 74 5 (0 : Int32)) 73 7 (0 : Int32)) 84 12 (0 : Int32)) 84 13 (0 : Int32)) 84 14 (0 : Int32)) 84 15 (0 : Int32)) 0 8 ((nI (84 + 1)))) 0 9 (0 : Int32)) 0 10 (0 : Int32)) L) 0 [(0, .ref (B0 + 0)), (1, .int b1)] [] (zpt 1 [(0, 1), (0, 2), (0, 3), (0, 4), (0, 5), (0, 6), (0, 7)]) 1 1 11 I L
  refine z_aload_n C rfl 0 rfl dX11_init_0 ?_
  refine z_obj C dX11_init_1 q_108 q_109 q_110 (by decide) (Nat.le_of_ble_eq_true rfl) ?_
  refine z_aload_n C rfl 0 rfl dX11_init_4 ?_
  refine z_iconst C (v := 1) (by decide) dX11_init_5 ?_
  refine z_ldc C dX11_init_6 q_111 ?_
  refine z_iload_n C rfl 1 rfl dX11_init_8 ?_
  refine z_mmin C dX11_init_9 q_112 q_113 q_76 q_114 (by decide) (Nat.le_of_ble_eq_true rfl) (by decide) ?_
  refine z_mmax C dX11_init_12 q_115 q_116 q_76 q_117 (by decide) (Nat.le_of_ble_eq_true rfl) (by decide) ?_
  refine z_putFi C hin zc_11 dX11_init_15 0 0 rfl (by decide) (by decide) rfl rfl q_469 rfl rfl rfl ?_
  have hZ1 := zz_u (q := 0) (k := 0) (v := zmx (1 : Int32) (zmn (65536 : Int32) b1)) hZ (by decide)
  refine z_aload_n C rfl 0 rfl dX11_init_18 ?_
  refine z_new C zc_9 dX11_init_19 q_118 q_119 q_77 [(1, 0), (0, 1), (0, 2), (0, 3), (0, 4), (0, 5), (0, 6), (0, 7)] rfl (zmem_new [(1, 0)]) (by decide) zdf_9 zd4_9 (hZ1 _ (Nat.le_refl _)) (hZL _ (Nat.le_refl _)) (by decide) ?_
  have hZ2 := zz_up hZ1
  have hZL := zzl_up hZL
  refine z_dup C rfl dX11_init_22 ?_
  refine z_callIN C dX11_init_23 yy_X9_init (c_X9_init_p1 C.2.2.2.2.1  ((zu I 0 0 (zmx (1 : Int32) (zmn (65536 : Int32) b1)))) L hZ2 hZL) rfl q_120 q_121 (by decide) (by decide) rfl rfl (Nat.le_of_ble_eq_true rfl) (by decide) ?_
  have hZ3 := zz_upn 1 hZ2
  have hZL := zzl_upn 1 hZL
  have hZ4 := zz_u (q := 1) (k := 1) (v := (0 : Int32)) hZ3 (by decide)
  refine z_putF C hin zc_11 dX11_init_26 1 0 1 rfl (by decide) (by decide) rfl rfl q_470 rfl rfl rfl rfl [(0, 2), (0, 3), (0, 4), (0, 5), (0, 6), (0, 7)] rfl ?_
  refine z_aload_n C rfl 0 rfl dX11_init_29 ?_
  refine z_new C zc_8 dX11_init_30 q_135 q_136 q_78 [(3, 0), (3, 2), (0, 2), (0, 3), (0, 4), (0, 5), (0, 6), (0, 7)] rfl (zmem_new [(3, 0), (3, 2)]) (by decide) zdf_8 zd4_8 (hZ4 _ (Nat.le_refl _)) (hZL _ (Nat.le_refl _)) (by decide) ?_
  have hZ5 := zz_up hZ4
  have hZL := zzl_up hZL
  refine z_dup C rfl dX11_init_33 ?_
  refine z_aload_n C rfl 0 rfl dX11_init_34 ?_
  refine z_getr C zc_11 dX11_init_35 1 0 1 rfl (by decide) (by decide) q_470 rfl rfl ?_
  refine z_aload_n C rfl 0 rfl dX11_init_38 ?_
  refine z_geti C zc_11 dX11_init_39 0 0 rfl (by decide) (by decide) q_469 rfl ?_
  refine z_callI C dX11_init_42 yy_X8_init (c_X8_init_p3 C.2.2.2.2.1 ((zu (zu I 0 0 (zmx (1 : Int32) (zmn (65536 : Int32) b1))) 1 1 (0 : Int32)) 0 0) ((zu (zu I 0 0 (zmx (1 : Int32) (zmn (65536 : Int32) b1))) 1 1 (0 : Int32))) L hZ5 hZL) rfl q_137 q_138 (by decide) (by decide) rfl rfl (Nat.le_of_ble_eq_true rfl) (by decide) ?_
  have hZ6 := zz_upn 16 hZ5
  have hZL := zzl_upn 16 hZL
  have hZ7 := zz_u (q := 3) (k := 1) (v := ((zu (zu I 0 0 (zmx (1 : Int32) (zmn (65536 : Int32) b1))) 1 1 (0 : Int32)) 0 0)) hZ6 (by decide)
  have hZ8 := zz_u (q := 4) (k := 2) (v := (0 : Int32)) hZ7 (by decide)
  have hZ9 := zz_u (q := 4) (k := 3) (v := (0 : Int32)) hZ8 (by decide)
  have hZ10 := zz_u (q := 7) (k := 12) (v := (0 : Int32)) hZ9 (by decide)
  have hZ11 := zz_u (q := 7) (k := 13) (v := (0 : Int32)) hZ10 (by decide)
  have hZ12 := zz_u (q := 7) (k := 14) (v := (0 : Int32)) hZ11 (by decide)
  have hZ13 := zz_u (q := 7) (k := 15) (v := (0 : Int32)) hZ12 (by decide)
  have hZ14 := zz_u (q := 3) (k := 3) (v := (nI (7 + 1))) hZ13 (by decide)
  have hZ15 := zz_u (q := 3) (k := 4) (v := (0 : Int32)) hZ14 (by decide)
  refine z_putF C hin zc_11 dX11_init_45 2 0 3 rfl (by decide) (by decide) rfl rfl q_471 rfl rfl rfl rfl [(0, 3), (0, 4), (0, 5), (0, 6), (0, 7)] rfl ?_
  refine z_aload_n C rfl 0 rfl dX11_init_48 ?_
  refine z_new C zc_1 dX11_init_49 q_262 q_263 q_81 [(20, 0), (20, 1), (20, 2), (20, 3), (20, 4), (0, 3), (0, 4), (0, 5), (0, 6), (0, 7)] rfl (zmem_new [(20, 0), (20, 1), (20, 2), (20, 3), (20, 4)]) (by decide) zdf_1 zd4_1 (hZ15 _ (Nat.le_refl _)) (hZL _ (Nat.le_refl _)) (by decide) ?_
  have hZ16 := zz_up hZ15
  have hZL := zzl_up hZL
  refine z_dup C rfl dX11_init_52 ?_
  refine z_callIN C dX11_init_53 yy_X1_init (c_X1_init_p20 C.2.2.2.2.1  ((zu (zu (zu (zu (zu (zu (zu (zu (zu (zu (zu I 0 0 (zmx (1 : Int32) (zmn (65536 : Int32) b1))) 1 1 (0 : Int32)) 3 1 (((zu (zu I 0 0 (zmx (1 : Int32) (zmn (65536 : Int32) b1))) 1 1 (0 : Int32)) 0 0))) 4 2 (0 : Int32)) 4 3 (0 : Int32)) 7 12 (0 : Int32)) 7 13 (0 : Int32)) 7 14 (0 : Int32)) 7 15 (0 : Int32)) 3 3 ((nI (7 + 1)))) 3 4 (0 : Int32))) L hZ16 hZL) rfl q_264 q_265 (by decide) (by decide) rfl rfl (Nat.le_of_ble_eq_true rfl) (by decide) ?_
  have hZ17 := zz_upn 5 hZ16
  have hZL := zzl_upn 5 hZL
  have hZ18 := zz_u (q := 20) (k := 5) (v := (0 : Int32)) hZ17 (by decide)
  refine z_putF C hin zc_11 dX11_init_56 3 0 20 rfl (by decide) (by decide) rfl rfl q_472 rfl rfl rfl rfl [(0, 4), (0, 5), (0, 6), (0, 7)] rfl ?_
  refine z_aload_n C rfl 0 rfl dX11_init_59 ?_
  refine z_new C zc_4 dX11_init_60 q_292 q_293 q_82 [(26, 1), (26, 2), (26, 3), (26, 4), (0, 4), (0, 5), (0, 6), (0, 7)] rfl (zmem_new [(26, 1), (26, 2), (26, 3), (26, 4)]) (by decide) zdf_4 zd4_4 (hZ18 _ (Nat.le_refl _)) (hZL _ (Nat.le_refl _)) (by decide) ?_
  have hZ19 := zz_up hZ18
  have hZL := zzl_up hZL
  refine z_dup C rfl dX11_init_63 ?_
  refine z_callIN C dX11_init_64 yy_X4_init (c_X4_init_p26 C.2.2.2.2.1  ((zu (zu (zu (zu (zu (zu (zu (zu (zu (zu (zu (zu I 0 0 (zmx (1 : Int32) (zmn (65536 : Int32) b1))) 1 1 (0 : Int32)) 3 1 (((zu (zu I 0 0 (zmx (1 : Int32) (zmn (65536 : Int32) b1))) 1 1 (0 : Int32)) 0 0))) 4 2 (0 : Int32)) 4 3 (0 : Int32)) 7 12 (0 : Int32)) 7 13 (0 : Int32)) 7 14 (0 : Int32)) 7 15 (0 : Int32)) 3 3 ((nI (7 + 1)))) 3 4 (0 : Int32)) 20 5 (0 : Int32))) L hZ19 hZL) rfl q_294 q_295 (by decide) (by decide) rfl rfl (Nat.le_of_ble_eq_true rfl) (by decide) ?_
  have hZ20 := zz_upn 4 hZ19
  have hZL := zzl_upn 4 hZL
  have hZ21 := zz_u (q := 26) (k := 0) (v := (0 : Int32)) hZ20 (by decide)
  refine z_putF C hin zc_11 dX11_init_67 4 0 26 rfl (by decide) (by decide) rfl rfl q_473 rfl rfl rfl rfl [(0, 5), (0, 6), (0, 7)] rfl ?_
  refine z_aload_n C rfl 0 rfl dX11_init_70 ?_
  refine z_new C zc_2 dX11_init_71 q_315 q_316 q_83 [(31, 0), (0, 5), (0, 6), (0, 7)] rfl (zmem_new [(31, 0)]) (by decide) zdf_2 zd4_2 (hZ21 _ (Nat.le_refl _)) (hZL _ (Nat.le_refl _)) (by decide) ?_
  have hZ22 := zz_up hZ21
  have hZL := zzl_up hZL
  refine z_dup C rfl dX11_init_74 ?_
  refine z_callIN C dX11_init_75 yy_X2_init (c_X2_init_p31 C.2.2.2.2.1  ((zu (zu (zu (zu (zu (zu (zu (zu (zu (zu (zu (zu (zu I 0 0 (zmx (1 : Int32) (zmn (65536 : Int32) b1))) 1 1 (0 : Int32)) 3 1 (((zu (zu I 0 0 (zmx (1 : Int32) (zmn (65536 : Int32) b1))) 1 1 (0 : Int32)) 0 0))) 4 2 (0 : Int32)) 4 3 (0 : Int32)) 7 12 (0 : Int32)) 7 13 (0 : Int32)) 7 14 (0 : Int32)) 7 15 (0 : Int32)) 3 3 ((nI (7 + 1)))) 3 4 (0 : Int32)) 20 5 (0 : Int32)) 26 0 (0 : Int32))) L hZ22 hZL) rfl q_317 q_318 (by decide) (by decide) rfl rfl (Nat.le_of_ble_eq_true rfl) (by decide) ?_
  have hZ23 := zz_upn 25 hZ22
  have hZL := zzl_upn 25 hZL
  refine z_putF C hin zc_11 dX11_init_78 5 0 31 rfl (by decide) (by decide) rfl rfl q_474 rfl rfl rfl rfl [(0, 6), (0, 7)] rfl ?_
  refine z_new C zc_5 dX11_init_81 q_330 q_331 q_84 [(57, 0), (57, 1), (57, 5), (0, 6), (0, 7)] rfl (zmem_new [(57, 0), (57, 1), (57, 5)]) (by decide) zdf_5 zd4_5 (hZ23 _ (Nat.le_refl _)) (hZL _ (Nat.le_refl _)) (by decide) ?_
  have hZ24 := zz_up hZ23
  have hZL := zzl_up hZL
  refine z_dup C rfl dX11_init_84 ?_
  refine z_callIN C dX11_init_85 yy_X5_init (c_X5_init_p57 C.2.2.2.2.1  ((zu (zu (zu (zu (zu (zu (zu (zu (zu (zu (zu (zu (zu I 0 0 (zmx (1 : Int32) (zmn (65536 : Int32) b1))) 1 1 (0 : Int32)) 3 1 (((zu (zu I 0 0 (zmx (1 : Int32) (zmn (65536 : Int32) b1))) 1 1 (0 : Int32)) 0 0))) 4 2 (0 : Int32)) 4 3 (0 : Int32)) 7 12 (0 : Int32)) 7 13 (0 : Int32)) 7 14 (0 : Int32)) 7 15 (0 : Int32)) 3 3 ((nI (7 + 1)))) 3 4 (0 : Int32)) 20 5 (0 : Int32)) 26 0 (0 : Int32))) L hZ24 hZL) rfl q_332 q_333 (by decide) (by decide) rfl rfl (Nat.le_of_ble_eq_true rfl) (by decide) ?_
  have hZ25 := zz_upn 3 hZ24
  have hZL := zzl_upn 3 hZL
  have hZ26 := zz_u (q := 57) (k := 2) (v := (0 : Int32)) hZ25 (by decide)
  have hZ27 := zz_u (q := 57) (k := 3) (v := (0 : Int32)) hZ26 (by decide)
  have hZ28 := zz_u (q := 57) (k := 4) (v := (-1 : Int32)) hZ27 (by decide)
  refine z_astore_n C (lv' := [(2, .ref (B0 + 57)), (0, .ref (B0 + 0)), (1, .int b1)]) rfl (by decide) rfl dX11_init_88 ?_
  refine z_aload_n C rfl 1 rfl dX11_init_89 ?_
  refine z_new C zc_3 dX11_init_90 q_362 q_363 q_85 [(61, 0), (61, 2), (61, 3), (61, 4), (61, 5), (0, 6), (0, 7)] rfl (zmem_new [(61, 0), (61, 2), (61, 3), (61, 4), (61, 5)]) (by decide) zdf_3 zd4_3 (hZ28 _ (Nat.le_refl _)) (hZL _ (Nat.le_refl _)) (by decide) ?_
  have hZ29 := zz_up hZ28
  have hZL := zzl_up hZL
  refine z_dup C rfl dX11_init_93 ?_
  refine z_aload_n C rfl 1 rfl dX11_init_94 ?_
  refine z_getr C zc_11 dX11_init_95 5 0 31 rfl (by decide) (by decide) q_474 rfl rfl ?_
  refine z_aload_n C rfl 0 rfl dX11_init_98 ?_
  refine z_callI C dX11_init_99 yy_X3_init (c_X3_init_p61 C.2.2.2.2.1  ((zu (zu (zu (zu (zu (zu (zu (zu (zu (zu (zu (zu (zu (zu (zu (zu I 0 0 (zmx (1 : Int32) (zmn (65536 : Int32) b1))) 1 1 (0 : Int32)) 3 1 (((zu (zu I 0 0 (zmx (1 : Int32) (zmn (65536 : Int32) b1))) 1 1 (0 : Int32)) 0 0))) 4 2 (0 : Int32)) 4 3 (0 : Int32)) 7 12 (0 : Int32)) 7 13 (0 : Int32)) 7 14 (0 : Int32)) 7 15 (0 : Int32)) 3 3 ((nI (7 + 1)))) 3 4 (0 : Int32)) 20 5 (0 : Int32)) 26 0 (0 : Int32)) 57 2 (0 : Int32)) 57 3 (0 : Int32)) 57 4 (-1 : Int32))) L hZ29 hZL) rfl q_364 q_365 (by decide) (by decide) rfl rfl (Nat.le_of_ble_eq_true rfl) (by decide) ?_
  have hZ30 := zz_upn 11 hZ29
  have hZL := zzl_upn 11 hZL
  have hZ31 := zz_u (q := 61) (k := 1) (v := (0 : Int32)) hZ30 (by decide)
  have hZ32 := zz_u (q := 61) (k := 6) (v := (0 : Int32)) hZ31 (by decide)
  refine z_putF C hin zc_11 dX11_init_102 6 0 61 rfl (by decide) (by decide) rfl rfl q_475 rfl rfl rfl rfl [(0, 7)] rfl ?_
  refine z_aload_n C rfl 1 rfl dX11_init_105 ?_
  refine z_new C zc_0 dX11_init_106 q_394 q_395 q_86 [(73, 0), (73, 1), (73, 2), (73, 3), (73, 4), (73, 5), (73, 6), (73, 8), (73, 9), (73, 10), (0, 7)] rfl (zmem_new [(73, 0), (73, 1), (73, 2), (73, 3), (73, 4), (73, 5), (73, 6), (73, 8), (73, 9), (73, 10)]) (by decide) zdf_0 zd4_0 (hZ32 _ (Nat.le_refl _)) (hZL _ (Nat.le_refl _)) (by decide) ?_
  have hZ33 := zz_up hZ32
  have hZL := zzl_up hZL
  refine z_dup C rfl dX11_init_109 ?_
  refine z_aload_n C rfl 1 rfl dX11_init_110 ?_
  refine z_getr C zc_11 dX11_init_111 5 0 31 rfl (by decide) (by decide) q_474 rfl rfl ?_
  refine z_aload_n C rfl 0 rfl dX11_init_114 ?_
  refine z_new C zc_6 dX11_init_115 q_396 q_397 q_87 [(74, 0), (74, 1), (74, 2), (74, 3), (74, 4), (73, 0), (73, 1), (73, 2), (73, 3), (73, 4), (73, 5), (73, 6), (73, 8), (73, 9), (73, 10), (0, 7)] rfl (zmem_new [(74, 0), (74, 1), (74, 2), (74, 3), (74, 4)]) (by decide) zdf_6 zd4_6 (hZ33 _ (Nat.le_refl _)) (hZL _ (Nat.le_refl _)) (by decide) ?_
  have hZ34 := zz_up hZ33
  have hZL := zzl_up hZL
  refine z_dup C rfl dX11_init_118 ?_
  refine z_aload_n C rfl 1 rfl dX11_init_119 ?_
  refine z_getr C zc_11 dX11_init_120 5 0 31 rfl (by decide) (by decide) q_474 rfl rfl ?_
  refine z_aload_n C rfl 1 rfl dX11_init_123 ?_
  refine z_getr C zc_11 dX11_init_124 6 0 61 rfl (by decide) (by decide) q_475 rfl rfl ?_
  refine z_aload_n C rfl 0 rfl dX11_init_127 ?_
  refine z_callI C dX11_init_128 yy_X6_init (c_X6_init_p74 C.2.2.2.2.1  ((zu (zu (zu (zu (zu (zu (zu (zu (zu (zu (zu (zu (zu (zu (zu (zu (zu (zu I 0 0 (zmx (1 : Int32) (zmn (65536 : Int32) b1))) 1 1 (0 : Int32)) 3 1 (((zu (zu I 0 0 (zmx (1 : Int32) (zmn (65536 : Int32) b1))) 1 1 (0 : Int32)) 0 0))) 4 2 (0 : Int32)) 4 3 (0 : Int32)) 7 12 (0 : Int32)) 7 13 (0 : Int32)) 7 14 (0 : Int32)) 7 15 (0 : Int32)) 3 3 ((nI (7 + 1)))) 3 4 (0 : Int32)) 20 5 (0 : Int32)) 26 0 (0 : Int32)) 57 2 (0 : Int32)) 57 3 (0 : Int32)) 57 4 (-1 : Int32)) 61 1 (0 : Int32)) 61 6 (0 : Int32))) L hZ34 hZL) rfl q_398 q_399 (by decide) (by decide) rfl rfl (Nat.le_of_ble_eq_true rfl) (by decide) ?_
  have hZ35 := zz_upn 2 hZ34
  have hZL := zzl_upn 2 hZL
  have hZ36 := zz_u (q := 74) (k := 5) (v := (0 : Int32)) hZ35 (by decide)
  refine z_callI C dX11_init_131 yy_X0_init (c_X0_init_p73 C.2.2.2.2.1  ((zu (zu (zu (zu (zu (zu (zu (zu (zu (zu (zu (zu (zu (zu (zu (zu (zu (zu (zu I 0 0 (zmx (1 : Int32) (zmn (65536 : Int32) b1))) 1 1 (0 : Int32)) 3 1 (((zu (zu I 0 0 (zmx (1 : Int32) (zmn (65536 : Int32) b1))) 1 1 (0 : Int32)) 0 0))) 4 2 (0 : Int32)) 4 3 (0 : Int32)) 7 12 (0 : Int32)) 7 13 (0 : Int32)) 7 14 (0 : Int32)) 7 15 (0 : Int32)) 3 3 ((nI (7 + 1)))) 3 4 (0 : Int32)) 20 5 (0 : Int32)) 26 0 (0 : Int32)) 57 2 (0 : Int32)) 57 3 (0 : Int32)) 57 4 (-1 : Int32)) 61 1 (0 : Int32)) 61 6 (0 : Int32)) 74 5 (0 : Int32))) L hZ36 hZL) rfl q_421 q_422 (by decide) (by decide) rfl rfl (Nat.le_of_ble_eq_true rfl) (by decide) ?_
  have hZ37 := zz_upn 7 hZ36
  have hZL := zzl_upn 7 hZL
  have hZ38 := zz_u (q := 73) (k := 7) (v := (0 : Int32)) hZ37 (by decide)
  refine z_putF C hin zc_11 dX11_init_134 7 0 73 rfl (by decide) (by decide) rfl rfl q_476 rfl rfl rfl rfl [] rfl ?_
  refine z_aload_n C rfl 1 rfl dX11_init_137 ?_
  refine z_new C zc_7 dX11_init_138 q_467 q_165 q_80 [(84, 0), (84, 1), (84, 2), (84, 3), (84, 4), (84, 5), (84, 6), (84, 7), (84, 8), (84, 9), (84, 10), (84, 11)] rfl (zmem_new [(84, 0), (84, 1), (84, 2), (84, 3), (84, 4), (84, 5), (84, 6), (84, 7), (84, 8), (84, 9), (84, 10), (84, 11)]) (by decide) zdf_7 zd4_7 (hZ38 _ (Nat.le_refl _)) (hZL _ (Nat.le_refl _)) (by decide) ?_
  have hZ39 := zz_up hZ38
  have hZL := zzl_up hZL
  refine z_dup C rfl dX11_init_141 ?_
  refine z_callIN C dX11_init_142 yy_X7_init (c_X7_init_p84 C.2.2.2.2.1  ((zu (zu (zu (zu (zu (zu (zu (zu (zu (zu (zu (zu (zu (zu (zu (zu (zu (zu (zu (zu I 0 0 (zmx (1 : Int32) (zmn (65536 : Int32) b1))) 1 1 (0 : Int32)) 3 1 (((zu (zu I 0 0 (zmx (1 : Int32) (zmn (65536 : Int32) b1))) 1 1 (0 : Int32)) 0 0))) 4 2 (0 : Int32)) 4 3 (0 : Int32)) 7 12 (0 : Int32)) 7 13 (0 : Int32)) 7 14 (0 : Int32)) 7 15 (0 : Int32)) 3 3 ((nI (7 + 1)))) 3 4 (0 : Int32)) 20 5 (0 : Int32)) 26 0 (0 : Int32)) 57 2 (0 : Int32)) 57 3 (0 : Int32)) 57 4 (-1 : Int32)) 61 1 (0 : Int32)) 61 6 (0 : Int32)) 74 5 (0 : Int32)) 73 7 (0 : Int32))) L hZ39 hZL) rfl q_468 q_167 (by decide) (by decide) rfl rfl (Nat.le_of_ble_eq_true rfl) (by decide) ?_
  have hZ40 := zz_upn 12 hZ39
  have hZL := zzl_upn 12 hZL
  have hZ41 := zz_u (q := 84) (k := 12) (v := (0 : Int32)) hZ40 (by decide)
  have hZ42 := zz_u (q := 84) (k := 13) (v := (0 : Int32)) hZ41 (by decide)
  have hZ43 := zz_u (q := 84) (k := 14) (v := (0 : Int32)) hZ42 (by decide)
  have hZ44 := zz_u (q := 84) (k := 15) (v := (0 : Int32)) hZ43 (by decide)
  refine z_putr C zc_11 dX11_init_145 8 0 rfl (by decide) (by decide) rfl q_477 (by decide) rfl rfl rfl ?_
  have hZ45 := zz_u (q := 0) (k := 8) (v := (nI (84 + 1))) hZ44 (by decide)
  refine z_aload_n C rfl 1 rfl dX11_init_148 ?_
  refine z_iconst C (v := 0) (by decide) dX11_init_149 ?_
  refine z_puti C zc_11 dX11_init_150 9 0 rfl (by decide) (by decide) rfl q_478 rfl rfl rfl ?_
  have hZ46 := zz_u (q := 0) (k := 9) (v := (0 : Int32)) hZ45 (by decide)
  refine z_aload_n C rfl 1 rfl dX11_init_153 ?_
  refine z_iconst C (v := 0) (by decide) dX11_init_154 ?_
  refine z_puti C zc_11 dX11_init_155 10 0 rfl (by decide) (by decide) rfl q_479 rfl rfl rfl ?_
  have hZ47 := zz_u (q := 0) (k := 10) (v := (0 : Int32)) hZ46 (by decide)
  exact z_vret C dX11_init_158 rfl rfl
theorem yy_X12_init : zY yX12_init cX12_init 2 none 1 := ⟨q_1164, q_88, by decide +kernel, by decide +kernel, by decide +kernel⟩
set_option maxHeartbeats 4000000 in
set_option maxRecDepth 100000 in
theorem c_X12_init_p97 (hE : zE0 l s0 a0 d cy B0) (b1 : Int32) (I : zI) (L : zL) (hZ : zzI I 98) (hZL : zzL L 98) : zM l s0 d cy B0 yX12_init cX12_init 2 none 1 40 [.ref (B0 + 97), .int b1] (zpt 98 [(97, 3), (97, 4), (97, 5), (97, 6), (97, 8), (97, 9), (97, 10), (97, 16), (97, 17), (97, 18), (97, 19), (97, 20), (97, 21), (97, 22), (97, 23), (97, 24), (97, 25), (97, 26), (97, 27), (97, 28), (97, 31), (97, 32), (97, 33), (97, 34), (97, 36), (97, 37), (97, 40), (97, 41), (97, 42), (97, 43), (97, 44), (97, 45), (97, 54), (97, 55), (97, 56)]) 98 98 79939 I L (.inl none) (zpt 133 []) 133 133 361079 (zu I 97 1 ((zclp b1))) L := by
  refine z_methI yy_X12_init rfl hE (Nat.le_of_ble_eq_true rfl) (fun p e R s m args below meth c C hin => ?_)
  show zG p l e R s m args below meth c d cy B0 2 98 79939 (zQ below s args d cy B0 98 79939 (.inl none) (zpt 133 []) 133 133 361079 (zu I 97 1 ((zclp b1))) L) 0 [(0, .ref (B0 + 97)), (1, .int b1)] [] (zpt 98 [(97, 3), (97, 4), (97, 5), (97, 6), (97, 8), (97, 9), (97, 10), (97, 16), (97, 17), (97, 18), (97, 19), (97, 20), (97, 21), (97, 22), (97, 23), (97, 24), (97, 25), (97, 26), (97, 27), (97, 28), (97, 31), (97, 32), (97, 33), (97, 34), (97, 36), (97, 37), (97, 40), (97, 41), (97, 42), (97, 43), (97, 44), (97, 45), (97, 54), (97, 55), (97, 56)]) 98 98 79939 I L
  refine z_aload_n C rfl 0 rfl dX12_init_0 ?_
  refine z_obj C dX12_init_1 q_1165 q_109 q_110 (by decide) (Nat.le_of_ble_eq_true rfl) ?_
  refine z_aload_n C rfl 0 rfl dX12_init_4 ?_
  refine z_bipush C (v := 60) (by decide) dX12_init_5 ?_
  refine z_newarr C (t := 1) (by decide) rfl rfl rfl dX12_init_7 q_162 (by decide) (by decide) (by decide) rfl rfl rfl (hZ _ (Nat.le_refl _)) (hZL _ (Nat.le_refl _)) (znm (by decide)) (by decide) (fun _ _ h => h) ?_
  have hZ1 := zz_up hZ
  have hZL := zzl_up hZL
  refine z_putF C hin zc_12 dX12_init_9 3 97 98 rfl (by decide) (by decide) rfl rfl q_1172 rfl rfl rfl rfl [(97, 4), (97, 5), (97, 6), (97, 8), (97, 9), (97, 10), (97, 16), (97, 17), (97, 18), (97, 19), (97, 20), (97, 21), (97, 22), (97, 23), (97, 24), (97, 25), (97, 26), (97, 27), (97, 28), (97, 31), (97, 32), (97, 33), (97, 34), (97, 36), (97, 37), (97, 40), (97, 41), (97, 42), (97, 43), (97, 44), (97, 45), (97, 54), (97, 55), (97, 56)] rfl ?_
  refine z_aload_n C rfl 0 rfl dX12_init_12 ?_
  refine z_bipush C (v := 60) (by decide) dX12_init_13 ?_
  refine z_newarr C (t := 1) (by decide) rfl rfl rfl dX12_init_15 q_162 (by decide) (by decide) (by decide) rfl rfl rfl (hZ1 _ (Nat.le_refl _)) (hZL _ (Nat.le_refl _)) (znm (by decide)) (by decide) (fun _ _ h => h) ?_
  have hZ2 := zz_up hZ1
  have hZL := zzl_up hZL
  refine z_putF C hin zc_12 dX12_init_17 4 97 99 rfl (by decide) (by decide) rfl rfl q_1173 rfl rfl rfl rfl [(97, 5), (97, 6), (97, 8), (97, 9), (97, 10), (97, 16), (97, 17), (97, 18), (97, 19), (97, 20), (97, 21), (97, 22), (97, 23), (97, 24), (97, 25), (97, 26), (97, 27), (97, 28), (97, 31), (97, 32), (97, 33), (97, 34), (97, 36), (97, 37), (97, 40), (97, 41), (97, 42), (97, 43), (97, 44), (97, 45), (97, 54), (97, 55), (97, 56)] rfl ?_
  refine z_aload_n C rfl 0 rfl dX12_init_20 ?_
  refine z_sipush C (v := 960) (by decide) dX12_init_21 ?_
  refine z_newarr C (t := 1) (by decide) rfl rfl rfl dX12_init_24 q_162 (by decide) (by decide) (by decide) rfl rfl rfl (hZ2 _ (Nat.le_refl _)) (hZL _ (Nat.le_refl _)) (znm (by decide)) (by decide) (fun _ _ h => h) ?_
  have hZ3 := zz_up hZ2
  have hZL := zzl_up hZL
  refine z_putF C hin zc_12 dX12_init_26 5 97 100 rfl (by decide) (by decide) rfl rfl q_1174 rfl rfl rfl rfl [(97, 6), (97, 8), (97, 9), (97, 10), (97, 16), (97, 17), (97, 18), (97, 19), (97, 20), (97, 21), (97, 22), (97, 23), (97, 24), (97, 25), (97, 26), (97, 27), (97, 28), (97, 31), (97, 32), (97, 33), (97, 34), (97, 36), (97, 37), (97, 40), (97, 41), (97, 42), (97, 43), (97, 44), (97, 45), (97, 54), (97, 55), (97, 56)] rfl ?_
  refine z_aload_n C rfl 0 rfl dX12_init_29 ?_
  refine z_sipush C (v := 960) (by decide) dX12_init_30 ?_
  refine z_newarr C (t := 1) (by decide) rfl rfl rfl dX12_init_33 q_162 (by decide) (by decide) (by decide) rfl rfl rfl (hZ3 _ (Nat.le_refl _)) (hZL _ (Nat.le_refl _)) (znm (by decide)) (by decide) (fun _ _ h => h) ?_
  have hZ4 := zz_up hZ3
  have hZL := zzl_up hZL
  refine z_putF C hin zc_12 dX12_init_35 6 97 101 rfl (by decide) (by decide) rfl rfl q_1175 rfl rfl rfl rfl [(97, 8), (97, 9), (97, 10), (97, 16), (97, 17), (97, 18), (97, 19), (97, 20), (97, 21), (97, 22), (97, 23), (97, 24), (97, 25), (97, 26), (97, 27), (97, 28), (97, 31), (97, 32), (97, 33), (97, 34), (97, 36), (97, 37), (97, 40), (97, 41), (97, 42), (97, 43), (97, 44), (97, 45), (97, 54), (97, 55), (97, 56)] rfl ?_
  refine z_aload_n C rfl 0 rfl dX12_init_38 ?_
  refine z_bipush C (v := 40) (by decide) dX12_init_39 ?_
  refine z_newarr C (t := 1) (by decide) rfl rfl rfl dX12_init_41 q_162 (by decide) (by decide) (by decide) rfl rfl rfl (hZ4 _ (Nat.le_refl _)) (hZL _ (Nat.le_refl _)) (znm (by decide)) (by decide) (fun _ _ h => h) ?_
  have hZ5 := zz_up hZ4
  have hZL := zzl_up hZL
  refine z_putF C hin zc_12 dX12_init_43 8 97 102 rfl (by decide) (by decide) rfl rfl q_1177 rfl rfl rfl rfl [(97, 9), (97, 10), (97, 16), (97, 17), (97, 18), (97, 19), (97, 20), (97, 21), (97, 22), (97, 23), (97, 24), (97, 25), (97, 26), (97, 27), (97, 28), (97, 31), (97, 32), (97, 33), (97, 34), (97, 36), (97, 37), (97, 40), (97, 41), (97, 42), (97, 43), (97, 44), (97, 45), (97, 54), (97, 55), (97, 56)] rfl ?_
  refine z_aload_n C rfl 0 rfl dX12_init_46 ?_
  refine z_bipush C (v := 40) (by decide) dX12_init_47 ?_
  refine z_newarr C (t := 1) (by decide) rfl rfl rfl dX12_init_49 q_162 (by decide) (by decide) (by decide) rfl rfl rfl (hZ5 _ (Nat.le_refl _)) (hZL _ (Nat.le_refl _)) (znm (by decide)) (by decide) (fun _ _ h => h) ?_
  have hZ6 := zz_up hZ5
  have hZL := zzl_up hZL
  refine z_putF C hin zc_12 dX12_init_51 9 97 103 rfl (by decide) (by decide) rfl rfl q_1178 rfl rfl rfl rfl [(97, 10), (97, 16), (97, 17), (97, 18), (97, 19), (97, 20), (97, 21), (97, 22), (97, 23), (97, 24), (97, 25), (97, 26), (97, 27), (97, 28), (97, 31), (97, 32), (97, 33), (97, 34), (97, 36), (97, 37), (97, 40), (97, 41), (97, 42), (97, 43), (97, 44), (97, 45), (97, 54), (97, 55), (97, 56)] rfl ?_
  refine z_aload_n C rfl 0 rfl dX12_init_54 ?_
  refine z_bipush C (v := 40) (by decide) dX12_init_55 ?_
  refine z_newarr C (t := 1) (by decide) rfl rfl rfl dX12_init_57 q_162 (by decide) (by decide) (by decide) rfl rfl rfl (hZ6 _ (Nat.le_refl _)) (hZL _ (Nat.le_refl _)) (znm (by decide)) (by decide) (fun _ _ h => h) ?_
  have hZ7 := zz_up hZ6
  have hZL := zzl_up hZL
  refine z_putF C hin zc_12 dX12_init_59 10 97 104 rfl (by decide) (by decide) rfl rfl q_1179 rfl rfl rfl rfl [(97, 16), (97, 17), (97, 18), (97, 19), (97, 20), (97, 21), (97, 22), (97, 23), (97, 24), (97, 25), (97, 26), (97, 27), (97, 28), (97, 31), (97, 32), (97, 33), (97, 34), (97, 36), (97, 37), (97, 40), (97, 41), (97, 42), (97, 43), (97, 44), (97, 45), (97, 54), (97, 55), (97, 56)] rfl ?_
  refine z_aload_n C rfl 0 rfl dX12_init_62 ?_
  refine z_bipush C (v := 48) (by decide) dX12_init_63 ?_
  refine z_newarr C (t := 2) (by decide) rfl rfl rfl dX12_init_65 q_163 (by decide) (by decide) (by decide) rfl rfl rfl (hZ7 _ (Nat.le_refl _)) (hZL _ (Nat.le_refl _)) (znm (by decide)) (by decide) (fun _ _ h => h) ?_
  have hZ8 := zz_up hZ7
  have hZL := zzl_up hZL
  refine z_putF C hin zc_12 dX12_init_67 16 97 105 rfl (by decide) (by decide) rfl rfl q_1185 rfl rfl rfl rfl [(97, 17), (97, 18), (97, 19), (97, 20), (97, 21), (97, 22), (97, 23), (97, 24), (97, 25), (97, 26), (97, 27), (97, 28), (97, 31), (97, 32), (97, 33), (97, 34), (97, 36), (97, 37), (97, 40), (97, 41), (97, 42), (97, 43), (97, 44), (97, 45), (97, 54), (97, 55), (97, 56)] rfl ?_
  refine z_aload_n C rfl 0 rfl dX12_init_70 ?_
  refine z_bipush C (v := 48) (by decide) dX12_init_71 ?_
  refine z_newarr C (t := 1) (by decide) rfl rfl rfl dX12_init_73 q_162 (by decide) (by decide) (by decide) rfl rfl rfl (hZ8 _ (Nat.le_refl _)) (hZL _ (Nat.le_refl _)) (znm (by decide)) (by decide) (fun _ _ h => h) ?_
  have hZ9 := zz_up hZ8
  have hZL := zzl_up hZL
  refine z_putF C hin zc_12 dX12_init_75 17 97 106 rfl (by decide) (by decide) rfl rfl q_1186 rfl rfl rfl rfl [(97, 18), (97, 19), (97, 20), (97, 21), (97, 22), (97, 23), (97, 24), (97, 25), (97, 26), (97, 27), (97, 28), (97, 31), (97, 32), (97, 33), (97, 34), (97, 36), (97, 37), (97, 40), (97, 41), (97, 42), (97, 43), (97, 44), (97, 45), (97, 54), (97, 55), (97, 56)] rfl ?_
  refine z_aload_n C rfl 0 rfl dX12_init_78 ?_
  refine z_bipush C (v := 48) (by decide) dX12_init_79 ?_
  refine z_newarr C (t := 1) (by decide) rfl rfl rfl dX12_init_81 q_162 (by decide) (by decide) (by decide) rfl rfl rfl (hZ9 _ (Nat.le_refl _)) (hZL _ (Nat.le_refl _)) (znm (by decide)) (by decide) (fun _ _ h => h) ?_
  have hZ10 := zz_up hZ9
  have hZL := zzl_up hZL
  refine z_putF C hin zc_12 dX12_init_83 18 97 107 rfl (by decide) (by decide) rfl rfl q_1187 rfl rfl rfl rfl [(97, 19), (97, 20), (97, 21), (97, 22), (97, 23), (97, 24), (97, 25), (97, 26), (97, 27), (97, 28), (97, 31), (97, 32), (97, 33), (97, 34), (97, 36), (97, 37), (97, 40), (97, 41), (97, 42), (97, 43), (97, 44), (97, 45), (97, 54), (97, 55), (97, 56)] rfl ?_
  refine z_aload_n C rfl 0 rfl dX12_init_86 ?_
  refine z_bipush C (v := 48) (by decide) dX12_init_87 ?_
  refine z_newarr C (t := 1) (by decide) rfl rfl rfl dX12_init_89 q_162 (by decide) (by decide) (by decide) rfl rfl rfl (hZ10 _ (Nat.le_refl _)) (hZL _ (Nat.le_refl _)) (znm (by decide)) (by decide) (fun _ _ h => h) ?_
  have hZ11 := zz_up hZ10
  have hZL := zzl_up hZL
  refine z_putF C hin zc_12 dX12_init_91 19 97 108 rfl (by decide) (by decide) rfl rfl q_1188 rfl rfl rfl rfl [(97, 20), (97, 21), (97, 22), (97, 23), (97, 24), (97, 25), (97, 26), (97, 27), (97, 28), (97, 31), (97, 32), (97, 33), (97, 34), (97, 36), (97, 37), (97, 40), (97, 41), (97, 42), (97, 43), (97, 44), (97, 45), (97, 54), (97, 55), (97, 56)] rfl ?_
  refine z_aload_n C rfl 0 rfl dX12_init_94 ?_
  refine z_bipush C (v := 16) (by decide) dX12_init_95 ?_
  refine z_newarr C (t := 1) (by decide) rfl rfl rfl dX12_init_97 q_162 (by decide) (by decide) (by decide) rfl rfl rfl (hZ11 _ (Nat.le_refl _)) (hZL _ (Nat.le_refl _)) (znm (by decide)) (by decide) (fun _ _ h => h) ?_
  have hZ12 := zz_up hZ11
  have hZL := zzl_up hZL
  refine z_putF C hin zc_12 dX12_init_99 20 97 109 rfl (by decide) (by decide) rfl rfl q_1189 rfl rfl rfl rfl [(97, 21), (97, 22), (97, 23), (97, 24), (97, 25), (97, 26), (97, 27), (97, 28), (97, 31), (97, 32), (97, 33), (97, 34), (97, 36), (97, 37), (97, 40), (97, 41), (97, 42), (97, 43), (97, 44), (97, 45), (97, 54), (97, 55), (97, 56)] rfl ?_
  refine z_aload_n C rfl 0 rfl dX12_init_102 ?_
  refine z_bipush C (v := 32) (by decide) dX12_init_103 ?_
  refine z_newarr C (t := 1) (by decide) rfl rfl rfl dX12_init_105 q_162 (by decide) (by decide) (by decide) rfl rfl rfl (hZ12 _ (Nat.le_refl _)) (hZL _ (Nat.le_refl _)) (znm (by decide)) (by decide) (fun _ _ h => h) ?_
  have hZ13 := zz_up hZ12
  have hZL := zzl_up hZL
  refine z_putF C hin zc_12 dX12_init_107 21 97 110 rfl (by decide) (by decide) rfl rfl q_1190 rfl rfl rfl rfl [(97, 22), (97, 23), (97, 24), (97, 25), (97, 26), (97, 27), (97, 28), (97, 31), (97, 32), (97, 33), (97, 34), (97, 36), (97, 37), (97, 40), (97, 41), (97, 42), (97, 43), (97, 44), (97, 45), (97, 54), (97, 55), (97, 56)] rfl ?_
  refine z_aload_n C rfl 0 rfl dX12_init_110 ?_
  refine z_bipush C (v := 32) (by decide) dX12_init_111 ?_
  refine z_newarr C (t := 1) (by decide) rfl rfl rfl dX12_init_113 q_162 (by decide) (by decide) (by decide) rfl rfl rfl (hZ13 _ (Nat.le_refl _)) (hZL _ (Nat.le_refl _)) (znm (by decide)) (by decide) (fun _ _ h => h) ?_
  have hZ14 := zz_up hZ13
  have hZL := zzl_up hZL
  refine z_putF C hin zc_12 dX12_init_115 22 97 111 rfl (by decide) (by decide) rfl rfl q_1191 rfl rfl rfl rfl [(97, 23), (97, 24), (97, 25), (97, 26), (97, 27), (97, 28), (97, 31), (97, 32), (97, 33), (97, 34), (97, 36), (97, 37), (97, 40), (97, 41), (97, 42), (97, 43), (97, 44), (97, 45), (97, 54), (97, 55), (97, 56)] rfl ?_
  refine z_aload_n C rfl 0 rfl dX12_init_118 ?_
  refine z_bipush C (v := 32) (by decide) dX12_init_119 ?_
  refine z_newarr C (t := 1) (by decide) rfl rfl rfl dX12_init_121 q_162 (by decide) (by decide) (by decide) rfl rfl rfl (hZ14 _ (Nat.le_refl _)) (hZL _ (Nat.le_refl _)) (znm (by decide)) (by decide) (fun _ _ h => h) ?_
  have hZ15 := zz_up hZ14
  have hZL := zzl_up hZL
  refine z_putF C hin zc_12 dX12_init_123 23 97 112 rfl (by decide) (by decide) rfl rfl q_1192 rfl rfl rfl rfl [(97, 24), (97, 25), (97, 26), (97, 27), (97, 28), (97, 31), (97, 32), (97, 33), (97, 34), (97, 36), (97, 37), (97, 40), (97, 41), (97, 42), (97, 43), (97, 44), (97, 45), (97, 54), (97, 55), (97, 56)] rfl ?_
  refine z_aload_n C rfl 0 rfl dX12_init_126 ?_
  refine z_bipush C (v := 16) (by decide) dX12_init_127 ?_
  refine z_newarr C (t := 2) (by decide) rfl rfl rfl dX12_init_129 q_163 (by decide) (by decide) (by decide) rfl rfl rfl (hZ15 _ (Nat.le_refl _)) (hZL _ (Nat.le_refl _)) (znm (by decide)) (by decide) (fun _ _ h => h) ?_
  have hZ16 := zz_up hZ15
  have hZL := zzl_up hZL
  refine z_putF C hin zc_12 dX12_init_131 24 97 113 rfl (by decide) (by decide) rfl rfl q_1193 rfl rfl rfl rfl [(97, 25), (97, 26), (97, 27), (97, 28), (97, 31), (97, 32), (97, 33), (97, 34), (97, 36), (97, 37), (97, 40), (97, 41), (97, 42), (97, 43), (97, 44), (97, 45), (97, 54), (97, 55), (97, 56)] rfl ?_
  refine z_aload_n C rfl 0 rfl dX12_init_134 ?_
  refine z_bipush C (v := 16) (by decide) dX12_init_135 ?_
  refine z_newarr C (t := 1) (by decide) rfl rfl rfl dX12_init_137 q_162 (by decide) (by decide) (by decide) rfl rfl rfl (hZ16 _ (Nat.le_refl _)) (hZL _ (Nat.le_refl _)) (znm (by decide)) (by decide) (fun _ _ h => h) ?_
  have hZ17 := zz_up hZ16
  have hZL := zzl_up hZL
  refine z_putF C hin zc_12 dX12_init_139 25 97 114 rfl (by decide) (by decide) rfl rfl q_1194 rfl rfl rfl rfl [(97, 26), (97, 27), (97, 28), (97, 31), (97, 32), (97, 33), (97, 34), (97, 36), (97, 37), (97, 40), (97, 41), (97, 42), (97, 43), (97, 44), (97, 45), (97, 54), (97, 55), (97, 56)] rfl ?_
  refine z_aload_n C rfl 0 rfl dX12_init_142 ?_
  refine z_bipush C (v := 16) (by decide) dX12_init_143 ?_
  refine z_newarr C (t := 1) (by decide) rfl rfl rfl dX12_init_145 q_162 (by decide) (by decide) (by decide) rfl rfl rfl (hZ17 _ (Nat.le_refl _)) (hZL _ (Nat.le_refl _)) (znm (by decide)) (by decide) (fun _ _ h => h) ?_
  have hZ18 := zz_up hZ17
  have hZL := zzl_up hZL
  refine z_putF C hin zc_12 dX12_init_147 26 97 115 rfl (by decide) (by decide) rfl rfl q_1195 rfl rfl rfl rfl [(97, 27), (97, 28), (97, 31), (97, 32), (97, 33), (97, 34), (97, 36), (97, 37), (97, 40), (97, 41), (97, 42), (97, 43), (97, 44), (97, 45), (97, 54), (97, 55), (97, 56)] rfl ?_
  refine z_aload_n C rfl 0 rfl dX12_init_150 ?_
  refine z_bipush C (v := 64) (by decide) dX12_init_151 ?_
  refine z_newarr C (t := 1) (by decide) rfl rfl rfl dX12_init_153 q_162 (by decide) (by decide) (by decide) rfl rfl rfl (hZ18 _ (Nat.le_refl _)) (hZL _ (Nat.le_refl _)) (znm (by decide)) (by decide) (fun _ _ h => h) ?_
  have hZ19 := zz_up hZ18
  have hZL := zzl_up hZL
  refine z_putF C hin zc_12 dX12_init_155 27 97 116 rfl (by decide) (by decide) rfl rfl q_1196 rfl rfl rfl rfl [(97, 28), (97, 31), (97, 32), (97, 33), (97, 34), (97, 36), (97, 37), (97, 40), (97, 41), (97, 42), (97, 43), (97, 44), (97, 45), (97, 54), (97, 55), (97, 56)] rfl ?_
  refine z_aload_n C rfl 0 rfl dX12_init_158 ?_
  refine z_sipush C (v := 800) (by decide) dX12_init_159 ?_
  refine z_newarr C (t := 1) (by decide) rfl rfl rfl dX12_init_162 q_162 (by decide) (by decide) (by decide) rfl rfl rfl (hZ19 _ (Nat.le_refl _)) (hZL _ (Nat.le_refl _)) (znm (by decide)) (by decide) (fun _ _ h => h) ?_
  have hZ20 := zz_up hZ19
  have hZL := zzl_up hZL
  refine z_putF C hin zc_12 dX12_init_164 28 97 117 rfl (by decide) (by decide) rfl rfl q_1197 rfl rfl rfl rfl [(97, 31), (97, 32), (97, 33), (97, 34), (97, 36), (97, 37), (97, 40), (97, 41), (97, 42), (97, 43), (97, 44), (97, 45), (97, 54), (97, 55), (97, 56)] rfl ?_
  refine z_aload_n C rfl 0 rfl dX12_init_167 ?_
  refine z_ldc C dX12_init_168 q_1166 ?_
  refine z_newarr C (t := 3) (by decide) rfl rfl rfl dX12_init_170 q_1341 (by decide) (by decide) (by decide) rfl rfl rfl (hZ20 _ (Nat.le_refl _)) (hZL _ (Nat.le_refl _)) (znm (by decide)) (by decide) (fun _ _ h => h) ?_
  have hZ21 := zz_up hZ20
  have hZL := zzl_up hZL
  refine z_putF C hin zc_12 dX12_init_172 31 97 118 rfl (by decide) (by decide) rfl rfl q_1200 rfl rfl rfl rfl [(97, 32), (97, 33), (97, 34), (97, 36), (97, 37), (97, 40), (97, 41), (97, 42), (97, 43), (97, 44), (97, 45), (97, 54), (97, 55), (97, 56)] rfl ?_
  refine z_aload_n C rfl 0 rfl dX12_init_175 ?_
  refine z_ldc C dX12_init_176 q_1166 ?_
  refine z_newarr C (t := 1) (by decide) rfl rfl rfl dX12_init_178 q_162 (by decide) (by decide) (by decide) rfl rfl rfl (hZ21 _ (Nat.le_refl _)) (hZL _ (Nat.le_refl _)) (znm (by decide)) (by decide) (fun _ _ h => h) ?_
  have hZ22 := zz_up hZ21
  have hZL := zzl_up hZL
  refine z_putF C hin zc_12 dX12_init_180 32 97 119 rfl (by decide) (by decide) rfl rfl q_1201 rfl rfl rfl rfl [(97, 33), (97, 34), (97, 36), (97, 37), (97, 40), (97, 41), (97, 42), (97, 43), (97, 44), (97, 45), (97, 54), (97, 55), (97, 56)] rfl ?_
  refine z_aload_n C rfl 0 rfl dX12_init_183 ?_
  refine z_bipush C (v := 24) (by decide) dX12_init_184 ?_
  refine z_newarr C (t := 1) (by decide) rfl rfl rfl dX12_init_186 q_162 (by decide) (by decide) (by decide) rfl rfl rfl (hZ22 _ (Nat.le_refl _)) (hZL _ (Nat.le_refl _)) (znm (by decide)) (by decide) (fun _ _ h => h) ?_
  have hZ23 := zz_up hZ22
  have hZL := zzl_up hZL
  refine z_putF C hin zc_12 dX12_init_188 33 97 120 rfl (by decide) (by decide) rfl rfl q_1202 rfl rfl rfl rfl [(97, 34), (97, 36), (97, 37), (97, 40), (97, 41), (97, 42), (97, 43), (97, 44), (97, 45), (97, 54), (97, 55), (97, 56)] rfl ?_
  refine z_aload_n C rfl 0 rfl dX12_init_191 ?_
  refine z_bipush C (v := 8) (by decide) dX12_init_192 ?_
  refine z_newarr C (t := 1) (by decide) rfl rfl rfl dX12_init_194 q_162 (by decide) (by decide) (by decide) rfl rfl rfl (hZ23 _ (Nat.le_refl _)) (hZL _ (Nat.le_refl _)) (znm (by decide)) (by decide) (fun _ _ h => h) ?_
  have hZ24 := zz_up hZ23
  have hZL := zzl_up hZL
  refine z_putF C hin zc_12 dX12_init_196 34 97 121 rfl (by decide) (by decide) rfl rfl q_1203 rfl rfl rfl rfl [(97, 36), (97, 37), (97, 40), (97, 41), (97, 42), (97, 43), (97, 44), (97, 45), (97, 54), (97, 55), (97, 56)] rfl ?_
  refine z_aload_n C rfl 0 rfl dX12_init_199 ?_
  refine z_ldc C dX12_init_200 q_1167 ?_
  refine z_newarr C (t := 1) (by decide) rfl rfl rfl dX12_init_202 q_162 (by decide) (by decide) (by decide) rfl rfl rfl (hZ24 _ (Nat.le_refl _)) (hZL _ (Nat.le_refl _)) (znm (by decide)) (by decide) (fun _ _ h => h) ?_
  have hZ25 := zz_up hZ24
  have hZL := zzl_up hZL
  refine z_putF C hin zc_12 dX12_init_204 36 97 122 rfl (by decide) (by decide) rfl rfl q_1205 rfl rfl rfl rfl [(97, 37), (97, 40), (97, 41), (97, 42), (97, 43), (97, 44), (97, 45), (97, 54), (97, 55), (97, 56)] rfl ?_
  refine z_aload_n C rfl 0 rfl dX12_init_207 ?_
  refine z_ldc C dX12_init_208 q_1167 ?_
  refine z_newarr C (t := 1) (by decide) rfl rfl rfl dX12_init_210 q_162 (by decide) (by decide) (by decide) rfl rfl rfl (hZ25 _ (Nat.le_refl _)) (hZL _ (Nat.le_refl _)) (znm (by decide)) (by decide) (fun _ _ h => h) ?_
  have hZ26 := zz_up hZ25
  have hZL := zzl_up hZL
  refine z_putF C hin zc_12 dX12_init_212 37 97 123 rfl (by decide) (by decide) rfl rfl q_1206 rfl rfl rfl rfl [(97, 40), (97, 41), (97, 42), (97, 43), (97, 44), (97, 45), (97, 54), (97, 55), (97, 56)] rfl ?_
  refine z_aload_n C rfl 0 rfl dX12_init_215 ?_
  refine z_sipush C (v := 300) (by decide) dX12_init_216 ?_
  refine z_newarr C (t := 1) (by decide) rfl rfl rfl dX12_init_219 q_162 (by decide) (by decide) (by decide) rfl rfl rfl (hZ26 _ (Nat.le_refl _)) (hZL _ (Nat.le_refl _)) (znm (by decide)) (by decide) (fun _ _ h => h) ?_
  have hZ27 := zz_up hZ26
  have hZL := zzl_up hZL
  refine z_putF C hin zc_12 dX12_init_221 40 97 124 rfl (by decide) (by decide) rfl rfl q_1209 rfl rfl rfl rfl [(97, 41), (97, 42), (97, 43), (97, 44), (97, 45), (97, 54), (97, 55), (97, 56)] rfl ?_
  refine z_aload_n C rfl 0 rfl dX12_init_224 ?_
  refine z_sipush C (v := 300) (by decide) dX12_init_225 ?_
  refine z_newarr C (t := 1) (by decide) rfl rfl rfl dX12_init_228 q_162 (by decide) (by decide) (by decide) rfl rfl rfl (hZ27 _ (Nat.le_refl _)) (hZL _ (Nat.le_refl _)) (znm (by decide)) (by decide) (fun _ _ h => h) ?_
  have hZ28 := zz_up hZ27
  have hZL := zzl_up hZL
  refine z_putF C hin zc_12 dX12_init_230 41 97 125 rfl (by decide) (by decide) rfl rfl q_1210 rfl rfl rfl rfl [(97, 42), (97, 43), (97, 44), (97, 45), (97, 54), (97, 55), (97, 56)] rfl ?_
  refine z_aload_n C rfl 0 rfl dX12_init_233 ?_
  refine z_sipush C (v := 300) (by decide) dX12_init_234 ?_
  refine z_newarr C (t := 1) (by decide) rfl rfl rfl dX12_init_237 q_162 (by decide) (by decide) (by decide) rfl rfl rfl (hZ28 _ (Nat.le_refl _)) (hZL _ (Nat.le_refl _)) (znm (by decide)) (by decide) (fun _ _ h => h) ?_
  have hZ29 := zz_up hZ28
  have hZL := zzl_up hZL
  refine z_putF C hin zc_12 dX12_init_239 42 97 126 rfl (by decide) (by decide) rfl rfl q_1211 rfl rfl rfl rfl [(97, 43), (97, 44), (97, 45), (97, 54), (97, 55), (97, 56)] rfl ?_
  refine z_aload_n C rfl 0 rfl dX12_init_242 ?_
  refine z_sipush C (v := 300) (by decide) dX12_init_243 ?_
  refine z_newarr C (t := 3) (by decide) rfl rfl rfl dX12_init_246 q_1341 (by decide) (by decide) (by decide) rfl rfl rfl (hZ29 _ (Nat.le_refl _)) (hZL _ (Nat.le_refl _)) (znm (by decide)) (by decide) (fun _ _ h => h) ?_
  have hZ30 := zz_up hZ29
  have hZL := zzl_up hZL
  refine z_putF C hin zc_12 dX12_init_248 43 97 127 rfl (by decide) (by decide) rfl rfl q_1212 rfl rfl rfl rfl [(97, 44), (97, 45), (97, 54), (97, 55), (97, 56)] rfl ?_
  refine z_aload_n C rfl 0 rfl dX12_init_251 ?_
  refine z_sipush C (v := 1200) (by decide) dX12_init_252 ?_
  refine z_newarr C (t := 1) (by decide) rfl rfl rfl dX12_init_255 q_162 (by decide) (by decide) (by decide) rfl rfl rfl (hZ30 _ (Nat.le_refl _)) (hZL _ (Nat.le_refl _)) (znm (by decide)) (by decide) (fun _ _ h => h) ?_
  have hZ31 := zz_up hZ30
  have hZL := zzl_up hZL
  refine z_putF C hin zc_12 dX12_init_257 44 97 128 rfl (by decide) (by decide) rfl rfl q_1213 rfl rfl rfl rfl [(97, 45), (97, 54), (97, 55), (97, 56)] rfl ?_
  refine z_aload_n C rfl 0 rfl dX12_init_260 ?_
  refine z_sipush C (v := 900) (by decide) dX12_init_261 ?_
  refine z_newarr C (t := 2) (by decide) rfl rfl rfl dX12_init_264 q_163 (by decide) (by decide) (by decide) rfl rfl rfl (hZ31 _ (Nat.le_refl _)) (hZL _ (Nat.le_refl _)) (znm (by decide)) (by decide) (fun _ _ h => h) ?_
  have hZ32 := zz_up hZ31
  have hZL := zzl_up hZL
  refine z_putF C hin zc_12 dX12_init_266 45 97 129 rfl (by decide) (by decide) rfl rfl q_1214 rfl rfl rfl rfl [(97, 54), (97, 55), (97, 56)] rfl ?_
  refine z_aload_n C rfl 0 rfl dX12_init_269 ?_
  refine z_sipush C (v := 4096) (by decide) dX12_init_270 ?_
  refine z_newarr C (t := 1) (by decide) rfl rfl rfl dX12_init_273 q_162 (by decide) (by decide) (by decide) rfl rfl rfl (hZ32 _ (Nat.le_refl _)) (hZL _ (Nat.le_refl _)) (znm (by decide)) (by decide) (fun _ _ h => h) ?_
  have hZ33 := zz_up hZ32
  have hZL := zzl_up hZL
  refine z_putF C hin zc_12 dX12_init_275 54 97 130 rfl (by decide) (by decide) rfl rfl q_1223 rfl rfl rfl rfl [(97, 55), (97, 56)] rfl ?_
  refine z_aload_n C rfl 0 rfl dX12_init_278 ?_
  refine z_sipush C (v := 4096) (by decide) dX12_init_279 ?_
  refine z_newarr C (t := 1) (by decide) rfl rfl rfl dX12_init_282 q_162 (by decide) (by decide) (by decide) rfl rfl rfl (hZ33 _ (Nat.le_refl _)) (hZL _ (Nat.le_refl _)) (znm (by decide)) (by decide) (fun _ _ h => h) ?_
  have hZ34 := zz_up hZ33
  have hZL := zzl_up hZL
  refine z_putF C hin zc_12 dX12_init_284 55 97 131 rfl (by decide) (by decide) rfl rfl q_1224 rfl rfl rfl rfl [(97, 56)] rfl ?_
  refine z_aload_n C rfl 0 rfl dX12_init_287 ?_
  refine z_sipush C (v := 4096) (by decide) dX12_init_288 ?_
  refine z_newarr C (t := 3) (by decide) rfl rfl rfl dX12_init_291 q_1341 (by decide) (by decide) (by decide) rfl rfl rfl (hZ34 _ (Nat.le_refl _)) (hZL _ (Nat.le_refl _)) (znm (by decide)) (by decide) (fun _ _ h => h) ?_
  have hZ35 := zz_up hZ34
  have hZL := zzl_up hZL
  refine z_putF C hin zc_12 dX12_init_293 56 97 132 rfl (by decide) (by decide) rfl rfl q_1225 rfl rfl rfl rfl [] rfl ?_
  refine z_aload_n C rfl 0 rfl dX12_init_296 ?_
  refine z_iload_n C rfl 1 rfl dX12_init_297 ?_
  refine z_iconst C (v := 1) (by decide) dX12_init_298 ?_
  refine z_icmp_ge C 306 (by decide) dX12_init_299 (fun hc => ?_) (fun hc => ?_)
  · refine z_iload_n C rfl 1 rfl dX12_init_306 ?_
    refine z_ldc C dX12_init_307 q_1168 ?_
    refine z_icmp_le C 317 (by decide) dX12_init_309 (fun hc2 => ?_) (fun hc2 => ?_)
    · refine z_iload_n C rfl 1 rfl dX12_init_317 ?_
      refine z_eqi C (x := zclp b1) (zclp_3 hc hc2) ?_
      refine z_putFi C hin zc_12 dX12_init_318 1 97 rfl (by decide) (by decide) rfl rfl q_1170 rfl rfl rfl ?_
      exact z_vret C dX12_init_321 rfl rfl
    · refine z_ldc C dX12_init_312 q_1168 ?_
      refine z_goto C 318 (by decide) dX12_init_314 ?_
      refine z_eqi C (x := zclp b1) (zclp_2 hc hc2) ?_
      refine z_putFi C hin zc_12 dX12_init_318 1 97 rfl (by decide) (by decide) rfl rfl q_1170 rfl rfl rfl ?_
      exact z_vret C dX12_init_321 rfl rfl
  · refine z_iconst C (v := 1) (by decide) dX12_init_302 ?_
    refine z_goto C 318 (by decide) dX12_init_303 ?_
    refine z_eqi C (x := zclp b1) (zclp_1 hc) ?_
    refine z_putFi C hin zc_12 dX12_init_318 1 97 rfl (by decide) (by decide) rfl rfl q_1170 rfl rfl rfl ?_
    exact z_vret C dX12_init_321 rfl rfl
end Zc1
