section Zw6
variable {p : Program} {l : Launch} {e : Env} {R : Room} {s : State} {m : MethodId} {args : Array Value} {below : List Frame} {meth : Method} {c : Code} {s0 : State} {a0 : Array Value} {d : va_G} {cy : Nat → ClassId} {B0 : Nat} {own : String} {ret : Option FieldType} {tb : List ExceptionTableEntry} {Q : State → Prop} {bc bs : Nat} {I : zI} {L : zL}
theorem q_503 : (Cond.methodLink "DeviceFindLaw" (75 : Nat) ({ cls := "DeviceFind", name := "unit", desc := "(I)Z" } : Jvm.MethodName)) ∈ lw_tbl := List.mem_of_getElem? (i := 503) (by decide +kernel)
theorem q_504 : (Cond.instanceMethod ({ cls := "DeviceFind", name := "unit", desc := "(I)Z" } : Jvm.MethodName)) ∈ lw_tbl := List.mem_of_getElem? (i := 504) (by decide +kernel)
theorem q_505 : (Cond.selects "DeviceFind" ({ cls := "DeviceFind", name := "unit", desc := "(I)Z" } : Jvm.MethodName) ({ cls := "DeviceFind", name := "unit", desc := "(I)Z" } : Jvm.MethodName)) ∈ lw_tbl := List.mem_of_getElem? (i := 505) (by decide +kernel)
theorem q_511 : (Cond.methodLink "DeviceFindLaw" (80 : Nat) ({ cls := "DeviceFind", name := "units", desc := "(I)Z" } : Jvm.MethodName)) ∈ lw_tbl := List.mem_of_getElem? (i := 511) (by decide +kernel)
theorem q_512 : (Cond.instanceMethod ({ cls := "DeviceFind", name := "units", desc := "(I)Z" } : Jvm.MethodName)) ∈ lw_tbl := List.mem_of_getElem? (i := 512) (by decide +kernel)
theorem q_513 : (Cond.selects "DeviceFind" ({ cls := "DeviceFind", name := "units", desc := "(I)Z" } : Jvm.MethodName) ({ cls := "DeviceFind", name := "units", desc := "(I)Z" } : Jvm.MethodName)) ∈ lw_tbl := List.mem_of_getElem? (i := 513) (by decide +kernel)
theorem q_520 : (Cond.methodLink "DeviceFindLaw" (84 : Nat) ({ cls := "DeviceFind", name := "read", desc := "()I" } : Jvm.MethodName)) ∈ lw_tbl := List.mem_of_getElem? (i := 520) (by decide +kernel)
theorem q_521 : (Cond.instanceMethod ({ cls := "DeviceFind", name := "read", desc := "()I" } : Jvm.MethodName)) ∈ lw_tbl := List.mem_of_getElem? (i := 521) (by decide +kernel)
theorem q_522 : (Cond.selects "DeviceFind" ({ cls := "DeviceFind", name := "read", desc := "()I" } : Jvm.MethodName) ({ cls := "DeviceFind", name := "read", desc := "()I" } : Jvm.MethodName)) ∈ lw_tbl := List.mem_of_getElem? (i := 522) (by decide +kernel)
theorem q_717 : (Cond.methodLink "DeviceFindLaw" (88 : Nat) ({ cls := "DeviceFindLaw", name := "polygon", desc := "(LDeviceFind;I[J)I" } : Jvm.MethodName)) ∈ lw_tbl := List.mem_of_getElem? (i := 717) (by decide +kernel)
theorem q_718 : (Cond.static ({ cls := "DeviceFindLaw", name := "polygon", desc := "(LDeviceFind;I[J)I" } : Jvm.MethodName)) ∈ lw_tbl := List.mem_of_getElem? (i := 718) (by decide +kernel)
theorem q_815 : (Cond.methodLink "DeviceFindLaw" (97 : Nat) ({ cls := "DeviceFindLaw", name := "corner", desc := "(LDeviceFind;IJJ[J)I" } : Jvm.MethodName)) ∈ lw_tbl := List.mem_of_getElem? (i := 815) (by decide +kernel)
theorem q_816 : (Cond.static ({ cls := "DeviceFindLaw", name := "corner", desc := "(LDeviceFind;IJJ[J)I" } : Jvm.MethodName)) ∈ lw_tbl := List.mem_of_getElem? (i := 816) (by decide +kernel)
theorem q_847 : (Cond.methodLink "DeviceFindLaw" (101 : Nat) ({ cls := "DeviceFindLaw", name := "text", desc := "(LDeviceFind;IJJI[J)I" } : Jvm.MethodName)) ∈ lw_tbl := List.mem_of_getElem? (i := 847) (by decide +kernel)
theorem q_848 : (Cond.static ({ cls := "DeviceFindLaw", name := "text", desc := "(LDeviceFind;IJJI[J)I" } : Jvm.MethodName)) ∈ lw_tbl := List.mem_of_getElem? (i := 848) (by decide +kernel)
theorem q_864 : (Cond.methodLink "DeviceFindLaw" (105 : Nat) ({ cls := "DeviceFindLaw", name := "run", desc := "(LDeviceFind;[J)I" } : Jvm.MethodName)) ∈ lw_tbl := List.mem_of_getElem? (i := 864) (by decide +kernel)
theorem q_865 : (Cond.static ({ cls := "DeviceFindLaw", name := "run", desc := "(LDeviceFind;[J)I" } : Jvm.MethodName)) ∈ lw_tbl := List.mem_of_getElem? (i := 865) (by decide +kernel)
theorem q_1071 : (Cond.methodLink "DeviceFindLaw" (109 : Nat) ({ cls := "DeviceFindLaw", name := "device", desc := "(LDeviceFind;II[J)I" } : Jvm.MethodName)) ∈ lw_tbl := List.mem_of_getElem? (i := 1071) (by decide +kernel)
theorem q_1072 : (Cond.static ({ cls := "DeviceFindLaw", name := "device", desc := "(LDeviceFind;II[J)I" } : Jvm.MethodName)) ∈ lw_tbl := List.mem_of_getElem? (i := 1072) (by decide +kernel)
theorem q_1080 : (Cond.methodLink "DeviceFindLaw" (113 : Nat) ({ cls := "DeviceFindLaw", name := "size", desc := "(LDeviceFind;II[J)I" } : Jvm.MethodName)) ∈ lw_tbl := List.mem_of_getElem? (i := 1080) (by decide +kernel)
theorem q_1081 : (Cond.static ({ cls := "DeviceFindLaw", name := "size", desc := "(LDeviceFind;II[J)I" } : Jvm.MethodName)) ∈ lw_tbl := List.mem_of_getElem? (i := 1081) (by decide +kernel)
theorem q_1087 : (Cond.methodLink "DeviceFindLaw" (116 : Nat) ({ cls := "DeviceFindLaw", name := "pin", desc := "(LDeviceFind;II[J)I" } : Jvm.MethodName)) ∈ lw_tbl := List.mem_of_getElem? (i := 1087) (by decide +kernel)
theorem q_1088 : (Cond.static ({ cls := "DeviceFindLaw", name := "pin", desc := "(LDeviceFind;II[J)I" } : Jvm.MethodName)) ∈ lw_tbl := List.mem_of_getElem? (i := 1088) (by decide +kernel)
theorem q_1094 : (Cond.methodLink "DeviceFindLaw" (119 : Nat) ({ cls := "DeviceFindLaw", name := "net", desc := "(LDeviceFind;IJJ[J)I" } : Jvm.MethodName)) ∈ lw_tbl := List.mem_of_getElem? (i := 1094) (by decide +kernel)
theorem q_1095 : (Cond.static ({ cls := "DeviceFindLaw", name := "net", desc := "(LDeviceFind;IJJ[J)I" } : Jvm.MethodName)) ∈ lw_tbl := List.mem_of_getElem? (i := 1095) (by decide +kernel)
theorem q_1102 : (Cond.methodLink "DeviceFindLaw" (122 : Nat) ({ cls := "DeviceFindLaw", name := "named", desc := "(LDeviceFind;I[J)I" } : Jvm.MethodName)) ∈ lw_tbl := List.mem_of_getElem? (i := 1102) (by decide +kernel)
theorem q_1103 : (Cond.static ({ cls := "DeviceFindLaw", name := "named", desc := "(LDeviceFind;I[J)I" } : Jvm.MethodName)) ∈ lw_tbl := List.mem_of_getElem? (i := 1103) (by decide +kernel)
theorem q_1113 : (Cond.methodLink "DeviceFindLaw" (125 : Nat) ({ cls := "DeviceFindLaw", name := "twice", desc := "(LDeviceFind;I[J)I" } : Jvm.MethodName)) ∈ lw_tbl := List.mem_of_getElem? (i := 1113) (by decide +kernel)
theorem q_1114 : (Cond.static ({ cls := "DeviceFindLaw", name := "twice", desc := "(LDeviceFind;I[J)I" } : Jvm.MethodName)) ∈ lw_tbl := List.mem_of_getElem? (i := 1114) (by decide +kernel)
theorem q_1135 : (Cond.methodLink "DeviceFindLaw" (128 : Nat) ({ cls := "DeviceFindLaw", name := "bad", desc := "(LDeviceFind;I[J)I" } : Jvm.MethodName)) ∈ lw_tbl := List.mem_of_getElem? (i := 1135) (by decide +kernel)
theorem q_1136 : (Cond.static ({ cls := "DeviceFindLaw", name := "bad", desc := "(LDeviceFind;I[J)I" } : Jvm.MethodName)) ∈ lw_tbl := List.mem_of_getElem? (i := 1136) (by decide +kernel)
theorem q_1146 : (Cond.methodLink "DeviceFindLaw" (131 : Nat) ({ cls := "DeviceFindLaw", name := "joined", desc := "(LDeviceFind;I[J)I" } : Jvm.MethodName)) ∈ lw_tbl := List.mem_of_getElem? (i := 1146) (by decide +kernel)
theorem q_1147 : (Cond.static ({ cls := "DeviceFindLaw", name := "joined", desc := "(LDeviceFind;I[J)I" } : Jvm.MethodName)) ∈ lw_tbl := List.mem_of_getElem? (i := 1147) (by decide +kernel)
theorem q_1153 : (Cond.methodLink "DeviceFindLaw" (134 : Nat) ({ cls := "DeviceFindLaw", name := "count", desc := "(LDeviceFind;I[J)I" } : Jvm.MethodName)) ∈ lw_tbl := List.mem_of_getElem? (i := 1153) (by decide +kernel)
theorem q_1154 : (Cond.static ({ cls := "DeviceFindLaw", name := "count", desc := "(LDeviceFind;I[J)I" } : Jvm.MethodName)) ∈ lw_tbl := List.mem_of_getElem? (i := 1154) (by decide +kernel)
theorem q_1342 : (Cond.methodLink "DeviceFindLaw" (92 : Nat) ({ cls := "DeviceFindModel", name := "thrown", desc := "()I" } : Jvm.MethodName)) ∈ lw_tbl := List.mem_of_getElem? (i := 1342) (by decide +kernel)
theorem q_1343 : (Cond.instanceMethod ({ cls := "DeviceFindModel", name := "thrown", desc := "()I" } : Jvm.MethodName)) ∈ lw_tbl := List.mem_of_getElem? (i := 1343) (by decide +kernel)
theorem q_1344 : (Cond.selects "DeviceFindModel" ({ cls := "DeviceFindModel", name := "thrown", desc := "()I" } : Jvm.MethodName) ({ cls := "DeviceFindModel", name := "thrown", desc := "()I" } : Jvm.MethodName)) ∈ lw_tbl := List.mem_of_getElem? (i := 1344) (by decide +kernel)
theorem q_1346 : (Cond.methodLink "DeviceFindLaw" (91 : Nat) ({ cls := "DeviceFindModel", name := "polygon", desc := "(I)I" } : Jvm.MethodName)) ∈ lw_tbl := List.mem_of_getElem? (i := 1346) (by decide +kernel)
theorem q_1347 : (Cond.instanceMethod ({ cls := "DeviceFindModel", name := "polygon", desc := "(I)I" } : Jvm.MethodName)) ∈ lw_tbl := List.mem_of_getElem? (i := 1347) (by decide +kernel)
theorem q_1348 : (Cond.selects "DeviceFindModel" ({ cls := "DeviceFindModel", name := "polygon", desc := "(I)I" } : Jvm.MethodName) ({ cls := "DeviceFindModel", name := "polygon", desc := "(I)I" } : Jvm.MethodName)) ∈ lw_tbl := List.mem_of_getElem? (i := 1348) (by decide +kernel)
theorem q_1350 : (Cond.methodLink "DeviceFindLaw" (100 : Nat) ({ cls := "DeviceFindModel", name := "corner", desc := "(IJJ)Z" } : Jvm.MethodName)) ∈ lw_tbl := List.mem_of_getElem? (i := 1350) (by decide +kernel)
theorem q_1351 : (Cond.instanceMethod ({ cls := "DeviceFindModel", name := "corner", desc := "(IJJ)Z" } : Jvm.MethodName)) ∈ lw_tbl := List.mem_of_getElem? (i := 1351) (by decide +kernel)
theorem q_1352 : (Cond.selects "DeviceFindModel" ({ cls := "DeviceFindModel", name := "corner", desc := "(IJJ)Z" } : Jvm.MethodName) ({ cls := "DeviceFindModel", name := "corner", desc := "(IJJ)Z" } : Jvm.MethodName)) ∈ lw_tbl := List.mem_of_getElem? (i := 1352) (by decide +kernel)
theorem q_1355 : (Cond.methodLink "DeviceFindLaw" (104 : Nat) ({ cls := "DeviceFindModel", name := "text", desc := "(IJJI)I" } : Jvm.MethodName)) ∈ lw_tbl := List.mem_of_getElem? (i := 1355) (by decide +kernel)
theorem q_1356 : (Cond.instanceMethod ({ cls := "DeviceFindModel", name := "text", desc := "(IJJI)I" } : Jvm.MethodName)) ∈ lw_tbl := List.mem_of_getElem? (i := 1356) (by decide +kernel)
theorem q_1357 : (Cond.selects "DeviceFindModel" ({ cls := "DeviceFindModel", name := "text", desc := "(IJJI)I" } : Jvm.MethodName) ({ cls := "DeviceFindModel", name := "text", desc := "(IJJI)I" } : Jvm.MethodName)) ∈ lw_tbl := List.mem_of_getElem? (i := 1357) (by decide +kernel)
theorem q_1362 : (Cond.methodLink "DeviceFindLaw" (79 : Nat) ({ cls := "DeviceFindModel", name := "unit", desc := "(I)Z" } : Jvm.MethodName)) ∈ lw_tbl := List.mem_of_getElem? (i := 1362) (by decide +kernel)
theorem q_1363 : (Cond.instanceMethod ({ cls := "DeviceFindModel", name := "unit", desc := "(I)Z" } : Jvm.MethodName)) ∈ lw_tbl := List.mem_of_getElem? (i := 1363) (by decide +kernel)
theorem q_1364 : (Cond.selects "DeviceFindModel" ({ cls := "DeviceFindModel", name := "unit", desc := "(I)Z" } : Jvm.MethodName) ({ cls := "DeviceFindModel", name := "unit", desc := "(I)Z" } : Jvm.MethodName)) ∈ lw_tbl := List.mem_of_getElem? (i := 1364) (by decide +kernel)
theorem q_1369 : (Cond.methodLink "DeviceFindLaw" (83 : Nat) ({ cls := "DeviceFindModel", name := "units", desc := "(I)Z" } : Jvm.MethodName)) ∈ lw_tbl := List.mem_of_getElem? (i := 1369) (by decide +kernel)
theorem q_1370 : (Cond.instanceMethod ({ cls := "DeviceFindModel", name := "units", desc := "(I)Z" } : Jvm.MethodName)) ∈ lw_tbl := List.mem_of_getElem? (i := 1370) (by decide +kernel)
theorem q_1371 : (Cond.selects "DeviceFindModel" ({ cls := "DeviceFindModel", name := "units", desc := "(I)Z" } : Jvm.MethodName) ({ cls := "DeviceFindModel", name := "units", desc := "(I)Z" } : Jvm.MethodName)) ∈ lw_tbl := List.mem_of_getElem? (i := 1371) (by decide +kernel)
theorem q_1373 : (Cond.methodLink "DeviceFindLaw" (87 : Nat) ({ cls := "DeviceFindModel", name := "read", desc := "()I" } : Jvm.MethodName)) ∈ lw_tbl := List.mem_of_getElem? (i := 1373) (by decide +kernel)
theorem q_1374 : (Cond.instanceMethod ({ cls := "DeviceFindModel", name := "read", desc := "()I" } : Jvm.MethodName)) ∈ lw_tbl := List.mem_of_getElem? (i := 1374) (by decide +kernel)
theorem q_1375 : (Cond.selects "DeviceFindModel" ({ cls := "DeviceFindModel", name := "read", desc := "()I" } : Jvm.MethodName) ({ cls := "DeviceFindModel", name := "read", desc := "()I" } : Jvm.MethodName)) ∈ lw_tbl := List.mem_of_getElem? (i := 1375) (by decide +kernel)
theorem q_1449 : (Cond.methodLink "DeviceFindLaw" (108 : Nat) ({ cls := "DeviceFindModel", name := "run", desc := "()I" } : Jvm.MethodName)) ∈ lw_tbl := List.mem_of_getElem? (i := 1449) (by decide +kernel)
theorem q_1450 : (Cond.instanceMethod ({ cls := "DeviceFindModel", name := "run", desc := "()I" } : Jvm.MethodName)) ∈ lw_tbl := List.mem_of_getElem? (i := 1450) (by decide +kernel)
theorem q_1451 : (Cond.selects "DeviceFindModel" ({ cls := "DeviceFindModel", name := "run", desc := "()I" } : Jvm.MethodName) ({ cls := "DeviceFindModel", name := "run", desc := "()I" } : Jvm.MethodName)) ∈ lw_tbl := List.mem_of_getElem? (i := 1451) (by decide +kernel)
theorem q_1505 : (Cond.methodLink "DeviceFindLaw" (112 : Nat) ({ cls := "DeviceFindModel", name := "device", desc := "(II)I" } : Jvm.MethodName)) ∈ lw_tbl := List.mem_of_getElem? (i := 1505) (by decide +kernel)
theorem q_1506 : (Cond.instanceMethod ({ cls := "DeviceFindModel", name := "device", desc := "(II)I" } : Jvm.MethodName)) ∈ lw_tbl := List.mem_of_getElem? (i := 1506) (by decide +kernel)
theorem q_1507 : (Cond.selects "DeviceFindModel" ({ cls := "DeviceFindModel", name := "device", desc := "(II)I" } : Jvm.MethodName) ({ cls := "DeviceFindModel", name := "device", desc := "(II)I" } : Jvm.MethodName)) ∈ lw_tbl := List.mem_of_getElem? (i := 1507) (by decide +kernel)
theorem q_1513 : (Cond.methodLink "DeviceFindLaw" (115 : Nat) ({ cls := "DeviceFindModel", name := "size", desc := "(II)J" } : Jvm.MethodName)) ∈ lw_tbl := List.mem_of_getElem? (i := 1513) (by decide +kernel)
theorem q_1514 : (Cond.instanceMethod ({ cls := "DeviceFindModel", name := "size", desc := "(II)J" } : Jvm.MethodName)) ∈ lw_tbl := List.mem_of_getElem? (i := 1514) (by decide +kernel)
theorem q_1515 : (Cond.selects "DeviceFindModel" ({ cls := "DeviceFindModel", name := "size", desc := "(II)J" } : Jvm.MethodName) ({ cls := "DeviceFindModel", name := "size", desc := "(II)J" } : Jvm.MethodName)) ∈ lw_tbl := List.mem_of_getElem? (i := 1515) (by decide +kernel)
theorem q_1517 : (Cond.methodLink "DeviceFindLaw" (118 : Nat) ({ cls := "DeviceFindModel", name := "pin", desc := "(II)I" } : Jvm.MethodName)) ∈ lw_tbl := List.mem_of_getElem? (i := 1517) (by decide +kernel)
theorem q_1518 : (Cond.instanceMethod ({ cls := "DeviceFindModel", name := "pin", desc := "(II)I" } : Jvm.MethodName)) ∈ lw_tbl := List.mem_of_getElem? (i := 1518) (by decide +kernel)
theorem q_1519 : (Cond.selects "DeviceFindModel" ({ cls := "DeviceFindModel", name := "pin", desc := "(II)I" } : Jvm.MethodName) ({ cls := "DeviceFindModel", name := "pin", desc := "(II)I" } : Jvm.MethodName)) ∈ lw_tbl := List.mem_of_getElem? (i := 1519) (by decide +kernel)
theorem q_1525 : (Cond.methodLink "DeviceFindLaw" (121 : Nat) ({ cls := "DeviceFindModel", name := "net", desc := "(IJJ)I" } : Jvm.MethodName)) ∈ lw_tbl := List.mem_of_getElem? (i := 1525) (by decide +kernel)
theorem q_1526 : (Cond.instanceMethod ({ cls := "DeviceFindModel", name := "net", desc := "(IJJ)I" } : Jvm.MethodName)) ∈ lw_tbl := List.mem_of_getElem? (i := 1526) (by decide +kernel)
theorem q_1527 : (Cond.selects "DeviceFindModel" ({ cls := "DeviceFindModel", name := "net", desc := "(IJJ)I" } : Jvm.MethodName) ({ cls := "DeviceFindModel", name := "net", desc := "(IJJ)I" } : Jvm.MethodName)) ∈ lw_tbl := List.mem_of_getElem? (i := 1527) (by decide +kernel)
theorem q_1529 : (Cond.methodLink "DeviceFindLaw" (124 : Nat) ({ cls := "DeviceFindModel", name := "named", desc := "(I)I" } : Jvm.MethodName)) ∈ lw_tbl := List.mem_of_getElem? (i := 1529) (by decide +kernel)
theorem q_1530 : (Cond.instanceMethod ({ cls := "DeviceFindModel", name := "named", desc := "(I)I" } : Jvm.MethodName)) ∈ lw_tbl := List.mem_of_getElem? (i := 1530) (by decide +kernel)
theorem q_1531 : (Cond.selects "DeviceFindModel" ({ cls := "DeviceFindModel", name := "named", desc := "(I)I" } : Jvm.MethodName) ({ cls := "DeviceFindModel", name := "named", desc := "(I)I" } : Jvm.MethodName)) ∈ lw_tbl := List.mem_of_getElem? (i := 1531) (by decide +kernel)
theorem q_1537 : (Cond.methodLink "DeviceFindLaw" (127 : Nat) ({ cls := "DeviceFindModel", name := "twice", desc := "(I)I" } : Jvm.MethodName)) ∈ lw_tbl := List.mem_of_getElem? (i := 1537) (by decide +kernel)
theorem q_1538 : (Cond.instanceMethod ({ cls := "DeviceFindModel", name := "twice", desc := "(I)I" } : Jvm.MethodName)) ∈ lw_tbl := List.mem_of_getElem? (i := 1538) (by decide +kernel)
theorem q_1539 : (Cond.selects "DeviceFindModel" ({ cls := "DeviceFindModel", name := "twice", desc := "(I)I" } : Jvm.MethodName) ({ cls := "DeviceFindModel", name := "twice", desc := "(I)I" } : Jvm.MethodName)) ∈ lw_tbl := List.mem_of_getElem? (i := 1539) (by decide +kernel)
theorem q_1541 : (Cond.methodLink "DeviceFindLaw" (130 : Nat) ({ cls := "DeviceFindModel", name := "bad", desc := "(I)I" } : Jvm.MethodName)) ∈ lw_tbl := List.mem_of_getElem? (i := 1541) (by decide +kernel)
theorem q_1542 : (Cond.instanceMethod ({ cls := "DeviceFindModel", name := "bad", desc := "(I)I" } : Jvm.MethodName)) ∈ lw_tbl := List.mem_of_getElem? (i := 1542) (by decide +kernel)
theorem q_1543 : (Cond.selects "DeviceFindModel" ({ cls := "DeviceFindModel", name := "bad", desc := "(I)I" } : Jvm.MethodName) ({ cls := "DeviceFindModel", name := "bad", desc := "(I)I" } : Jvm.MethodName)) ∈ lw_tbl := List.mem_of_getElem? (i := 1543) (by decide +kernel)
theorem q_1545 : (Cond.methodLink "DeviceFindLaw" (133 : Nat) ({ cls := "DeviceFindModel", name := "joined", desc := "(I)I" } : Jvm.MethodName)) ∈ lw_tbl := List.mem_of_getElem? (i := 1545) (by decide +kernel)
theorem q_1546 : (Cond.instanceMethod ({ cls := "DeviceFindModel", name := "joined", desc := "(I)I" } : Jvm.MethodName)) ∈ lw_tbl := List.mem_of_getElem? (i := 1546) (by decide +kernel)
theorem q_1547 : (Cond.selects "DeviceFindModel" ({ cls := "DeviceFindModel", name := "joined", desc := "(I)I" } : Jvm.MethodName) ({ cls := "DeviceFindModel", name := "joined", desc := "(I)I" } : Jvm.MethodName)) ∈ lw_tbl := List.mem_of_getElem? (i := 1547) (by decide +kernel)
theorem q_1549 : (Cond.methodLink "DeviceFindLaw" (136 : Nat) ({ cls := "DeviceFindModel", name := "count", desc := "(I)I" } : Jvm.MethodName)) ∈ lw_tbl := List.mem_of_getElem? (i := 1549) (by decide +kernel)
theorem q_1550 : (Cond.instanceMethod ({ cls := "DeviceFindModel", name := "count", desc := "(I)I" } : Jvm.MethodName)) ∈ lw_tbl := List.mem_of_getElem? (i := 1550) (by decide +kernel)
theorem q_1551 : (Cond.selects "DeviceFindModel" ({ cls := "DeviceFindModel", name := "count", desc := "(I)I" } : Jvm.MethodName) ({ cls := "DeviceFindModel", name := "count", desc := "(I)I" } : Jvm.MethodName)) ∈ lw_tbl := List.mem_of_getElem? (i := 1551) (by decide +kernel)
theorem q_1553 : (Cond.constantLong "DeviceFindLaw" (95 : Nat) (4294967295 : Int64)) ∈ lw_tbl := List.mem_of_getElem? (i := 1553) (by decide +kernel)
def Sx_unit (Inv : zI → zL → Prop) : Prop := ∀ (I : zI) (L : zL) (a1 : Int32), Inv I L → ∃ (v : Int32) (I1 : zI) (I2 : zI), f_X11_unit a1 I = some (v, I1) ∧ f_X12_unit a1 I1 = some (v, I2) ∧ Inv I2 L
def Sx_units (Inv : zI → zL → Prop) : Prop := ∀ (I : zI) (L : zL) (a1 : Int32), Inv I L → ∃ (v : Int32) (I1 : zI) (I2 : zI), f_X11_units a1 I = some (v, I1) ∧ f_X12_units a1 I1 = some (v, I2) ∧ Inv I2 L
def Sx_read (Inv : zI → zL → Prop) : Prop := ∀ (I : zI) (L : zL) , Inv I L → ∃ P : Nat, zpl P ∧ ∃ Q : Nat, zpl Q ∧ ∃ (v : Int32) (I1 : zI) (L1 : zL) (I2 : zI) (L2 : zL), f_X11_read P Q I L = some (v, I1, L1) ∧ f_X12_read I1 L1 = some (v, I2, L2) ∧ Inv I2 L2
def Sx_polygon (Inv : zI → zL → Prop) : Prop := ∀ (I : zI) (L : zL) (a1 : Int32), Inv I L → ∃ (k : Int32) (n : Nat) (I1 : zI) (L1 : zL) (v : Int32) (I2 : zI), n ≤ 1 ∧ w_polygon a1 I L = some (k, n, I1, L1) ∧ f_X12_polygon a1 I1 = some (v, I2) ∧ f_X12_thrown I2 = some k ∧ (k = 0 → L1 133 0 = v.toInt64) ∧ Inv I2 L1
def Sx_corner (Inv : zI → zL → Prop) : Prop := ∀ (I : zI) (L : zL) (a1 : Int32) (a2 : Int64) (a3 : Int64), Inv I L → ∃ (k : Int32) (n : Nat) (I1 : zI) (L1 : zL) (v : Int32) (I2 : zI), n ≤ 1 ∧ w_corner a1 a2 a3 I L = some (k, n, I1, L1) ∧ f_X12_corner a1 a2 a3 I1 = some (v, I2) ∧ f_X12_thrown I2 = some k ∧ (k = 0 → L1 133 0 = (if v = 0 then (0 : Int64) else 1)) ∧ Inv I2 L1
def Sx_text (Inv : zI → zL → Prop) : Prop := ∀ (I : zI) (L : zL) (a1 : Int32) (a2 : Int64) (a3 : Int64) (a4 : Int32), Inv I L → ∃ (k : Int32) (n : Nat) (I1 : zI) (L1 : zL) (v : Int32) (I2 : zI), n ≤ 1 ∧ w_text a1 a2 a3 a4 I L = some (k, n, I1, L1) ∧ f_X12_text a1 a2 a3 a4 I1 = some (v, I2) ∧ f_X12_thrown I2 = some k ∧ (k = 0 → L1 133 0 = v.toInt64) ∧ Inv I2 L1
def Sx_run (Inv : zI → zL → Prop) : Prop := ∀ (I : zI) (L : zL) , Inv I L → ∃ P : Nat, zpl P ∧ ∃ (k : Int32) (n : Nat) (I1 : zI) (L1 : zL) (v : Int32) (I2 : zI) (L2 : zL), n ≤ 1 ∧ w_run P I L = some (k, n, I1, L1) ∧ f_X12_run I1 L1 = some (v, I2, L2) ∧ f_X12_thrown I2 = some k ∧ (k = 0 → L2 133 0 = v.toInt64) ∧ Inv I2 L2
def Sx_device (Inv : zI → zL → Prop) : Prop := ∀ (I : zI) (L : zL) (a1 : Int32) (a2 : Int32), Inv I L → ∃ (k : Int32) (n : Nat) (I1 : zI) (L1 : zL) (v : Int32) (I2 : zI), n ≤ 1 ∧ w_device a1 a2 I L = some (k, n, I1, L1) ∧ f_X12_device a1 a2 I1 = some (v, I2) ∧ f_X12_thrown I2 = some k ∧ (k = 0 → L1 133 0 = v.toInt64) ∧ Inv I2 L1
def Sx_size (Inv : zI → zL → Prop) : Prop := ∀ (I : zI) (L : zL) (a1 : Int32) (a2 : Int32), Inv I L → ∃ (k : Int32) (n : Nat) (I1 : zI) (L1 : zL) (v : Int64) (I2 : zI), n ≤ 1 ∧ w_size a1 a2 I L = some (k, n, I1, L1) ∧ f_X12_size a1 a2 I1 L1 = some (v, I2) ∧ f_X12_thrown I2 = some k ∧ (k = 0 → L1 133 0 = v) ∧ Inv I2 L1
def Sx_pin (Inv : zI → zL → Prop) : Prop := ∀ (I : zI) (L : zL) (a1 : Int32) (a2 : Int32), Inv I L → ∃ P : Nat, zpl P ∧ ∃ (k : Int32) (n : Nat) (I1 : zI) (L1 : zL) (v : Int32) (I2 : zI), n ≤ 1 ∧ w_pin P a1 a2 I L = some (k, n, I1, L1) ∧ f_X12_pin a1 a2 I1 = some (v, I2) ∧ f_X12_thrown I2 = some k ∧ (k = 0 → L1 133 0 = v.toInt64) ∧ Inv I2 L1
def Sx_net (Inv : zI → zL → Prop) : Prop := ∀ (I : zI) (L : zL) (a1 : Int32) (a2 : Int64) (a3 : Int64), Inv I L → ∃ P : Nat, zpl P ∧ ∃ (k : Int32) (n : Nat) (I1 : zI) (L1 : zL) (v : Int32) (I2 : zI), n ≤ 1 ∧ w_net P a1 a2 a3 I L = some (k, n, I1, L1) ∧ f_X12_net a1 a2 a3 I1 = some (v, I2) ∧ f_X12_thrown I2 = some k ∧ (k = 0 → L1 133 0 = v.toInt64) ∧ Inv I2 L1
def Sx_named (Inv : zI → zL → Prop) : Prop := ∀ (I : zI) (L : zL) (a1 : Int32), Inv I L → ∃ (k : Int32) (n : Nat) (I1 : zI) (L1 : zL) (v : Int32) (I2 : zI), n ≤ 1 ∧ w_named a1 I L = some (k, n, I1, L1) ∧ f_X12_named a1 I1 = some (v, I2) ∧ f_X12_thrown I2 = some k ∧ (k = 0 → L1 133 0 = v.toInt64) ∧ Inv I2 L1
def Sx_twice (Inv : zI → zL → Prop) : Prop := ∀ (I : zI) (L : zL) (a1 : Int32), Inv I L → ∃ (k : Int32) (n : Nat) (I1 : zI) (L1 : zL) (v : Int32) (I2 : zI), n ≤ 1 ∧ w_twice a1 I L = some (k, n, I1, L1) ∧ f_X12_twice a1 I1 = some (v, I2) ∧ f_X12_thrown I2 = some k ∧ (k = 0 → L1 133 0 = v.toInt64) ∧ Inv I2 L1
def Sx_bad (Inv : zI → zL → Prop) : Prop := ∀ (I : zI) (L : zL) (a1 : Int32), Inv I L → ∃ (k : Int32) (n : Nat) (I1 : zI) (L1 : zL) (v : Int32) (I2 : zI), n ≤ 1 ∧ w_bad a1 I L = some (k, n, I1, L1) ∧ f_X12_bad a1 I1 = some (v, I2) ∧ f_X12_thrown I2 = some k ∧ (k = 0 → L1 133 0 = v.toInt64) ∧ Inv I2 L1
def Sx_joined (Inv : zI → zL → Prop) : Prop := ∀ (I : zI) (L : zL) (a1 : Int32), Inv I L → ∃ P : Nat, zpl P ∧ ∃ (k : Int32) (n : Nat) (I1 : zI) (L1 : zL) (v : Int32) (I2 : zI), n ≤ 1 ∧ w_joined P a1 I L = some (k, n, I1, L1) ∧ f_X12_joined a1 I1 = some (v, I2) ∧ f_X12_thrown I2 = some k ∧ (k = 0 → L1 133 0 = v.toInt64) ∧ Inv I2 L1
def Sx_count (Inv : zI → zL → Prop) : Prop := ∀ (I : zI) (L : zL) (a1 : Int32), Inv I L → ∃ P : Nat, zpl P ∧ ∃ (k : Int32) (n : Nat) (I1 : zI) (L1 : zL) (v : Int32) (I2 : zI), n ≤ 1 ∧ w_count P a1 I L = some (k, n, I1, L1) ∧ f_X12_count a1 I1 = some (v, I2) ∧ f_X12_thrown I2 = some k ∧ (k = 0 → L1 133 0 = v.toInt64) ∧ Inv I2 L1
set_option maxHeartbeats 4000000 in
set_option maxRecDepth 100000 in
theorem law_c0 (Inv : zI → zL → Prop) (C : zC p l e R s m args below meth c s0 a0 d cy B0 own code 8 ret 0 0 601024 7293000 14 520 tb) (hown : own = "DeviceFindLaw") {b N j : Nat} {xs : Nat → Int32} (hX : va_X b N xs s0 s0.heap) (hb : b < B0) (hN : N ≤ 3585) (hj : j + 7 ≤ N) (hbc : bc + 1 ≤ 601024) (hbs : bs + 6 ≤ 7293000) (step : Sx_unit Inv) (hinv : Inv I L)
    (kk : ∀ (I9 : zI) (L9 : zL) (n : Nat), n ≤ 1 → Inv I9 L9 → zG p l e R s m args below meth c d cy B0 8 0 0 Q 1227 [(0, .ref b), (1, .ref (B0 + 0)), (2, .ref (B0 + 97)), (3, .ref (B0 + 133)), (4, .int (nI j))] [] zSH zKn (bc + n) (bs + 6 * n) I9 L9) : zG p l e R s m args below meth c d cy B0 8 0 0 Q 128 [(0, .ref b), (1, .ref (B0 + 0)), (2, .ref (B0 + 97)), (3, .ref (B0 + 133)), (4, .int (nI j))] [] zSH zKn bc bs I L := by
  subst hown
  obtain ⟨v, I1, I2, hf, hm, hi⟩ := step I L (xs (j + 1)) hinv
  refine z_aload_n C rfl 1 rfl dL_law_128 ?_
  refine z_aload_n C rfl 0 rfl dL_law_129 ?_
  refine z_iload C 4 rfl dL_law_130 ?_
  refine z_iconst C (v := 1) (by decide) dL_law_132 ?_
  refine z_iadd C dL_law_133 ?_
  refine z_sld C hX hb dL_law_134 (j + 1) (nI_add j 1) (by omega) (by omega) ?_
  refine z_callV C zc_11 rfl (by decide) dL_law_135 yy_X11_unit (c_X11_unit (r := (v, I1)) C.2.2.2.2.1 (xs (j + 1)) I L hf) q_503 q_504 q_505 (by decide) (by decide) rfl rfl (Nat.le_of_ble_eq_true rfl) ⟨Nat.le_refl _, by omega, Nat.le_refl _, by omega⟩ ?_
  refine z_aload_n C rfl 2 rfl dL_law_138 ?_
  refine z_aload_n C rfl 0 rfl dL_law_139 ?_
  refine z_iload C 4 rfl dL_law_140 ?_
  refine z_iconst C (v := 1) (by decide) dL_law_142 ?_
  refine z_iadd C dL_law_143 ?_
  refine z_sld C hX hb dL_law_144 (j + 1) (nI_add j 1) (by omega) (by omega) ?_
  refine z_callV C zc_12 rfl (by decide) dL_law_145 yy_X12_unit (c_X12_unit (r := (v, I2)) C.2.2.2.2.1 (xs (j + 1)) I1 L hm) q_1362 q_1363 q_1364 (by decide) (by decide) rfl rfl (Nat.le_of_ble_eq_true rfl) ⟨Nat.le_refl _, by omega, Nat.le_refl _, by omega⟩ ?_
  refine z_icmp_eq C 1227 (by decide) dL_law_148 (fun _ => ?_) (fun hc => absurd rfl hc)
  exact kk _ _ 0 (by omega) hi
set_option maxHeartbeats 4000000 in
set_option maxRecDepth 100000 in
theorem law_c1 (Inv : zI → zL → Prop) (C : zC p l e R s m args below meth c s0 a0 d cy B0 own code 8 ret 0 0 601024 7293000 14 520 tb) (hown : own = "DeviceFindLaw") {b N j : Nat} {xs : Nat → Int32} (hX : va_X b N xs s0 s0.heap) (hb : b < B0) (hN : N ≤ 3585) (hj : j + 7 ≤ N) (hbc : bc + 1 ≤ 601024) (hbs : bs + 6 ≤ 7293000) (step : Sx_units Inv) (hinv : Inv I L)
    (kk : ∀ (I9 : zI) (L9 : zL) (n : Nat), n ≤ 1 → Inv I9 L9 → zG p l e R s m args below meth c d cy B0 8 0 0 Q 1227 [(0, .ref b), (1, .ref (B0 + 0)), (2, .ref (B0 + 97)), (3, .ref (B0 + 133)), (4, .int (nI j))] [] zSH zKn (bc + n) (bs + 6 * n) I9 L9) : zG p l e R s m args below meth c d cy B0 8 0 0 Q 153 [(0, .ref b), (1, .ref (B0 + 0)), (2, .ref (B0 + 97)), (3, .ref (B0 + 133)), (4, .int (nI j))] [] zSH zKn bc bs I L := by
  subst hown
  obtain ⟨v, I1, I2, hf, hm, hi⟩ := step I L (xs (j + 1)) hinv
  refine z_aload_n C rfl 1 rfl dL_law_153 ?_
  refine z_aload_n C rfl 0 rfl dL_law_154 ?_
  refine z_iload C 4 rfl dL_law_155 ?_
  refine z_iconst C (v := 1) (by decide) dL_law_157 ?_
  refine z_iadd C dL_law_158 ?_
  refine z_sld C hX hb dL_law_159 (j + 1) (nI_add j 1) (by omega) (by omega) ?_
  refine z_callV C zc_11 rfl (by decide) dL_law_160 yy_X11_units (c_X11_units (r := (v, I1)) C.2.2.2.2.1 (xs (j + 1)) I L hf) q_511 q_512 q_513 (by decide) (by decide) rfl rfl (Nat.le_of_ble_eq_true rfl) ⟨Nat.le_refl _, by omega, Nat.le_refl _, by omega⟩ ?_
  refine z_aload_n C rfl 2 rfl dL_law_163 ?_
  refine z_aload_n C rfl 0 rfl dL_law_164 ?_
  refine z_iload C 4 rfl dL_law_165 ?_
  refine z_iconst C (v := 1) (by decide) dL_law_167 ?_
  refine z_iadd C dL_law_168 ?_
  refine z_sld C hX hb dL_law_169 (j + 1) (nI_add j 1) (by omega) (by omega) ?_
  refine z_callV C zc_12 rfl (by decide) dL_law_170 yy_X12_units (c_X12_units (r := (v, I2)) C.2.2.2.2.1 (xs (j + 1)) I1 L hm) q_1369 q_1370 q_1371 (by decide) (by decide) rfl rfl (Nat.le_of_ble_eq_true rfl) ⟨Nat.le_refl _, by omega, Nat.le_refl _, by omega⟩ ?_
  refine z_icmp_eq C 1227 (by decide) dL_law_173 (fun _ => ?_) (fun hc => absurd rfl hc)
  exact kk _ _ 0 (by omega) hi
set_option maxHeartbeats 4000000 in
set_option maxRecDepth 100000 in
theorem law_c2 (Inv : zI → zL → Prop) (C : zC p l e R s m args below meth c s0 a0 d cy B0 own code 8 ret 0 0 601024 7293000 14 520 tb) (hown : own = "DeviceFindLaw") {b N j : Nat} {xs : Nat → Int32} (hX : va_X b N xs s0 s0.heap) (hb : b < B0) (hN : N ≤ 3585) (hj : j + 7 ≤ N) (hbc : bc + 1 ≤ 601024) (hbs : bs + 6 ≤ 7293000) (step : Sx_read Inv) (hinv : Inv I L)
    (kk : ∀ (I9 : zI) (L9 : zL) (n : Nat), n ≤ 1 → Inv I9 L9 → zG p l e R s m args below meth c d cy B0 8 0 0 Q 1227 [(0, .ref b), (1, .ref (B0 + 0)), (2, .ref (B0 + 97)), (3, .ref (B0 + 133)), (4, .int (nI j))] [] zSH zKn (bc + n) (bs + 6 * n) I9 L9) : zG p l e R s m args below meth c d cy B0 8 0 0 Q 178 [(0, .ref b), (1, .ref (B0 + 0)), (2, .ref (B0 + 97)), (3, .ref (B0 + 133)), (4, .int (nI j))] [] zSH zKn bc bs I L := by
  subst hown
  obtain ⟨P, hP, Q, hQ, v, I1, L1, I2, L2, hf, hm, hi⟩ := step I L  hinv
  refine z_aload_n C rfl 1 rfl dL_law_178 ?_
  refine z_callV C zc_11 rfl (by decide) dL_law_179 yy_X11_read (c_X11_read (r := (v, I1, L1)) C.2.2.2.2.1 hP hQ I L hf) q_520 q_521 q_522 (by decide) (by decide) rfl rfl (Nat.le_of_ble_eq_true rfl) ⟨Nat.le_refl _, by omega, Nat.le_refl _, by omega⟩ ?_
  refine z_aload_n C rfl 2 rfl dL_law_182 ?_
  refine z_callV C zc_12 rfl (by decide) dL_law_183 yy_X12_read (c_X12_read (r := (v, I2, L2)) C.2.2.2.2.1  I1 L1 hm) q_1373 q_1374 q_1375 (by decide) (by decide) rfl rfl (Nat.le_of_ble_eq_true rfl) ⟨Nat.le_refl _, by omega, Nat.le_refl _, by omega⟩ ?_
  refine z_icmp_eq C 1227 (by decide) dL_law_186 (fun _ => ?_) (fun hc => absurd rfl hc)
  exact kk _ _ 0 (by omega) hi
set_option maxHeartbeats 4000000 in
set_option maxRecDepth 100000 in
theorem law_c3 (Inv : zI → zL → Prop) (C : zC p l e R s m args below meth c s0 a0 d cy B0 own code 8 ret 0 0 601024 7293000 14 520 tb) (hown : own = "DeviceFindLaw") {b N j : Nat} {xs : Nat → Int32} (hX : va_X b N xs s0 s0.heap) (hb : b < B0) (hN : N ≤ 3585) (hj : j + 7 ≤ N) (hbc : bc + 1 ≤ 601024) (hbs : bs + 6 ≤ 7293000) (step : Sx_polygon Inv) (hinv : Inv I L)
    (kk : ∀ (I9 : zI) (L9 : zL) (n : Nat), n ≤ 1 → Inv I9 L9 → zG p l e R s m args below meth c d cy B0 8 0 0 Q 1227 [(0, .ref b), (1, .ref (B0 + 0)), (2, .ref (B0 + 97)), (3, .ref (B0 + 133)), (4, .int (nI j))] [] zSH zKn (bc + n) (bs + 6 * n) I9 L9) : zG p l e R s m args below meth c d cy B0 8 0 0 Q 191 [(0, .ref b), (1, .ref (B0 + 0)), (2, .ref (B0 + 97)), (3, .ref (B0 + 133)), (4, .int (nI j))] [] zSH zKn bc bs I L := by
  subst hown
  obtain ⟨k, n, I1, L1, v, I2, hn, hw, hm, ht, ho, hi⟩ := step I L (xs (j + 1)) hinv
  refine z_aload_n C rfl 1 rfl dL_law_191 ?_
  refine z_aload_n C rfl 0 rfl dL_law_192 ?_
  refine z_iload C 4 rfl dL_law_193 ?_
  refine z_iconst C (v := 1) (by decide) dL_law_195 ?_
  refine z_iadd C dL_law_196 ?_
  refine z_sld C hX hb dL_law_197 (j + 1) (nI_add j 1) (by omega) (by omega) ?_
  refine z_aload_n C rfl 3 rfl dL_law_198 ?_
  refine z_callSW C dL_law_199 yy_L_polygon (c_L_polygon C.2.2.2.2.1 (xs (j + 1)) I L hw) q_717 q_718 (by decide) (by decide) rfl rfl (Nat.le_of_ble_eq_true rfl) ⟨by omega, by omega, by omega, by omega⟩ ?_
  refine z_istore C (lv' := [(5, .int k), (0, .ref b), (1, .ref (B0 + 0)), (2, .ref (B0 + 97)), (3, .ref (B0 + 133)), (4, .int (nI j))]) (by decide) rfl dL_law_202 ?_
  refine z_aload_n C rfl 3 rfl dL_law_204 ?_
  refine z_aload_n C rfl 1 rfl dL_law_205 ?_
  refine z_iload C 5 rfl dL_law_206 ?_
  refine z_iconst C (v := 1) (by decide) dL_law_208 ?_
  refine z_iadd C dL_law_209 ?_
  refine z_sld C hX hb dL_law_210 (j + 1) (nI_add j 1) (by omega) (by omega) ?_
  refine z_callV C zc_12 rfl (by decide) dL_law_211 yy_X12_polygon (c_X12_polygon (r := (v, I2)) C.2.2.2.2.1 (xs (j + 1)) I1 L1 hm) q_1346 q_1347 q_1348 (by decide) (by decide) rfl rfl (Nat.le_of_ble_eq_true rfl) ⟨Nat.le_refl _, by omega, Nat.le_refl _, by omega⟩ ?_
  refine z_istore C (lv' := [(6, .int v), (5, .int k), (0, .ref b), (1, .ref (B0 + 0)), (2, .ref (B0 + 97)), (3, .ref (B0 + 133)), (4, .int (nI j))]) (by decide) rfl dL_law_214 ?_
  refine z_aload_n C rfl 4 rfl dL_law_216 ?_
  refine z_callV C zc_12 rfl (by decide) dL_law_217 yy_X12_thrown (c_X12_thrown (r := k) C.2.2.2.2.1 I2 L1 ht) q_1342 q_1343 q_1344 (by decide) (by decide) rfl rfl (Nat.le_of_ble_eq_true rfl) ⟨Nat.le_refl _, by omega, Nat.le_refl _, by omega⟩ ?_
  refine z_iload C 1 rfl dL_law_220 ?_
  refine z_icmp_eq C 227 (by decide) dL_law_222 (fun _ => ?_) (fun hc => absurd rfl hc)
  refine z_iload C 1 rfl dL_law_227 ?_
  refine z_if_ne C 244 (by decide) dL_law_229 (fun _ => ?_) (fun hk => ?_)
  · refine z_goto C 1227 (by decide) dL_law_244 ?_
    refine z_lv [2, 3, 4, 5, 6] (lv' := [(0, .ref b), (1, .ref (B0 + 0)), (2, .ref (B0 + 97)), (3, .ref (B0 + 133)), (4, .int (nI j))]) rfl ?_
    exact kk _ _ n hn hi
  · refine z_aload_n C rfl 5 rfl dL_law_232 ?_
    refine z_iconst C (v := 0) (by decide) dL_law_233 ?_
    refine z_laload C dL_law_234 (q := 133) (n := 1) rfl rfl (by decide) (zbd_in (by decide)) ?_
    refine z_iload C 0 rfl dL_law_235 ?_
    refine z_i2l C dL_law_237 ?_
    refine z_lif_eq C 244 (by decide) dL_law_238 dL_law_239 (fun _ => ?_) (fun hc => absurd (ho hk) hc)
    refine z_goto C 1227 (by decide) dL_law_244 ?_
    refine z_lv [2, 3, 4, 5, 6] (lv' := [(0, .ref b), (1, .ref (B0 + 0)), (2, .ref (B0 + 97)), (3, .ref (B0 + 133)), (4, .int (nI j))]) rfl ?_
    exact kk _ _ n hn hi
set_option maxHeartbeats 4000000 in
set_option maxRecDepth 100000 in
theorem law_c4 (Inv : zI → zL → Prop) (C : zC p l e R s m args below meth c s0 a0 d cy B0 own code 8 ret 0 0 601024 7293000 14 520 tb) (hown : own = "DeviceFindLaw") {b N j : Nat} {xs : Nat → Int32} (hX : va_X b N xs s0 s0.heap) (hb : b < B0) (hN : N ≤ 3585) (hj : j + 7 ≤ N) (hbc : bc + 1 ≤ 601024) (hbs : bs + 6 ≤ 7293000) (step : Sx_corner Inv) (hinv : Inv I L)
    (kk : ∀ (I9 : zI) (L9 : zL) (n : Nat), n ≤ 1 → Inv I9 L9 → zG p l e R s m args below meth c d cy B0 8 0 0 Q 1227 [(0, .ref b), (1, .ref (B0 + 0)), (2, .ref (B0 + 97)), (3, .ref (B0 + 133)), (4, .int (nI j))] [] zSH zKn (bc + n) (bs + 6 * n) I9 L9) : zG p l e R s m args below meth c d cy B0 8 0 0 Q 247 [(0, .ref b), (1, .ref (B0 + 0)), (2, .ref (B0 + 97)), (3, .ref (B0 + 133)), (4, .int (nI j))] [] zSH zKn bc bs I L := by
  subst hown
  obtain ⟨k, n, I1, L1, v, I2, hn, hw, hm, ht, ho, hi⟩ := step I L (xs (j + 1)) (((xs (j + 2)).toInt64 <<< ((32 : Int32).toInt64 &&& 63)) ||| ((xs (j + 3)).toInt64 &&& (4294967295 : Int64))) (((xs (j + 4)).toInt64 <<< ((32 : Int32).toInt64 &&& 63)) ||| ((xs (j + 5)).toInt64 &&& (4294967295 : Int64))) hinv
  refine z_aload_n C rfl 1 rfl dL_law_247 ?_
  refine z_aload_n C rfl 0 rfl dL_law_248 ?_
  refine z_iload C 4 rfl dL_law_249 ?_
  refine z_iconst C (v := 1) (by decide) dL_law_251 ?_
  refine z_iadd C dL_law_252 ?_
  refine z_sld C hX hb dL_law_253 (j + 1) (nI_add j 1) (by omega) (by omega) ?_
  refine z_aload_n C rfl 0 rfl dL_law_254 ?_
  refine z_iload C 4 rfl dL_law_255 ?_
  refine z_iconst C (v := 2) (by decide) dL_law_257 ?_
  refine z_iadd C dL_law_258 ?_
  refine z_sld C hX hb dL_law_259 (j + 2) (nI_add j 2) (by omega) (by omega) ?_
  refine z_i2l C dL_law_260 ?_
  refine z_bipush C (v := 32) (by decide) dL_law_261 ?_
  refine z_lshl C dL_law_263 ?_
  refine z_aload_n C rfl 0 rfl dL_law_264 ?_
  refine z_iload C 4 rfl dL_law_265 ?_
  refine z_iconst C (v := 3) (by decide) dL_law_267 ?_
  refine z_iadd C dL_law_268 ?_
  refine z_sld C hX hb dL_law_269 (j + 3) (nI_add j 3) (by omega) (by omega) ?_
  refine z_i2l C dL_law_270 ?_
  refine z_ldc2 C dL_law_271 q_1553 ?_
  refine z_land C dL_law_274 ?_
  refine z_lor C dL_law_275 ?_
  refine z_aload_n C rfl 0 rfl dL_law_276 ?_
  refine z_iload C 4 rfl dL_law_277 ?_
  refine z_iconst C (v := 4) (by decide) dL_law_279 ?_
  refine z_iadd C dL_law_280 ?_
  refine z_sld C hX hb dL_law_281 (j + 4) (nI_add j 4) (by omega) (by omega) ?_
  refine z_i2l C dL_law_282 ?_
  refine z_bipush C (v := 32) (by decide) dL_law_283 ?_
  refine z_lshl C dL_law_285 ?_
  refine z_aload_n C rfl 0 rfl dL_law_286 ?_
  refine z_iload C 4 rfl dL_law_287 ?_
  refine z_iconst C (v := 5) (by decide) dL_law_289 ?_
  refine z_iadd C dL_law_290 ?_
  refine z_sld C hX hb dL_law_291 (j + 5) (nI_add j 5) (by omega) (by omega) ?_
  refine z_i2l C dL_law_292 ?_
  refine z_ldc2 C dL_law_293 q_1553 ?_
  refine z_land C dL_law_296 ?_
  refine z_lor C dL_law_297 ?_
  refine z_aload_n C rfl 3 rfl dL_law_298 ?_
  refine z_callSW C dL_law_299 yy_L_corner (c_L_corner C.2.2.2.2.1 (xs (j + 1)) (((xs (j + 2)).toInt64 <<< ((32 : Int32).toInt64 &&& 63)) ||| ((xs (j + 3)).toInt64 &&& (4294967295 : Int64))) (((xs (j + 4)).toInt64 <<< ((32 : Int32).toInt64 &&& 63)) ||| ((xs (j + 5)).toInt64 &&& (4294967295 : Int64))) I L hw) q_815 q_816 (by decide) (by decide) rfl rfl (Nat.le_of_ble_eq_true rfl) ⟨by omega, by omega, by omega, by omega⟩ ?_
  refine z_istore C (lv' := [(5, .int k), (0, .ref b), (1, .ref (B0 + 0)), (2, .ref (B0 + 97)), (3, .ref (B0 + 133)), (4, .int (nI j))]) (by decide) rfl dL_law_302 ?_
  refine z_aload_n C rfl 3 rfl dL_law_304 ?_
  refine z_aload_n C rfl 1 rfl dL_law_305 ?_
  refine z_iload C 5 rfl dL_law_306 ?_
  refine z_iconst C (v := 1) (by decide) dL_law_308 ?_
  refine z_iadd C dL_law_309 ?_
  refine z_sld C hX hb dL_law_310 (j + 1) (nI_add j 1) (by omega) (by omega) ?_
  refine z_aload_n C rfl 1 rfl dL_law_311 ?_
  refine z_iload C 5 rfl dL_law_312 ?_
  refine z_iconst C (v := 2) (by decide) dL_law_314 ?_
  refine z_iadd C dL_law_315 ?_
  refine z_sld C hX hb dL_law_316 (j + 2) (nI_add j 2) (by omega) (by omega) ?_
  refine z_i2l C dL_law_317 ?_
  refine z_bipush C (v := 32) (by decide) dL_law_318 ?_
  refine z_lshl C dL_law_320 ?_
  refine z_aload_n C rfl 1 rfl dL_law_321 ?_
  refine z_iload C 5 rfl dL_law_322 ?_
  refine z_iconst C (v := 3) (by decide) dL_law_324 ?_
  refine z_iadd C dL_law_325 ?_
  refine z_sld C hX hb dL_law_326 (j + 3) (nI_add j 3) (by omega) (by omega) ?_
  refine z_i2l C dL_law_327 ?_
  refine z_ldc2 C dL_law_328 q_1553 ?_
  refine z_land C dL_law_331 ?_
  refine z_lor C dL_law_332 ?_
  refine z_aload_n C rfl 1 rfl dL_law_333 ?_
  refine z_iload C 5 rfl dL_law_334 ?_
  refine z_iconst C (v := 4) (by decide) dL_law_336 ?_
  refine z_iadd C dL_law_337 ?_
  refine z_sld C hX hb dL_law_338 (j + 4) (nI_add j 4) (by omega) (by omega) ?_
  refine z_i2l C dL_law_339 ?_
  refine z_bipush C (v := 32) (by decide) dL_law_340 ?_
  refine z_lshl C dL_law_342 ?_
  refine z_aload_n C rfl 1 rfl dL_law_343 ?_
  refine z_iload C 5 rfl dL_law_344 ?_
  refine z_iconst C (v := 5) (by decide) dL_law_346 ?_
  refine z_iadd C dL_law_347 ?_
  refine z_sld C hX hb dL_law_348 (j + 5) (nI_add j 5) (by omega) (by omega) ?_
  refine z_i2l C dL_law_349 ?_
  refine z_ldc2 C dL_law_350 q_1553 ?_
  refine z_land C dL_law_353 ?_
  refine z_lor C dL_law_354 ?_
  refine z_callV C zc_12 rfl (by decide) dL_law_355 yy_X12_corner (c_X12_corner (r := (v, I2)) C.2.2.2.2.1 (xs (j + 1)) (((xs (j + 2)).toInt64 <<< ((32 : Int32).toInt64 &&& 63)) ||| ((xs (j + 3)).toInt64 &&& (4294967295 : Int64))) (((xs (j + 4)).toInt64 <<< ((32 : Int32).toInt64 &&& 63)) ||| ((xs (j + 5)).toInt64 &&& (4294967295 : Int64))) I1 L1 hm) q_1350 q_1351 q_1352 (by decide) (by decide) rfl rfl (Nat.le_of_ble_eq_true rfl) ⟨Nat.le_refl _, by omega, Nat.le_refl _, by omega⟩ ?_
  refine z_istore C (lv' := [(6, .int v), (5, .int k), (0, .ref b), (1, .ref (B0 + 0)), (2, .ref (B0 + 97)), (3, .ref (B0 + 133)), (4, .int (nI j))]) (by decide) rfl dL_law_358 ?_
  refine z_aload_n C rfl 4 rfl dL_law_360 ?_
  refine z_callV C zc_12 rfl (by decide) dL_law_361 yy_X12_thrown (c_X12_thrown (r := k) C.2.2.2.2.1 I2 L1 ht) q_1342 q_1343 q_1344 (by decide) (by decide) rfl rfl (Nat.le_of_ble_eq_true rfl) ⟨Nat.le_refl _, by omega, Nat.le_refl _, by omega⟩ ?_
  refine z_iload C 1 rfl dL_law_364 ?_
  refine z_icmp_eq C 371 (by decide) dL_law_366 (fun _ => ?_) (fun hc => absurd rfl hc)
  refine z_iload C 1 rfl dL_law_371 ?_
  refine z_if_ne C 395 (by decide) dL_law_373 (fun _ => ?_) (fun hk => ?_)
  · refine z_goto C 1227 (by decide) dL_law_395 ?_
    refine z_lv [2, 3, 4, 5, 6] (lv' := [(0, .ref b), (1, .ref (B0 + 0)), (2, .ref (B0 + 97)), (3, .ref (B0 + 133)), (4, .int (nI j))]) rfl ?_
    exact kk _ _ n hn hi
  · refine z_aload_n C rfl 5 rfl dL_law_376 ?_
    refine z_iconst C (v := 0) (by decide) dL_law_377 ?_
    refine z_laload C dL_law_378 (q := 133) (n := 1) rfl rfl (by decide) (zbd_in (by decide)) ?_
    refine z_iload C 0 rfl dL_law_379 ?_
    refine z_if_eq C 388 (by decide) dL_law_381 (fun hv => ?_) (fun hv => ?_)
    · refine z_lconst C (v := 0) (by decide) dL_law_388 ?_
      refine z_lif_eq C 395 (by decide) dL_law_389 dL_law_390 (fun _ => ?_) (fun hc => absurd ((ho hk).trans (if_pos hv)) hc)
      refine z_goto C 1227 (by decide) dL_law_395 ?_
      refine z_lv [2, 3, 4, 5, 6] (lv' := [(0, .ref b), (1, .ref (B0 + 0)), (2, .ref (B0 + 97)), (3, .ref (B0 + 133)), (4, .int (nI j))]) rfl ?_
      exact kk _ _ n hn hi
    · refine z_lconst C (v := 1) (by decide) dL_law_384 ?_
      refine z_goto C 389 (by decide) dL_law_385 ?_
      refine z_lif_eq C 395 (by decide) dL_law_389 dL_law_390 (fun _ => ?_) (fun hc => absurd ((ho hk).trans (if_neg hv)) hc)
      refine z_goto C 1227 (by decide) dL_law_395 ?_
      refine z_lv [2, 3, 4, 5, 6] (lv' := [(0, .ref b), (1, .ref (B0 + 0)), (2, .ref (B0 + 97)), (3, .ref (B0 + 133)), (4, .int (nI j))]) rfl ?_
      exact kk _ _ n hn hi
set_option maxHeartbeats 4000000 in
set_option maxRecDepth 100000 in
theorem law_c5 (Inv : zI → zL → Prop) (C : zC p l e R s m args below meth c s0 a0 d cy B0 own code 8 ret 0 0 601024 7293000 14 520 tb) (hown : own = "DeviceFindLaw") {b N j : Nat} {xs : Nat → Int32} (hX : va_X b N xs s0 s0.heap) (hb : b < B0) (hN : N ≤ 3585) (hj : j + 7 ≤ N) (hbc : bc + 1 ≤ 601024) (hbs : bs + 6 ≤ 7293000) (step : Sx_text Inv) (hinv : Inv I L)
    (kk : ∀ (I9 : zI) (L9 : zL) (n : Nat), n ≤ 1 → Inv I9 L9 → zG p l e R s m args below meth c d cy B0 8 0 0 Q 1227 [(0, .ref b), (1, .ref (B0 + 0)), (2, .ref (B0 + 97)), (3, .ref (B0 + 133)), (4, .int (nI j))] [] zSH zKn (bc + n) (bs + 6 * n) I9 L9) : zG p l e R s m args below meth c d cy B0 8 0 0 Q 398 [(0, .ref b), (1, .ref (B0 + 0)), (2, .ref (B0 + 97)), (3, .ref (B0 + 133)), (4, .int (nI j))] [] zSH zKn bc bs I L := by
  subst hown
  obtain ⟨k, n, I1, L1, v, I2, hn, hw, hm, ht, ho, hi⟩ := step I L (xs (j + 1)) (((xs (j + 2)).toInt64 <<< ((32 : Int32).toInt64 &&& 63)) ||| ((xs (j + 3)).toInt64 &&& (4294967295 : Int64))) (((xs (j + 4)).toInt64 <<< ((32 : Int32).toInt64 &&& 63)) ||| ((xs (j + 5)).toInt64 &&& (4294967295 : Int64))) (xs (j + 6)) hinv
  refine z_aload_n C rfl 1 rfl dL_law_398 ?_
  refine z_aload_n C rfl 0 rfl dL_law_399 ?_
  refine z_iload C 4 rfl dL_law_400 ?_
  refine z_iconst C (v := 1) (by decide) dL_law_402 ?_
  refine z_iadd C dL_law_403 ?_
  refine z_sld C hX hb dL_law_404 (j + 1) (nI_add j 1) (by omega) (by omega) ?_
  refine z_aload_n C rfl 0 rfl dL_law_405 ?_
  refine z_iload C 4 rfl dL_law_406 ?_
  refine z_iconst C (v := 2) (by decide) dL_law_408 ?_
  refine z_iadd C dL_law_409 ?_
  refine z_sld C hX hb dL_law_410 (j + 2) (nI_add j 2) (by omega) (by omega) ?_
  refine z_i2l C dL_law_411 ?_
  refine z_bipush C (v := 32) (by decide) dL_law_412 ?_
  refine z_lshl C dL_law_414 ?_
  refine z_aload_n C rfl 0 rfl dL_law_415 ?_
  refine z_iload C 4 rfl dL_law_416 ?_
  refine z_iconst C (v := 3) (by decide) dL_law_418 ?_
  refine z_iadd C dL_law_419 ?_
  refine z_sld C hX hb dL_law_420 (j + 3) (nI_add j 3) (by omega) (by omega) ?_
  refine z_i2l C dL_law_421 ?_
  refine z_ldc2 C dL_law_422 q_1553 ?_
  refine z_land C dL_law_425 ?_
  refine z_lor C dL_law_426 ?_
  refine z_aload_n C rfl 0 rfl dL_law_427 ?_
  refine z_iload C 4 rfl dL_law_428 ?_
  refine z_iconst C (v := 4) (by decide) dL_law_430 ?_
  refine z_iadd C dL_law_431 ?_
  refine z_sld C hX hb dL_law_432 (j + 4) (nI_add j 4) (by omega) (by omega) ?_
  refine z_i2l C dL_law_433 ?_
  refine z_bipush C (v := 32) (by decide) dL_law_434 ?_
  refine z_lshl C dL_law_436 ?_
  refine z_aload_n C rfl 0 rfl dL_law_437 ?_
  refine z_iload C 4 rfl dL_law_438 ?_
  refine z_iconst C (v := 5) (by decide) dL_law_440 ?_
  refine z_iadd C dL_law_441 ?_
  refine z_sld C hX hb dL_law_442 (j + 5) (nI_add j 5) (by omega) (by omega) ?_
  refine z_i2l C dL_law_443 ?_
  refine z_ldc2 C dL_law_444 q_1553 ?_
  refine z_land C dL_law_447 ?_
  refine z_lor C dL_law_448 ?_
  refine z_aload_n C rfl 0 rfl dL_law_449 ?_
  refine z_iload C 4 rfl dL_law_450 ?_
  refine z_bipush C (v := 6) (by decide) dL_law_452 ?_
  refine z_iadd C dL_law_454 ?_
  refine z_sld C hX hb dL_law_455 (j + 6) (nI_add j 6) (by omega) (by omega) ?_
  refine z_aload_n C rfl 3 rfl dL_law_456 ?_
  refine z_callSW C dL_law_457 yy_L_text (c_L_text C.2.2.2.2.1 (xs (j + 1)) (((xs (j + 2)).toInt64 <<< ((32 : Int32).toInt64 &&& 63)) ||| ((xs (j + 3)).toInt64 &&& (4294967295 : Int64))) (((xs (j + 4)).toInt64 <<< ((32 : Int32).toInt64 &&& 63)) ||| ((xs (j + 5)).toInt64 &&& (4294967295 : Int64))) (xs (j + 6)) I L hw) q_847 q_848 (by decide) (by decide) rfl rfl (Nat.le_of_ble_eq_true rfl) ⟨by omega, by omega, by omega, by omega⟩ ?_
  refine z_istore C (lv' := [(5, .int k), (0, .ref b), (1, .ref (B0 + 0)), (2, .ref (B0 + 97)), (3, .ref (B0 + 133)), (4, .int (nI j))]) (by decide) rfl dL_law_460 ?_
  refine z_aload_n C rfl 3 rfl dL_law_462 ?_
  refine z_aload_n C rfl 1 rfl dL_law_463 ?_
  refine z_iload C 5 rfl dL_law_464 ?_
  refine z_iconst C (v := 1) (by decide) dL_law_466 ?_
  refine z_iadd C dL_law_467 ?_
  refine z_sld C hX hb dL_law_468 (j + 1) (nI_add j 1) (by omega) (by omega) ?_
  refine z_aload_n C rfl 1 rfl dL_law_469 ?_
  refine z_iload C 5 rfl dL_law_470 ?_
  refine z_iconst C (v := 2) (by decide) dL_law_472 ?_
  refine z_iadd C dL_law_473 ?_
  refine z_sld C hX hb dL_law_474 (j + 2) (nI_add j 2) (by omega) (by omega) ?_
  refine z_i2l C dL_law_475 ?_
  refine z_bipush C (v := 32) (by decide) dL_law_476 ?_
  refine z_lshl C dL_law_478 ?_
  refine z_aload_n C rfl 1 rfl dL_law_479 ?_
  refine z_iload C 5 rfl dL_law_480 ?_
  refine z_iconst C (v := 3) (by decide) dL_law_482 ?_
  refine z_iadd C dL_law_483 ?_
  refine z_sld C hX hb dL_law_484 (j + 3) (nI_add j 3) (by omega) (by omega) ?_
  refine z_i2l C dL_law_485 ?_
  refine z_ldc2 C dL_law_486 q_1553 ?_
  refine z_land C dL_law_489 ?_
  refine z_lor C dL_law_490 ?_
  refine z_aload_n C rfl 1 rfl dL_law_491 ?_
  refine z_iload C 5 rfl dL_law_492 ?_
  refine z_iconst C (v := 4) (by decide) dL_law_494 ?_
  refine z_iadd C dL_law_495 ?_
  refine z_sld C hX hb dL_law_496 (j + 4) (nI_add j 4) (by omega) (by omega) ?_
  refine z_i2l C dL_law_497 ?_
  refine z_bipush C (v := 32) (by decide) dL_law_498 ?_
  refine z_lshl C dL_law_500 ?_
  refine z_aload_n C rfl 1 rfl dL_law_501 ?_
  refine z_iload C 5 rfl dL_law_502 ?_
  refine z_iconst C (v := 5) (by decide) dL_law_504 ?_
  refine z_iadd C dL_law_505 ?_
  refine z_sld C hX hb dL_law_506 (j + 5) (nI_add j 5) (by omega) (by omega) ?_
  refine z_i2l C dL_law_507 ?_
  refine z_ldc2 C dL_law_508 q_1553 ?_
  refine z_land C dL_law_511 ?_
  refine z_lor C dL_law_512 ?_
  refine z_aload_n C rfl 1 rfl dL_law_513 ?_
  refine z_iload C 5 rfl dL_law_514 ?_
  refine z_bipush C (v := 6) (by decide) dL_law_516 ?_
  refine z_iadd C dL_law_518 ?_
  refine z_sld C hX hb dL_law_519 (j + 6) (nI_add j 6) (by omega) (by omega) ?_
  refine z_callV C zc_12 rfl (by decide) dL_law_520 yy_X12_text (c_X12_text (r := (v, I2)) C.2.2.2.2.1 (xs (j + 1)) (((xs (j + 2)).toInt64 <<< ((32 : Int32).toInt64 &&& 63)) ||| ((xs (j + 3)).toInt64 &&& (4294967295 : Int64))) (((xs (j + 4)).toInt64 <<< ((32 : Int32).toInt64 &&& 63)) ||| ((xs (j + 5)).toInt64 &&& (4294967295 : Int64))) (xs (j + 6)) I1 L1 hm) q_1355 q_1356 q_1357 (by decide) (by decide) rfl rfl (Nat.le_of_ble_eq_true rfl) ⟨Nat.le_refl _, by omega, Nat.le_refl _, by omega⟩ ?_
  refine z_istore C (lv' := [(6, .int v), (5, .int k), (0, .ref b), (1, .ref (B0 + 0)), (2, .ref (B0 + 97)), (3, .ref (B0 + 133)), (4, .int (nI j))]) (by decide) rfl dL_law_523 ?_
  refine z_aload_n C rfl 4 rfl dL_law_525 ?_
  refine z_callV C zc_12 rfl (by decide) dL_law_526 yy_X12_thrown (c_X12_thrown (r := k) C.2.2.2.2.1 I2 L1 ht) q_1342 q_1343 q_1344 (by decide) (by decide) rfl rfl (Nat.le_of_ble_eq_true rfl) ⟨Nat.le_refl _, by omega, Nat.le_refl _, by omega⟩ ?_
  refine z_iload C 1 rfl dL_law_529 ?_
  refine z_icmp_eq C 536 (by decide) dL_law_531 (fun _ => ?_) (fun hc => absurd rfl hc)
  refine z_iload C 1 rfl dL_law_536 ?_
  refine z_if_ne C 553 (by decide) dL_law_538 (fun _ => ?_) (fun hk => ?_)
  · refine z_goto C 1227 (by decide) dL_law_553 ?_
    refine z_lv [2, 3, 4, 5, 6] (lv' := [(0, .ref b), (1, .ref (B0 + 0)), (2, .ref (B0 + 97)), (3, .ref (B0 + 133)), (4, .int (nI j))]) rfl ?_
    exact kk _ _ n hn hi
  · refine z_aload_n C rfl 5 rfl dL_law_541 ?_
    refine z_iconst C (v := 0) (by decide) dL_law_542 ?_
    refine z_laload C dL_law_543 (q := 133) (n := 1) rfl rfl (by decide) (zbd_in (by decide)) ?_
    refine z_iload C 0 rfl dL_law_544 ?_
    refine z_i2l C dL_law_546 ?_
    refine z_lif_eq C 553 (by decide) dL_law_547 dL_law_548 (fun _ => ?_) (fun hc => absurd (ho hk) hc)
    refine z_goto C 1227 (by decide) dL_law_553 ?_
    refine z_lv [2, 3, 4, 5, 6] (lv' := [(0, .ref b), (1, .ref (B0 + 0)), (2, .ref (B0 + 97)), (3, .ref (B0 + 133)), (4, .int (nI j))]) rfl ?_
    exact kk _ _ n hn hi
set_option maxHeartbeats 4000000 in
set_option maxRecDepth 100000 in
theorem law_c6 (Inv : zI → zL → Prop) (C : zC p l e R s m args below meth c s0 a0 d cy B0 own code 8 ret 0 0 601024 7293000 14 520 tb) (hown : own = "DeviceFindLaw") {b N j : Nat} {xs : Nat → Int32} (hX : va_X b N xs s0 s0.heap) (hb : b < B0) (hN : N ≤ 3585) (hj : j + 7 ≤ N) (hbc : bc + 1 ≤ 601024) (hbs : bs + 6 ≤ 7293000) (step : Sx_run Inv) (hinv : Inv I L)
    (kk : ∀ (I9 : zI) (L9 : zL) (n : Nat), n ≤ 1 → Inv I9 L9 → zG p l e R s m args below meth c d cy B0 8 0 0 Q 1227 [(0, .ref b), (1, .ref (B0 + 0)), (2, .ref (B0 + 97)), (3, .ref (B0 + 133)), (4, .int (nI j))] [] zSH zKn (bc + n) (bs + 6 * n) I9 L9) : zG p l e R s m args below meth c d cy B0 8 0 0 Q 556 [(0, .ref b), (1, .ref (B0 + 0)), (2, .ref (B0 + 97)), (3, .ref (B0 + 133)), (4, .int (nI j))] [] zSH zKn bc bs I L := by
  subst hown
  obtain ⟨P, hP, k, n, I1, L1, v, I2, L2, hn, hw, hm, ht, ho, hi⟩ := step I L  hinv
  refine z_aload_n C rfl 1 rfl dL_law_556 ?_
  refine z_aload_n C rfl 3 rfl dL_law_557 ?_
  refine z_callSW C dL_law_558 yy_L_run (c_L_run C.2.2.2.2.1 hP I L hw) q_864 q_865 (by decide) (by decide) rfl rfl (Nat.le_of_ble_eq_true rfl) ⟨by omega, by omega, by omega, by omega⟩ ?_
  refine z_istore C (lv' := [(5, .int k), (0, .ref b), (1, .ref (B0 + 0)), (2, .ref (B0 + 97)), (3, .ref (B0 + 133)), (4, .int (nI j))]) (by decide) rfl dL_law_561 ?_
  refine z_aload_n C rfl 3 rfl dL_law_563 ?_
  refine z_callV C zc_12 rfl (by decide) dL_law_564 yy_X12_run (c_X12_run (r := (v, I2, L2)) C.2.2.2.2.1  I1 L1 hm) q_1449 q_1450 q_1451 (by decide) (by decide) rfl rfl (Nat.le_of_ble_eq_true rfl) ⟨Nat.le_refl _, by omega, Nat.le_refl _, by omega⟩ ?_
  refine z_istore C (lv' := [(6, .int v), (5, .int k), (0, .ref b), (1, .ref (B0 + 0)), (2, .ref (B0 + 97)), (3, .ref (B0 + 133)), (4, .int (nI j))]) (by decide) rfl dL_law_567 ?_
  refine z_aload_n C rfl 4 rfl dL_law_569 ?_
  refine z_callV C zc_12 rfl (by decide) dL_law_570 yy_X12_thrown (c_X12_thrown (r := k) C.2.2.2.2.1 I2 L2 ht) q_1342 q_1343 q_1344 (by decide) (by decide) rfl rfl (Nat.le_of_ble_eq_true rfl) ⟨Nat.le_refl _, by omega, Nat.le_refl _, by omega⟩ ?_
  refine z_iload C 1 rfl dL_law_573 ?_
  refine z_icmp_eq C 580 (by decide) dL_law_575 (fun _ => ?_) (fun hc => absurd rfl hc)
  refine z_iload C 1 rfl dL_law_580 ?_
  refine z_if_ne C 597 (by decide) dL_law_582 (fun _ => ?_) (fun hk => ?_)
  · refine z_goto C 1227 (by decide) dL_law_597 ?_
    refine z_lv [2, 3, 4, 5, 6] (lv' := [(0, .ref b), (1, .ref (B0 + 0)), (2, .ref (B0 + 97)), (3, .ref (B0 + 133)), (4, .int (nI j))]) rfl ?_
    exact kk _ _ n hn hi
  · refine z_aload_n C rfl 5 rfl dL_law_585 ?_
    refine z_iconst C (v := 0) (by decide) dL_law_586 ?_
    refine z_laload C dL_law_587 (q := 133) (n := 1) rfl rfl (by decide) (zbd_in (by decide)) ?_
    refine z_iload C 0 rfl dL_law_588 ?_
    refine z_i2l C dL_law_590 ?_
    refine z_lif_eq C 597 (by decide) dL_law_591 dL_law_592 (fun _ => ?_) (fun hc => absurd (ho hk) hc)
    refine z_goto C 1227 (by decide) dL_law_597 ?_
    refine z_lv [2, 3, 4, 5, 6] (lv' := [(0, .ref b), (1, .ref (B0 + 0)), (2, .ref (B0 + 97)), (3, .ref (B0 + 133)), (4, .int (nI j))]) rfl ?_
    exact kk _ _ n hn hi
set_option maxHeartbeats 4000000 in
set_option maxRecDepth 100000 in
theorem law_c7 (Inv : zI → zL → Prop) (C : zC p l e R s m args below meth c s0 a0 d cy B0 own code 8 ret 0 0 601024 7293000 14 520 tb) (hown : own = "DeviceFindLaw") {b N j : Nat} {xs : Nat → Int32} (hX : va_X b N xs s0 s0.heap) (hb : b < B0) (hN : N ≤ 3585) (hj : j + 7 ≤ N) (hbc : bc + 1 ≤ 601024) (hbs : bs + 6 ≤ 7293000) (step : Sx_device Inv) (hinv : Inv I L)
    (kk : ∀ (I9 : zI) (L9 : zL) (n : Nat), n ≤ 1 → Inv I9 L9 → zG p l e R s m args below meth c d cy B0 8 0 0 Q 1227 [(0, .ref b), (1, .ref (B0 + 0)), (2, .ref (B0 + 97)), (3, .ref (B0 + 133)), (4, .int (nI j))] [] zSH zKn (bc + n) (bs + 6 * n) I9 L9) : zG p l e R s m args below meth c d cy B0 8 0 0 Q 600 [(0, .ref b), (1, .ref (B0 + 0)), (2, .ref (B0 + 97)), (3, .ref (B0 + 133)), (4, .int (nI j))] [] zSH zKn bc bs I L := by
  subst hown
  obtain ⟨k, n, I1, L1, v, I2, hn, hw, hm, ht, ho, hi⟩ := step I L (xs (j + 1)) (xs (j + 2)) hinv
  refine z_aload_n C rfl 1 rfl dL_law_600 ?_
  refine z_aload_n C rfl 0 rfl dL_law_601 ?_
  refine z_iload C 4 rfl dL_law_602 ?_
  refine z_iconst C (v := 1) (by decide) dL_law_604 ?_
  refine z_iadd C dL_law_605 ?_
  refine z_sld C hX hb dL_law_606 (j + 1) (nI_add j 1) (by omega) (by omega) ?_
  refine z_aload_n C rfl 0 rfl dL_law_607 ?_
  refine z_iload C 4 rfl dL_law_608 ?_
  refine z_iconst C (v := 2) (by decide) dL_law_610 ?_
  refine z_iadd C dL_law_611 ?_
  refine z_sld C hX hb dL_law_612 (j + 2) (nI_add j 2) (by omega) (by omega) ?_
  refine z_aload_n C rfl 3 rfl dL_law_613 ?_
  refine z_callSW C dL_law_614 yy_L_device (c_L_device C.2.2.2.2.1 (xs (j + 1)) (xs (j + 2)) I L hw) q_1071 q_1072 (by decide) (by decide) rfl rfl (Nat.le_of_ble_eq_true rfl) ⟨by omega, by omega, by omega, by omega⟩ ?_
  refine z_istore C (lv' := [(5, .int k), (0, .ref b), (1, .ref (B0 + 0)), (2, .ref (B0 + 97)), (3, .ref (B0 + 133)), (4, .int (nI j))]) (by decide) rfl dL_law_617 ?_
  refine z_aload_n C rfl 3 rfl dL_law_619 ?_
  refine z_aload_n C rfl 1 rfl dL_law_620 ?_
  refine z_iload C 5 rfl dL_law_621 ?_
  refine z_iconst C (v := 1) (by decide) dL_law_623 ?_
  refine z_iadd C dL_law_624 ?_
  refine z_sld C hX hb dL_law_625 (j + 1) (nI_add j 1) (by omega) (by omega) ?_
  refine z_aload_n C rfl 1 rfl dL_law_626 ?_
  refine z_iload C 5 rfl dL_law_627 ?_
  refine z_iconst C (v := 2) (by decide) dL_law_629 ?_
  refine z_iadd C dL_law_630 ?_
  refine z_sld C hX hb dL_law_631 (j + 2) (nI_add j 2) (by omega) (by omega) ?_
  refine z_callV C zc_12 rfl (by decide) dL_law_632 yy_X12_device (c_X12_device (r := (v, I2)) C.2.2.2.2.1 (xs (j + 1)) (xs (j + 2)) I1 L1 hm) q_1505 q_1506 q_1507 (by decide) (by decide) rfl rfl (Nat.le_of_ble_eq_true rfl) ⟨Nat.le_refl _, by omega, Nat.le_refl _, by omega⟩ ?_
  refine z_istore C (lv' := [(6, .int v), (5, .int k), (0, .ref b), (1, .ref (B0 + 0)), (2, .ref (B0 + 97)), (3, .ref (B0 + 133)), (4, .int (nI j))]) (by decide) rfl dL_law_635 ?_
  refine z_aload_n C rfl 4 rfl dL_law_637 ?_
  refine z_callV C zc_12 rfl (by decide) dL_law_638 yy_X12_thrown (c_X12_thrown (r := k) C.2.2.2.2.1 I2 L1 ht) q_1342 q_1343 q_1344 (by decide) (by decide) rfl rfl (Nat.le_of_ble_eq_true rfl) ⟨Nat.le_refl _, by omega, Nat.le_refl _, by omega⟩ ?_
  refine z_iload C 1 rfl dL_law_641 ?_
  refine z_icmp_eq C 648 (by decide) dL_law_643 (fun _ => ?_) (fun hc => absurd rfl hc)
  refine z_iload C 1 rfl dL_law_648 ?_
  refine z_if_ne C 665 (by decide) dL_law_650 (fun _ => ?_) (fun hk => ?_)
  · refine z_goto C 1227 (by decide) dL_law_665 ?_
    refine z_lv [2, 3, 4, 5, 6] (lv' := [(0, .ref b), (1, .ref (B0 + 0)), (2, .ref (B0 + 97)), (3, .ref (B0 + 133)), (4, .int (nI j))]) rfl ?_
    exact kk _ _ n hn hi
  · refine z_aload_n C rfl 5 rfl dL_law_653 ?_
    refine z_iconst C (v := 0) (by decide) dL_law_654 ?_
    refine z_laload C dL_law_655 (q := 133) (n := 1) rfl rfl (by decide) (zbd_in (by decide)) ?_
    refine z_iload C 0 rfl dL_law_656 ?_
    refine z_i2l C dL_law_658 ?_
    refine z_lif_eq C 665 (by decide) dL_law_659 dL_law_660 (fun _ => ?_) (fun hc => absurd (ho hk) hc)
    refine z_goto C 1227 (by decide) dL_law_665 ?_
    refine z_lv [2, 3, 4, 5, 6] (lv' := [(0, .ref b), (1, .ref (B0 + 0)), (2, .ref (B0 + 97)), (3, .ref (B0 + 133)), (4, .int (nI j))]) rfl ?_
    exact kk _ _ n hn hi
set_option maxHeartbeats 4000000 in
set_option maxRecDepth 100000 in
theorem law_c8 (Inv : zI → zL → Prop) (C : zC p l e R s m args below meth c s0 a0 d cy B0 own code 8 ret 0 0 601024 7293000 14 520 tb) (hown : own = "DeviceFindLaw") {b N j : Nat} {xs : Nat → Int32} (hX : va_X b N xs s0 s0.heap) (hb : b < B0) (hN : N ≤ 3585) (hj : j + 7 ≤ N) (hbc : bc + 1 ≤ 601024) (hbs : bs + 6 ≤ 7293000) (step : Sx_size Inv) (hinv : Inv I L)
    (kk : ∀ (I9 : zI) (L9 : zL) (n : Nat), n ≤ 1 → Inv I9 L9 → zG p l e R s m args below meth c d cy B0 8 0 0 Q 1227 [(0, .ref b), (1, .ref (B0 + 0)), (2, .ref (B0 + 97)), (3, .ref (B0 + 133)), (4, .int (nI j))] [] zSH zKn (bc + n) (bs + 6 * n) I9 L9) : zG p l e R s m args below meth c d cy B0 8 0 0 Q 668 [(0, .ref b), (1, .ref (B0 + 0)), (2, .ref (B0 + 97)), (3, .ref (B0 + 133)), (4, .int (nI j))] [] zSH zKn bc bs I L := by
  subst hown
  obtain ⟨k, n, I1, L1, v, I2, hn, hw, hm, ht, ho, hi⟩ := step I L (xs (j + 1)) (xs (j + 2)) hinv
  refine z_aload_n C rfl 1 rfl dL_law_668 ?_
  refine z_aload_n C rfl 0 rfl dL_law_669 ?_
  refine z_iload C 4 rfl dL_law_670 ?_
  refine z_iconst C (v := 1) (by decide) dL_law_672 ?_
  refine z_iadd C dL_law_673 ?_
  refine z_sld C hX hb dL_law_674 (j + 1) (nI_add j 1) (by omega) (by omega) ?_
  refine z_aload_n C rfl 0 rfl dL_law_675 ?_
  refine z_iload C 4 rfl dL_law_676 ?_
  refine z_iconst C (v := 2) (by decide) dL_law_678 ?_
  refine z_iadd C dL_law_679 ?_
  refine z_sld C hX hb dL_law_680 (j + 2) (nI_add j 2) (by omega) (by omega) ?_
  refine z_aload_n C rfl 3 rfl dL_law_681 ?_
  refine z_callSW C dL_law_682 yy_L_size (c_L_size C.2.2.2.2.1 (xs (j + 1)) (xs (j + 2)) I L hw) q_1080 q_1081 (by decide) (by decide) rfl rfl (Nat.le_of_ble_eq_true rfl) ⟨by omega, by omega, by omega, by omega⟩ ?_
  refine z_istore C (lv' := [(5, .int k), (0, .ref b), (1, .ref (B0 + 0)), (2, .ref (B0 + 97)), (3, .ref (B0 + 133)), (4, .int (nI j))]) (by decide) rfl dL_law_685 ?_
  refine z_aload_n C rfl 3 rfl dL_law_687 ?_
  refine z_aload_n C rfl 1 rfl dL_law_688 ?_
  refine z_iload C 5 rfl dL_law_689 ?_
  refine z_iconst C (v := 1) (by decide) dL_law_691 ?_
  refine z_iadd C dL_law_692 ?_
  refine z_sld C hX hb dL_law_693 (j + 1) (nI_add j 1) (by omega) (by omega) ?_
  refine z_aload_n C rfl 1 rfl dL_law_694 ?_
  refine z_iload C 5 rfl dL_law_695 ?_
  refine z_iconst C (v := 2) (by decide) dL_law_697 ?_
  refine z_iadd C dL_law_698 ?_
  refine z_sld C hX hb dL_law_699 (j + 2) (nI_add j 2) (by omega) (by omega) ?_
  refine z_callV C zc_12 rfl (by decide) dL_law_700 yy_X12_size (c_X12_size (r := (v, I2)) C.2.2.2.2.1 (xs (j + 1)) (xs (j + 2)) I1 L1 hm) q_1513 q_1514 q_1515 (by decide) (by decide) rfl rfl (Nat.le_of_ble_eq_true rfl) ⟨Nat.le_refl _, by omega, Nat.le_refl _, by omega⟩ ?_
  refine z_lstore C (lv' := [(6, .long v), (5, .int k), (0, .ref b), (1, .ref (B0 + 0)), (2, .ref (B0 + 97)), (3, .ref (B0 + 133)), (4, .int (nI j))]) (by decide) rfl dL_law_703 ?_
  refine z_aload_n C rfl 4 rfl dL_law_705 ?_
  refine z_callV C zc_12 rfl (by decide) dL_law_706 yy_X12_thrown (c_X12_thrown (r := k) C.2.2.2.2.1 I2 L1 ht) q_1342 q_1343 q_1344 (by decide) (by decide) rfl rfl (Nat.le_of_ble_eq_true rfl) ⟨Nat.le_refl _, by omega, Nat.le_refl _, by omega⟩ ?_
  refine z_iload C 1 rfl dL_law_709 ?_
  refine z_icmp_eq C 716 (by decide) dL_law_711 (fun _ => ?_) (fun hc => absurd rfl hc)
  refine z_iload C 1 rfl dL_law_716 ?_
  refine z_if_ne C 732 (by decide) dL_law_718 (fun _ => ?_) (fun hk => ?_)
  · refine z_goto C 1227 (by decide) dL_law_732 ?_
    refine z_lv [2, 3, 4, 5, 6] (lv' := [(0, .ref b), (1, .ref (B0 + 0)), (2, .ref (B0 + 97)), (3, .ref (B0 + 133)), (4, .int (nI j))]) rfl ?_
    exact kk _ _ n hn hi
  · refine z_aload_n C rfl 5 rfl dL_law_721 ?_
    refine z_iconst C (v := 0) (by decide) dL_law_722 ?_
    refine z_laload C dL_law_723 (q := 133) (n := 1) rfl rfl (by decide) (zbd_in (by decide)) ?_
    refine z_lload C 0 rfl dL_law_724 ?_
    refine z_lif_eq C 732 (by decide) dL_law_726 dL_law_727 (fun _ => ?_) (fun hc => absurd (ho hk) hc)
    refine z_goto C 1227 (by decide) dL_law_732 ?_
    refine z_lv [2, 3, 4, 5, 6] (lv' := [(0, .ref b), (1, .ref (B0 + 0)), (2, .ref (B0 + 97)), (3, .ref (B0 + 133)), (4, .int (nI j))]) rfl ?_
    exact kk _ _ n hn hi
set_option maxHeartbeats 4000000 in
set_option maxRecDepth 100000 in
theorem law_c9 (Inv : zI → zL → Prop) (C : zC p l e R s m args below meth c s0 a0 d cy B0 own code 8 ret 0 0 601024 7293000 14 520 tb) (hown : own = "DeviceFindLaw") {b N j : Nat} {xs : Nat → Int32} (hX : va_X b N xs s0 s0.heap) (hb : b < B0) (hN : N ≤ 3585) (hj : j + 7 ≤ N) (hbc : bc + 1 ≤ 601024) (hbs : bs + 6 ≤ 7293000) (step : Sx_pin Inv) (hinv : Inv I L)
    (kk : ∀ (I9 : zI) (L9 : zL) (n : Nat), n ≤ 1 → Inv I9 L9 → zG p l e R s m args below meth c d cy B0 8 0 0 Q 1227 [(0, .ref b), (1, .ref (B0 + 0)), (2, .ref (B0 + 97)), (3, .ref (B0 + 133)), (4, .int (nI j))] [] zSH zKn (bc + n) (bs + 6 * n) I9 L9) : zG p l e R s m args below meth c d cy B0 8 0 0 Q 735 [(0, .ref b), (1, .ref (B0 + 0)), (2, .ref (B0 + 97)), (3, .ref (B0 + 133)), (4, .int (nI j))] [] zSH zKn bc bs I L := by
  subst hown
  obtain ⟨P, hP, k, n, I1, L1, v, I2, hn, hw, hm, ht, ho, hi⟩ := step I L (xs (j + 1)) (xs (j + 2)) hinv
  refine z_aload_n C rfl 1 rfl dL_law_735 ?_
  refine z_aload_n C rfl 0 rfl dL_law_736 ?_
  refine z_iload C 4 rfl dL_law_737 ?_
  refine z_iconst C (v := 1) (by decide) dL_law_739 ?_
  refine z_iadd C dL_law_740 ?_
  refine z_sld C hX hb dL_law_741 (j + 1) (nI_add j 1) (by omega) (by omega) ?_
  refine z_aload_n C rfl 0 rfl dL_law_742 ?_
  refine z_iload C 4 rfl dL_law_743 ?_
  refine z_iconst C (v := 2) (by decide) dL_law_745 ?_
  refine z_iadd C dL_law_746 ?_
  refine z_sld C hX hb dL_law_747 (j + 2) (nI_add j 2) (by omega) (by omega) ?_
  refine z_aload_n C rfl 3 rfl dL_law_748 ?_
  refine z_callSW C dL_law_749 yy_L_pin (c_L_pin C.2.2.2.2.1 hP (xs (j + 1)) (xs (j + 2)) I L hw) q_1087 q_1088 (by decide) (by decide) rfl rfl (Nat.le_of_ble_eq_true rfl) ⟨by omega, by omega, by omega, by omega⟩ ?_
  refine z_istore C (lv' := [(5, .int k), (0, .ref b), (1, .ref (B0 + 0)), (2, .ref (B0 + 97)), (3, .ref (B0 + 133)), (4, .int (nI j))]) (by decide) rfl dL_law_752 ?_
  refine z_aload_n C rfl 3 rfl dL_law_754 ?_
  refine z_aload_n C rfl 1 rfl dL_law_755 ?_
  refine z_iload C 5 rfl dL_law_756 ?_
  refine z_iconst C (v := 1) (by decide) dL_law_758 ?_
  refine z_iadd C dL_law_759 ?_
  refine z_sld C hX hb dL_law_760 (j + 1) (nI_add j 1) (by omega) (by omega) ?_
  refine z_aload_n C rfl 1 rfl dL_law_761 ?_
  refine z_iload C 5 rfl dL_law_762 ?_
  refine z_iconst C (v := 2) (by decide) dL_law_764 ?_
  refine z_iadd C dL_law_765 ?_
  refine z_sld C hX hb dL_law_766 (j + 2) (nI_add j 2) (by omega) (by omega) ?_
  refine z_callV C zc_12 rfl (by decide) dL_law_767 yy_X12_pin (c_X12_pin (r := (v, I2)) C.2.2.2.2.1 (xs (j + 1)) (xs (j + 2)) I1 L1 hm) q_1517 q_1518 q_1519 (by decide) (by decide) rfl rfl (Nat.le_of_ble_eq_true rfl) ⟨Nat.le_refl _, by omega, Nat.le_refl _, by omega⟩ ?_
  refine z_istore C (lv' := [(6, .int v), (5, .int k), (0, .ref b), (1, .ref (B0 + 0)), (2, .ref (B0 + 97)), (3, .ref (B0 + 133)), (4, .int (nI j))]) (by decide) rfl dL_law_770 ?_
  refine z_aload_n C rfl 4 rfl dL_law_772 ?_
  refine z_callV C zc_12 rfl (by decide) dL_law_773 yy_X12_thrown (c_X12_thrown (r := k) C.2.2.2.2.1 I2 L1 ht) q_1342 q_1343 q_1344 (by decide) (by decide) rfl rfl (Nat.le_of_ble_eq_true rfl) ⟨Nat.le_refl _, by omega, Nat.le_refl _, by omega⟩ ?_
  refine z_iload C 1 rfl dL_law_776 ?_
  refine z_icmp_eq C 783 (by decide) dL_law_778 (fun _ => ?_) (fun hc => absurd rfl hc)
  refine z_iload C 1 rfl dL_law_783 ?_
  refine z_if_ne C 800 (by decide) dL_law_785 (fun _ => ?_) (fun hk => ?_)
  · refine z_goto C 1227 (by decide) dL_law_800 ?_
    refine z_lv [2, 3, 4, 5, 6] (lv' := [(0, .ref b), (1, .ref (B0 + 0)), (2, .ref (B0 + 97)), (3, .ref (B0 + 133)), (4, .int (nI j))]) rfl ?_
    exact kk _ _ n hn hi
  · refine z_aload_n C rfl 5 rfl dL_law_788 ?_
    refine z_iconst C (v := 0) (by decide) dL_law_789 ?_
    refine z_laload C dL_law_790 (q := 133) (n := 1) rfl rfl (by decide) (zbd_in (by decide)) ?_
    refine z_iload C 0 rfl dL_law_791 ?_
    refine z_i2l C dL_law_793 ?_
    refine z_lif_eq C 800 (by decide) dL_law_794 dL_law_795 (fun _ => ?_) (fun hc => absurd (ho hk) hc)
    refine z_goto C 1227 (by decide) dL_law_800 ?_
    refine z_lv [2, 3, 4, 5, 6] (lv' := [(0, .ref b), (1, .ref (B0 + 0)), (2, .ref (B0 + 97)), (3, .ref (B0 + 133)), (4, .int (nI j))]) rfl ?_
    exact kk _ _ n hn hi
set_option maxHeartbeats 4000000 in
set_option maxRecDepth 100000 in
theorem law_c10 (Inv : zI → zL → Prop) (C : zC p l e R s m args below meth c s0 a0 d cy B0 own code 8 ret 0 0 601024 7293000 14 520 tb) (hown : own = "DeviceFindLaw") {b N j : Nat} {xs : Nat → Int32} (hX : va_X b N xs s0 s0.heap) (hb : b < B0) (hN : N ≤ 3585) (hj : j + 7 ≤ N) (hbc : bc + 1 ≤ 601024) (hbs : bs + 6 ≤ 7293000) (step : Sx_net Inv) (hinv : Inv I L)
    (kk : ∀ (I9 : zI) (L9 : zL) (n : Nat), n ≤ 1 → Inv I9 L9 → zG p l e R s m args below meth c d cy B0 8 0 0 Q 1227 [(0, .ref b), (1, .ref (B0 + 0)), (2, .ref (B0 + 97)), (3, .ref (B0 + 133)), (4, .int (nI j))] [] zSH zKn (bc + n) (bs + 6 * n) I9 L9) : zG p l e R s m args below meth c d cy B0 8 0 0 Q 803 [(0, .ref b), (1, .ref (B0 + 0)), (2, .ref (B0 + 97)), (3, .ref (B0 + 133)), (4, .int (nI j))] [] zSH zKn bc bs I L := by
  subst hown
  obtain ⟨P, hP, k, n, I1, L1, v, I2, hn, hw, hm, ht, ho, hi⟩ := step I L (xs (j + 1)) (((xs (j + 2)).toInt64 <<< ((32 : Int32).toInt64 &&& 63)) ||| ((xs (j + 3)).toInt64 &&& (4294967295 : Int64))) (((xs (j + 4)).toInt64 <<< ((32 : Int32).toInt64 &&& 63)) ||| ((xs (j + 5)).toInt64 &&& (4294967295 : Int64))) hinv
  refine z_aload_n C rfl 1 rfl dL_law_803 ?_
  refine z_aload_n C rfl 0 rfl dL_law_804 ?_
  refine z_iload C 4 rfl dL_law_805 ?_
  refine z_iconst C (v := 1) (by decide) dL_law_807 ?_
  refine z_iadd C dL_law_808 ?_
  refine z_sld C hX hb dL_law_809 (j + 1) (nI_add j 1) (by omega) (by omega) ?_
  refine z_aload_n C rfl 0 rfl dL_law_810 ?_
  refine z_iload C 4 rfl dL_law_811 ?_
  refine z_iconst C (v := 2) (by decide) dL_law_813 ?_
  refine z_iadd C dL_law_814 ?_
  refine z_sld C hX hb dL_law_815 (j + 2) (nI_add j 2) (by omega) (by omega) ?_
  refine z_i2l C dL_law_816 ?_
  refine z_bipush C (v := 32) (by decide) dL_law_817 ?_
  refine z_lshl C dL_law_819 ?_
  refine z_aload_n C rfl 0 rfl dL_law_820 ?_
  refine z_iload C 4 rfl dL_law_821 ?_
  refine z_iconst C (v := 3) (by decide) dL_law_823 ?_
  refine z_iadd C dL_law_824 ?_
  refine z_sld C hX hb dL_law_825 (j + 3) (nI_add j 3) (by omega) (by omega) ?_
  refine z_i2l C dL_law_826 ?_
  refine z_ldc2 C dL_law_827 q_1553 ?_
  refine z_land C dL_law_830 ?_
  refine z_lor C dL_law_831 ?_
  refine z_aload_n C rfl 0 rfl dL_law_832 ?_
  refine z_iload C 4 rfl dL_law_833 ?_
  refine z_iconst C (v := 4) (by decide) dL_law_835 ?_
  refine z_iadd C dL_law_836 ?_
  refine z_sld C hX hb dL_law_837 (j + 4) (nI_add j 4) (by omega) (by omega) ?_
  refine z_i2l C dL_law_838 ?_
  refine z_bipush C (v := 32) (by decide) dL_law_839 ?_
  refine z_lshl C dL_law_841 ?_
  refine z_aload_n C rfl 0 rfl dL_law_842 ?_
  refine z_iload C 4 rfl dL_law_843 ?_
  refine z_iconst C (v := 5) (by decide) dL_law_845 ?_
  refine z_iadd C dL_law_846 ?_
  refine z_sld C hX hb dL_law_847 (j + 5) (nI_add j 5) (by omega) (by omega) ?_
  refine z_i2l C dL_law_848 ?_
  refine z_ldc2 C dL_law_849 q_1553 ?_
  refine z_land C dL_law_852 ?_
  refine z_lor C dL_law_853 ?_
  refine z_aload_n C rfl 3 rfl dL_law_854 ?_
  refine z_callSW C dL_law_855 yy_L_net (c_L_net C.2.2.2.2.1 hP (xs (j + 1)) (((xs (j + 2)).toInt64 <<< ((32 : Int32).toInt64 &&& 63)) ||| ((xs (j + 3)).toInt64 &&& (4294967295 : Int64))) (((xs (j + 4)).toInt64 <<< ((32 : Int32).toInt64 &&& 63)) ||| ((xs (j + 5)).toInt64 &&& (4294967295 : Int64))) I L hw) q_1094 q_1095 (by decide) (by decide) rfl rfl (Nat.le_of_ble_eq_true rfl) ⟨by omega, by omega, by omega, by omega⟩ ?_
  refine z_istore C (lv' := [(5, .int k), (0, .ref b), (1, .ref (B0 + 0)), (2, .ref (B0 + 97)), (3, .ref (B0 + 133)), (4, .int (nI j))]) (by decide) rfl dL_law_858 ?_
  refine z_aload_n C rfl 3 rfl dL_law_860 ?_
  refine z_aload_n C rfl 1 rfl dL_law_861 ?_
  refine z_iload C 5 rfl dL_law_862 ?_
  refine z_iconst C (v := 1) (by decide) dL_law_864 ?_
  refine z_iadd C dL_law_865 ?_
  refine z_sld C hX hb dL_law_866 (j + 1) (nI_add j 1) (by omega) (by omega) ?_
  refine z_aload_n C rfl 1 rfl dL_law_867 ?_
  refine z_iload C 5 rfl dL_law_868 ?_
  refine z_iconst C (v := 2) (by decide) dL_law_870 ?_
  refine z_iadd C dL_law_871 ?_
  refine z_sld C hX hb dL_law_872 (j + 2) (nI_add j 2) (by omega) (by omega) ?_
  refine z_i2l C dL_law_873 ?_
  refine z_bipush C (v := 32) (by decide) dL_law_874 ?_
  refine z_lshl C dL_law_876 ?_
  refine z_aload_n C rfl 1 rfl dL_law_877 ?_
  refine z_iload C 5 rfl dL_law_878 ?_
  refine z_iconst C (v := 3) (by decide) dL_law_880 ?_
  refine z_iadd C dL_law_881 ?_
  refine z_sld C hX hb dL_law_882 (j + 3) (nI_add j 3) (by omega) (by omega) ?_
  refine z_i2l C dL_law_883 ?_
  refine z_ldc2 C dL_law_884 q_1553 ?_
  refine z_land C dL_law_887 ?_
  refine z_lor C dL_law_888 ?_
  refine z_aload_n C rfl 1 rfl dL_law_889 ?_
  refine z_iload C 5 rfl dL_law_890 ?_
  refine z_iconst C (v := 4) (by decide) dL_law_892 ?_
  refine z_iadd C dL_law_893 ?_
  refine z_sld C hX hb dL_law_894 (j + 4) (nI_add j 4) (by omega) (by omega) ?_
  refine z_i2l C dL_law_895 ?_
  refine z_bipush C (v := 32) (by decide) dL_law_896 ?_
  refine z_lshl C dL_law_898 ?_
  refine z_aload_n C rfl 1 rfl dL_law_899 ?_
  refine z_iload C 5 rfl dL_law_900 ?_
  refine z_iconst C (v := 5) (by decide) dL_law_902 ?_
  refine z_iadd C dL_law_903 ?_
  refine z_sld C hX hb dL_law_904 (j + 5) (nI_add j 5) (by omega) (by omega) ?_
  refine z_i2l C dL_law_905 ?_
  refine z_ldc2 C dL_law_906 q_1553 ?_
  refine z_land C dL_law_909 ?_
  refine z_lor C dL_law_910 ?_
  refine z_callV C zc_12 rfl (by decide) dL_law_911 yy_X12_net (c_X12_net (r := (v, I2)) C.2.2.2.2.1 (xs (j + 1)) (((xs (j + 2)).toInt64 <<< ((32 : Int32).toInt64 &&& 63)) ||| ((xs (j + 3)).toInt64 &&& (4294967295 : Int64))) (((xs (j + 4)).toInt64 <<< ((32 : Int32).toInt64 &&& 63)) ||| ((xs (j + 5)).toInt64 &&& (4294967295 : Int64))) I1 L1 hm) q_1525 q_1526 q_1527 (by decide) (by decide) rfl rfl (Nat.le_of_ble_eq_true rfl) ⟨Nat.le_refl _, by omega, Nat.le_refl _, by omega⟩ ?_
  refine z_istore C (lv' := [(6, .int v), (5, .int k), (0, .ref b), (1, .ref (B0 + 0)), (2, .ref (B0 + 97)), (3, .ref (B0 + 133)), (4, .int (nI j))]) (by decide) rfl dL_law_914 ?_
  refine z_aload_n C rfl 4 rfl dL_law_916 ?_
  refine z_callV C zc_12 rfl (by decide) dL_law_917 yy_X12_thrown (c_X12_thrown (r := k) C.2.2.2.2.1 I2 L1 ht) q_1342 q_1343 q_1344 (by decide) (by decide) rfl rfl (Nat.le_of_ble_eq_true rfl) ⟨Nat.le_refl _, by omega, Nat.le_refl _, by omega⟩ ?_
  refine z_iload C 1 rfl dL_law_920 ?_
  refine z_icmp_eq C 927 (by decide) dL_law_922 (fun _ => ?_) (fun hc => absurd rfl hc)
  refine z_iload C 1 rfl dL_law_927 ?_
  refine z_if_ne C 944 (by decide) dL_law_929 (fun _ => ?_) (fun hk => ?_)
  · refine z_goto C 1227 (by decide) dL_law_944 ?_
    refine z_lv [2, 3, 4, 5, 6] (lv' := [(0, .ref b), (1, .ref (B0 + 0)), (2, .ref (B0 + 97)), (3, .ref (B0 + 133)), (4, .int (nI j))]) rfl ?_
    exact kk _ _ n hn hi
  · refine z_aload_n C rfl 5 rfl dL_law_932 ?_
    refine z_iconst C (v := 0) (by decide) dL_law_933 ?_
    refine z_laload C dL_law_934 (q := 133) (n := 1) rfl rfl (by decide) (zbd_in (by decide)) ?_
    refine z_iload C 0 rfl dL_law_935 ?_
    refine z_i2l C dL_law_937 ?_
    refine z_lif_eq C 944 (by decide) dL_law_938 dL_law_939 (fun _ => ?_) (fun hc => absurd (ho hk) hc)
    refine z_goto C 1227 (by decide) dL_law_944 ?_
    refine z_lv [2, 3, 4, 5, 6] (lv' := [(0, .ref b), (1, .ref (B0 + 0)), (2, .ref (B0 + 97)), (3, .ref (B0 + 133)), (4, .int (nI j))]) rfl ?_
    exact kk _ _ n hn hi
set_option maxHeartbeats 4000000 in
set_option maxRecDepth 100000 in
theorem law_c11 (Inv : zI → zL → Prop) (C : zC p l e R s m args below meth c s0 a0 d cy B0 own code 8 ret 0 0 601024 7293000 14 520 tb) (hown : own = "DeviceFindLaw") {b N j : Nat} {xs : Nat → Int32} (hX : va_X b N xs s0 s0.heap) (hb : b < B0) (hN : N ≤ 3585) (hj : j + 7 ≤ N) (hbc : bc + 1 ≤ 601024) (hbs : bs + 6 ≤ 7293000) (step : Sx_named Inv) (hinv : Inv I L)
    (kk : ∀ (I9 : zI) (L9 : zL) (n : Nat), n ≤ 1 → Inv I9 L9 → zG p l e R s m args below meth c d cy B0 8 0 0 Q 1227 [(0, .ref b), (1, .ref (B0 + 0)), (2, .ref (B0 + 97)), (3, .ref (B0 + 133)), (4, .int (nI j))] [] zSH zKn (bc + n) (bs + 6 * n) I9 L9) : zG p l e R s m args below meth c d cy B0 8 0 0 Q 947 [(0, .ref b), (1, .ref (B0 + 0)), (2, .ref (B0 + 97)), (3, .ref (B0 + 133)), (4, .int (nI j))] [] zSH zKn bc bs I L := by
  subst hown
  obtain ⟨k, n, I1, L1, v, I2, hn, hw, hm, ht, ho, hi⟩ := step I L (xs (j + 1)) hinv
  refine z_aload_n C rfl 1 rfl dL_law_947 ?_
  refine z_aload_n C rfl 0 rfl dL_law_948 ?_
  refine z_iload C 4 rfl dL_law_949 ?_
  refine z_iconst C (v := 1) (by decide) dL_law_951 ?_
  refine z_iadd C dL_law_952 ?_
  refine z_sld C hX hb dL_law_953 (j + 1) (nI_add j 1) (by omega) (by omega) ?_
  refine z_aload_n C rfl 3 rfl dL_law_954 ?_
  refine z_callSW C dL_law_955 yy_L_named (c_L_named C.2.2.2.2.1 (xs (j + 1)) I L hw) q_1102 q_1103 (by decide) (by decide) rfl rfl (Nat.le_of_ble_eq_true rfl) ⟨by omega, by omega, by omega, by omega⟩ ?_
  refine z_istore C (lv' := [(5, .int k), (0, .ref b), (1, .ref (B0 + 0)), (2, .ref (B0 + 97)), (3, .ref (B0 + 133)), (4, .int (nI j))]) (by decide) rfl dL_law_958 ?_
  refine z_aload_n C rfl 3 rfl dL_law_960 ?_
  refine z_aload_n C rfl 1 rfl dL_law_961 ?_
  refine z_iload C 5 rfl dL_law_962 ?_
  refine z_iconst C (v := 1) (by decide) dL_law_964 ?_
  refine z_iadd C dL_law_965 ?_
  refine z_sld C hX hb dL_law_966 (j + 1) (nI_add j 1) (by omega) (by omega) ?_
  refine z_callV C zc_12 rfl (by decide) dL_law_967 yy_X12_named (c_X12_named (r := (v, I2)) C.2.2.2.2.1 (xs (j + 1)) I1 L1 hm) q_1529 q_1530 q_1531 (by decide) (by decide) rfl rfl (Nat.le_of_ble_eq_true rfl) ⟨Nat.le_refl _, by omega, Nat.le_refl _, by omega⟩ ?_
  refine z_istore C (lv' := [(6, .int v), (5, .int k), (0, .ref b), (1, .ref (B0 + 0)), (2, .ref (B0 + 97)), (3, .ref (B0 + 133)), (4, .int (nI j))]) (by decide) rfl dL_law_970 ?_
  refine z_aload_n C rfl 4 rfl dL_law_972 ?_
  refine z_callV C zc_12 rfl (by decide) dL_law_973 yy_X12_thrown (c_X12_thrown (r := k) C.2.2.2.2.1 I2 L1 ht) q_1342 q_1343 q_1344 (by decide) (by decide) rfl rfl (Nat.le_of_ble_eq_true rfl) ⟨Nat.le_refl _, by omega, Nat.le_refl _, by omega⟩ ?_
  refine z_iload C 1 rfl dL_law_976 ?_
  refine z_icmp_eq C 983 (by decide) dL_law_978 (fun _ => ?_) (fun hc => absurd rfl hc)
  refine z_iload C 1 rfl dL_law_983 ?_
  refine z_if_ne C 1000 (by decide) dL_law_985 (fun _ => ?_) (fun hk => ?_)
  · refine z_goto C 1227 (by decide) dL_law_1000 ?_
    refine z_lv [2, 3, 4, 5, 6] (lv' := [(0, .ref b), (1, .ref (B0 + 0)), (2, .ref (B0 + 97)), (3, .ref (B0 + 133)), (4, .int (nI j))]) rfl ?_
    exact kk _ _ n hn hi
  · refine z_aload_n C rfl 5 rfl dL_law_988 ?_
    refine z_iconst C (v := 0) (by decide) dL_law_989 ?_
    refine z_laload C dL_law_990 (q := 133) (n := 1) rfl rfl (by decide) (zbd_in (by decide)) ?_
    refine z_iload C 0 rfl dL_law_991 ?_
    refine z_i2l C dL_law_993 ?_
    refine z_lif_eq C 1000 (by decide) dL_law_994 dL_law_995 (fun _ => ?_) (fun hc => absurd (ho hk) hc)
    refine z_goto C 1227 (by decide) dL_law_1000 ?_
    refine z_lv [2, 3, 4, 5, 6] (lv' := [(0, .ref b), (1, .ref (B0 + 0)), (2, .ref (B0 + 97)), (3, .ref (B0 + 133)), (4, .int (nI j))]) rfl ?_
    exact kk _ _ n hn hi
set_option maxHeartbeats 4000000 in
set_option maxRecDepth 100000 in
theorem law_c12 (Inv : zI → zL → Prop) (C : zC p l e R s m args below meth c s0 a0 d cy B0 own code 8 ret 0 0 601024 7293000 14 520 tb) (hown : own = "DeviceFindLaw") {b N j : Nat} {xs : Nat → Int32} (hX : va_X b N xs s0 s0.heap) (hb : b < B0) (hN : N ≤ 3585) (hj : j + 7 ≤ N) (hbc : bc + 1 ≤ 601024) (hbs : bs + 6 ≤ 7293000) (step : Sx_twice Inv) (hinv : Inv I L)
    (kk : ∀ (I9 : zI) (L9 : zL) (n : Nat), n ≤ 1 → Inv I9 L9 → zG p l e R s m args below meth c d cy B0 8 0 0 Q 1227 [(0, .ref b), (1, .ref (B0 + 0)), (2, .ref (B0 + 97)), (3, .ref (B0 + 133)), (4, .int (nI j))] [] zSH zKn (bc + n) (bs + 6 * n) I9 L9) : zG p l e R s m args below meth c d cy B0 8 0 0 Q 1003 [(0, .ref b), (1, .ref (B0 + 0)), (2, .ref (B0 + 97)), (3, .ref (B0 + 133)), (4, .int (nI j))] [] zSH zKn bc bs I L := by
  subst hown
  obtain ⟨k, n, I1, L1, v, I2, hn, hw, hm, ht, ho, hi⟩ := step I L (xs (j + 1)) hinv
  refine z_aload_n C rfl 1 rfl dL_law_1003 ?_
  refine z_aload_n C rfl 0 rfl dL_law_1004 ?_
  refine z_iload C 4 rfl dL_law_1005 ?_
  refine z_iconst C (v := 1) (by decide) dL_law_1007 ?_
  refine z_iadd C dL_law_1008 ?_
  refine z_sld C hX hb dL_law_1009 (j + 1) (nI_add j 1) (by omega) (by omega) ?_
  refine z_aload_n C rfl 3 rfl dL_law_1010 ?_
  refine z_callSW C dL_law_1011 yy_L_twice (c_L_twice C.2.2.2.2.1 (xs (j + 1)) I L hw) q_1113 q_1114 (by decide) (by decide) rfl rfl (Nat.le_of_ble_eq_true rfl) ⟨by omega, by omega, by omega, by omega⟩ ?_
  refine z_istore C (lv' := [(5, .int k), (0, .ref b), (1, .ref (B0 + 0)), (2, .ref (B0 + 97)), (3, .ref (B0 + 133)), (4, .int (nI j))]) (by decide) rfl dL_law_1014 ?_
  refine z_aload_n C rfl 3 rfl dL_law_1016 ?_
  refine z_aload_n C rfl 1 rfl dL_law_1017 ?_
  refine z_iload C 5 rfl dL_law_1018 ?_
  refine z_iconst C (v := 1) (by decide) dL_law_1020 ?_
  refine z_iadd C dL_law_1021 ?_
  refine z_sld C hX hb dL_law_1022 (j + 1) (nI_add j 1) (by omega) (by omega) ?_
  refine z_callV C zc_12 rfl (by decide) dL_law_1023 yy_X12_twice (c_X12_twice (r := (v, I2)) C.2.2.2.2.1 (xs (j + 1)) I1 L1 hm) q_1537 q_1538 q_1539 (by decide) (by decide) rfl rfl (Nat.le_of_ble_eq_true rfl) ⟨Nat.le_refl _, by omega, Nat.le_refl _, by omega⟩ ?_
  refine z_istore C (lv' := [(6, .int v), (5, .int k), (0, .ref b), (1, .ref (B0 + 0)), (2, .ref (B0 + 97)), (3, .ref (B0 + 133)), (4, .int (nI j))]) (by decide) rfl dL_law_1026 ?_
  refine z_aload_n C rfl 4 rfl dL_law_1028 ?_
  refine z_callV C zc_12 rfl (by decide) dL_law_1029 yy_X12_thrown (c_X12_thrown (r := k) C.2.2.2.2.1 I2 L1 ht) q_1342 q_1343 q_1344 (by decide) (by decide) rfl rfl (Nat.le_of_ble_eq_true rfl) ⟨Nat.le_refl _, by omega, Nat.le_refl _, by omega⟩ ?_
  refine z_iload C 1 rfl dL_law_1032 ?_
  refine z_icmp_eq C 1039 (by decide) dL_law_1034 (fun _ => ?_) (fun hc => absurd rfl hc)
  refine z_iload C 1 rfl dL_law_1039 ?_
  refine z_if_ne C 1056 (by decide) dL_law_1041 (fun _ => ?_) (fun hk => ?_)
  · refine z_goto C 1227 (by decide) dL_law_1056 ?_
    refine z_lv [2, 3, 4, 5, 6] (lv' := [(0, .ref b), (1, .ref (B0 + 0)), (2, .ref (B0 + 97)), (3, .ref (B0 + 133)), (4, .int (nI j))]) rfl ?_
    exact kk _ _ n hn hi
  · refine z_aload_n C rfl 5 rfl dL_law_1044 ?_
    refine z_iconst C (v := 0) (by decide) dL_law_1045 ?_
    refine z_laload C dL_law_1046 (q := 133) (n := 1) rfl rfl (by decide) (zbd_in (by decide)) ?_
    refine z_iload C 0 rfl dL_law_1047 ?_
    refine z_i2l C dL_law_1049 ?_
    refine z_lif_eq C 1056 (by decide) dL_law_1050 dL_law_1051 (fun _ => ?_) (fun hc => absurd (ho hk) hc)
    refine z_goto C 1227 (by decide) dL_law_1056 ?_
    refine z_lv [2, 3, 4, 5, 6] (lv' := [(0, .ref b), (1, .ref (B0 + 0)), (2, .ref (B0 + 97)), (3, .ref (B0 + 133)), (4, .int (nI j))]) rfl ?_
    exact kk _ _ n hn hi
set_option maxHeartbeats 4000000 in
set_option maxRecDepth 100000 in
theorem law_c13 (Inv : zI → zL → Prop) (C : zC p l e R s m args below meth c s0 a0 d cy B0 own code 8 ret 0 0 601024 7293000 14 520 tb) (hown : own = "DeviceFindLaw") {b N j : Nat} {xs : Nat → Int32} (hX : va_X b N xs s0 s0.heap) (hb : b < B0) (hN : N ≤ 3585) (hj : j + 7 ≤ N) (hbc : bc + 1 ≤ 601024) (hbs : bs + 6 ≤ 7293000) (step : Sx_bad Inv) (hinv : Inv I L)
    (kk : ∀ (I9 : zI) (L9 : zL) (n : Nat), n ≤ 1 → Inv I9 L9 → zG p l e R s m args below meth c d cy B0 8 0 0 Q 1227 [(0, .ref b), (1, .ref (B0 + 0)), (2, .ref (B0 + 97)), (3, .ref (B0 + 133)), (4, .int (nI j))] [] zSH zKn (bc + n) (bs + 6 * n) I9 L9) : zG p l e R s m args below meth c d cy B0 8 0 0 Q 1059 [(0, .ref b), (1, .ref (B0 + 0)), (2, .ref (B0 + 97)), (3, .ref (B0 + 133)), (4, .int (nI j))] [] zSH zKn bc bs I L := by
  subst hown
  obtain ⟨k, n, I1, L1, v, I2, hn, hw, hm, ht, ho, hi⟩ := step I L (xs (j + 1)) hinv
  refine z_aload_n C rfl 1 rfl dL_law_1059 ?_
  refine z_aload_n C rfl 0 rfl dL_law_1060 ?_
  refine z_iload C 4 rfl dL_law_1061 ?_
  refine z_iconst C (v := 1) (by decide) dL_law_1063 ?_
  refine z_iadd C dL_law_1064 ?_
  refine z_sld C hX hb dL_law_1065 (j + 1) (nI_add j 1) (by omega) (by omega) ?_
  refine z_aload_n C rfl 3 rfl dL_law_1066 ?_
  refine z_callSW C dL_law_1067 yy_L_bad (c_L_bad C.2.2.2.2.1 (xs (j + 1)) I L hw) q_1135 q_1136 (by decide) (by decide) rfl rfl (Nat.le_of_ble_eq_true rfl) ⟨by omega, by omega, by omega, by omega⟩ ?_
  refine z_istore C (lv' := [(5, .int k), (0, .ref b), (1, .ref (B0 + 0)), (2, .ref (B0 + 97)), (3, .ref (B0 + 133)), (4, .int (nI j))]) (by decide) rfl dL_law_1070 ?_
  refine z_aload_n C rfl 3 rfl dL_law_1072 ?_
  refine z_aload_n C rfl 1 rfl dL_law_1073 ?_
  refine z_iload C 5 rfl dL_law_1074 ?_
  refine z_iconst C (v := 1) (by decide) dL_law_1076 ?_
  refine z_iadd C dL_law_1077 ?_
  refine z_sld C hX hb dL_law_1078 (j + 1) (nI_add j 1) (by omega) (by omega) ?_
  refine z_callV C zc_12 rfl (by decide) dL_law_1079 yy_X12_bad (c_X12_bad (r := (v, I2)) C.2.2.2.2.1 (xs (j + 1)) I1 L1 hm) q_1541 q_1542 q_1543 (by decide) (by decide) rfl rfl (Nat.le_of_ble_eq_true rfl) ⟨Nat.le_refl _, by omega, Nat.le_refl _, by omega⟩ ?_
  refine z_istore C (lv' := [(6, .int v), (5, .int k), (0, .ref b), (1, .ref (B0 + 0)), (2, .ref (B0 + 97)), (3, .ref (B0 + 133)), (4, .int (nI j))]) (by decide) rfl dL_law_1082 ?_
  refine z_aload_n C rfl 4 rfl dL_law_1084 ?_
  refine z_callV C zc_12 rfl (by decide) dL_law_1085 yy_X12_thrown (c_X12_thrown (r := k) C.2.2.2.2.1 I2 L1 ht) q_1342 q_1343 q_1344 (by decide) (by decide) rfl rfl (Nat.le_of_ble_eq_true rfl) ⟨Nat.le_refl _, by omega, Nat.le_refl _, by omega⟩ ?_
  refine z_iload C 1 rfl dL_law_1088 ?_
  refine z_icmp_eq C 1095 (by decide) dL_law_1090 (fun _ => ?_) (fun hc => absurd rfl hc)
  refine z_iload C 1 rfl dL_law_1095 ?_
  refine z_if_ne C 1112 (by decide) dL_law_1097 (fun _ => ?_) (fun hk => ?_)
  · refine z_goto C 1227 (by decide) dL_law_1112 ?_
    refine z_lv [2, 3, 4, 5, 6] (lv' := [(0, .ref b), (1, .ref (B0 + 0)), (2, .ref (B0 + 97)), (3, .ref (B0 + 133)), (4, .int (nI j))]) rfl ?_
    exact kk _ _ n hn hi
  · refine z_aload_n C rfl 5 rfl dL_law_1100 ?_
    refine z_iconst C (v := 0) (by decide) dL_law_1101 ?_
    refine z_laload C dL_law_1102 (q := 133) (n := 1) rfl rfl (by decide) (zbd_in (by decide)) ?_
    refine z_iload C 0 rfl dL_law_1103 ?_
    refine z_i2l C dL_law_1105 ?_
    refine z_lif_eq C 1112 (by decide) dL_law_1106 dL_law_1107 (fun _ => ?_) (fun hc => absurd (ho hk) hc)
    refine z_goto C 1227 (by decide) dL_law_1112 ?_
    refine z_lv [2, 3, 4, 5, 6] (lv' := [(0, .ref b), (1, .ref (B0 + 0)), (2, .ref (B0 + 97)), (3, .ref (B0 + 133)), (4, .int (nI j))]) rfl ?_
    exact kk _ _ n hn hi
set_option maxHeartbeats 4000000 in
set_option maxRecDepth 100000 in
theorem law_c14 (Inv : zI → zL → Prop) (C : zC p l e R s m args below meth c s0 a0 d cy B0 own code 8 ret 0 0 601024 7293000 14 520 tb) (hown : own = "DeviceFindLaw") {b N j : Nat} {xs : Nat → Int32} (hX : va_X b N xs s0 s0.heap) (hb : b < B0) (hN : N ≤ 3585) (hj : j + 7 ≤ N) (hbc : bc + 1 ≤ 601024) (hbs : bs + 6 ≤ 7293000) (step : Sx_joined Inv) (hinv : Inv I L)
    (kk : ∀ (I9 : zI) (L9 : zL) (n : Nat), n ≤ 1 → Inv I9 L9 → zG p l e R s m args below meth c d cy B0 8 0 0 Q 1227 [(0, .ref b), (1, .ref (B0 + 0)), (2, .ref (B0 + 97)), (3, .ref (B0 + 133)), (4, .int (nI j))] [] zSH zKn (bc + n) (bs + 6 * n) I9 L9) : zG p l e R s m args below meth c d cy B0 8 0 0 Q 1115 [(0, .ref b), (1, .ref (B0 + 0)), (2, .ref (B0 + 97)), (3, .ref (B0 + 133)), (4, .int (nI j))] [] zSH zKn bc bs I L := by
  subst hown
  obtain ⟨P, hP, k, n, I1, L1, v, I2, hn, hw, hm, ht, ho, hi⟩ := step I L (xs (j + 1)) hinv
  refine z_aload_n C rfl 1 rfl dL_law_1115 ?_
  refine z_aload_n C rfl 0 rfl dL_law_1116 ?_
  refine z_iload C 4 rfl dL_law_1117 ?_
  refine z_iconst C (v := 1) (by decide) dL_law_1119 ?_
  refine z_iadd C dL_law_1120 ?_
  refine z_sld C hX hb dL_law_1121 (j + 1) (nI_add j 1) (by omega) (by omega) ?_
  refine z_aload_n C rfl 3 rfl dL_law_1122 ?_
  refine z_callSW C dL_law_1123 yy_L_joined (c_L_joined C.2.2.2.2.1 hP (xs (j + 1)) I L hw) q_1146 q_1147 (by decide) (by decide) rfl rfl (Nat.le_of_ble_eq_true rfl) ⟨by omega, by omega, by omega, by omega⟩ ?_
  refine z_istore C (lv' := [(5, .int k), (0, .ref b), (1, .ref (B0 + 0)), (2, .ref (B0 + 97)), (3, .ref (B0 + 133)), (4, .int (nI j))]) (by decide) rfl dL_law_1126 ?_
  refine z_aload_n C rfl 3 rfl dL_law_1128 ?_
  refine z_aload_n C rfl 1 rfl dL_law_1129 ?_
  refine z_iload C 5 rfl dL_law_1130 ?_
  refine z_iconst C (v := 1) (by decide) dL_law_1132 ?_
  refine z_iadd C dL_law_1133 ?_
  refine z_sld C hX hb dL_law_1134 (j + 1) (nI_add j 1) (by omega) (by omega) ?_
  refine z_callV C zc_12 rfl (by decide) dL_law_1135 yy_X12_joined (c_X12_joined (r := (v, I2)) C.2.2.2.2.1 (xs (j + 1)) I1 L1 hm) q_1545 q_1546 q_1547 (by decide) (by decide) rfl rfl (Nat.le_of_ble_eq_true rfl) ⟨Nat.le_refl _, by omega, Nat.le_refl _, by omega⟩ ?_
  refine z_istore C (lv' := [(6, .int v), (5, .int k), (0, .ref b), (1, .ref (B0 + 0)), (2, .ref (B0 + 97)), (3, .ref (B0 + 133)), (4, .int (nI j))]) (by decide) rfl dL_law_1138 ?_
  refine z_aload_n C rfl 4 rfl dL_law_1140 ?_
  refine z_callV C zc_12 rfl (by decide) dL_law_1141 yy_X12_thrown (c_X12_thrown (r := k) C.2.2.2.2.1 I2 L1 ht) q_1342 q_1343 q_1344 (by decide) (by decide) rfl rfl (Nat.le_of_ble_eq_true rfl) ⟨Nat.le_refl _, by omega, Nat.le_refl _, by omega⟩ ?_
  refine z_iload C 1 rfl dL_law_1144 ?_
  refine z_icmp_eq C 1151 (by decide) dL_law_1146 (fun _ => ?_) (fun hc => absurd rfl hc)
  refine z_iload C 1 rfl dL_law_1151 ?_
  refine z_if_ne C 1168 (by decide) dL_law_1153 (fun _ => ?_) (fun hk => ?_)
  · refine z_goto C 1227 (by decide) dL_law_1168 ?_
    refine z_lv [2, 3, 4, 5, 6] (lv' := [(0, .ref b), (1, .ref (B0 + 0)), (2, .ref (B0 + 97)), (3, .ref (B0 + 133)), (4, .int (nI j))]) rfl ?_
    exact kk _ _ n hn hi
  · refine z_aload_n C rfl 5 rfl dL_law_1156 ?_
    refine z_iconst C (v := 0) (by decide) dL_law_1157 ?_
    refine z_laload C dL_law_1158 (q := 133) (n := 1) rfl rfl (by decide) (zbd_in (by decide)) ?_
    refine z_iload C 0 rfl dL_law_1159 ?_
    refine z_i2l C dL_law_1161 ?_
    refine z_lif_eq C 1168 (by decide) dL_law_1162 dL_law_1163 (fun _ => ?_) (fun hc => absurd (ho hk) hc)
    refine z_goto C 1227 (by decide) dL_law_1168 ?_
    refine z_lv [2, 3, 4, 5, 6] (lv' := [(0, .ref b), (1, .ref (B0 + 0)), (2, .ref (B0 + 97)), (3, .ref (B0 + 133)), (4, .int (nI j))]) rfl ?_
    exact kk _ _ n hn hi
set_option maxHeartbeats 4000000 in
set_option maxRecDepth 100000 in
theorem law_c15 (Inv : zI → zL → Prop) (C : zC p l e R s m args below meth c s0 a0 d cy B0 own code 8 ret 0 0 601024 7293000 14 520 tb) (hown : own = "DeviceFindLaw") {b N j : Nat} {xs : Nat → Int32} (hX : va_X b N xs s0 s0.heap) (hb : b < B0) (hN : N ≤ 3585) (hj : j + 7 ≤ N) (hbc : bc + 1 ≤ 601024) (hbs : bs + 6 ≤ 7293000) (step : Sx_count Inv) (hinv : Inv I L)
    (kk : ∀ (I9 : zI) (L9 : zL) (n : Nat), n ≤ 1 → Inv I9 L9 → zG p l e R s m args below meth c d cy B0 8 0 0 Q 1227 [(0, .ref b), (1, .ref (B0 + 0)), (2, .ref (B0 + 97)), (3, .ref (B0 + 133)), (4, .int (nI j))] [] zSH zKn (bc + n) (bs + 6 * n) I9 L9) : zG p l e R s m args below meth c d cy B0 8 0 0 Q 1171 [(0, .ref b), (1, .ref (B0 + 0)), (2, .ref (B0 + 97)), (3, .ref (B0 + 133)), (4, .int (nI j))] [] zSH zKn bc bs I L := by
  subst hown
  obtain ⟨P, hP, k, n, I1, L1, v, I2, hn, hw, hm, ht, ho, hi⟩ := step I L (xs (j + 1)) hinv
  refine z_aload_n C rfl 1 rfl dL_law_1171 ?_
  refine z_aload_n C rfl 0 rfl dL_law_1172 ?_
  refine z_iload C 4 rfl dL_law_1173 ?_
  refine z_iconst C (v := 1) (by decide) dL_law_1175 ?_
  refine z_iadd C dL_law_1176 ?_
  refine z_sld C hX hb dL_law_1177 (j + 1) (nI_add j 1) (by omega) (by omega) ?_
  refine z_aload_n C rfl 3 rfl dL_law_1178 ?_
  refine z_callSW C dL_law_1179 yy_L_count (c_L_count C.2.2.2.2.1 hP (xs (j + 1)) I L hw) q_1153 q_1154 (by decide) (by decide) rfl rfl (Nat.le_of_ble_eq_true rfl) ⟨by omega, by omega, by omega, by omega⟩ ?_
  refine z_istore C (lv' := [(5, .int k), (0, .ref b), (1, .ref (B0 + 0)), (2, .ref (B0 + 97)), (3, .ref (B0 + 133)), (4, .int (nI j))]) (by decide) rfl dL_law_1182 ?_
  refine z_aload_n C rfl 3 rfl dL_law_1184 ?_
  refine z_aload_n C rfl 1 rfl dL_law_1185 ?_
  refine z_iload C 5 rfl dL_law_1186 ?_
  refine z_iconst C (v := 1) (by decide) dL_law_1188 ?_
  refine z_iadd C dL_law_1189 ?_
  refine z_sld C hX hb dL_law_1190 (j + 1) (nI_add j 1) (by omega) (by omega) ?_
  refine z_callV C zc_12 rfl (by decide) dL_law_1191 yy_X12_count (c_X12_count (r := (v, I2)) C.2.2.2.2.1 (xs (j + 1)) I1 L1 hm) q_1549 q_1550 q_1551 (by decide) (by decide) rfl rfl (Nat.le_of_ble_eq_true rfl) ⟨Nat.le_refl _, by omega, Nat.le_refl _, by omega⟩ ?_
  refine z_istore C (lv' := [(6, .int v), (5, .int k), (0, .ref b), (1, .ref (B0 + 0)), (2, .ref (B0 + 97)), (3, .ref (B0 + 133)), (4, .int (nI j))]) (by decide) rfl dL_law_1194 ?_
  refine z_aload_n C rfl 4 rfl dL_law_1196 ?_
  refine z_callV C zc_12 rfl (by decide) dL_law_1197 yy_X12_thrown (c_X12_thrown (r := k) C.2.2.2.2.1 I2 L1 ht) q_1342 q_1343 q_1344 (by decide) (by decide) rfl rfl (Nat.le_of_ble_eq_true rfl) ⟨Nat.le_refl _, by omega, Nat.le_refl _, by omega⟩ ?_
  refine z_iload C 1 rfl dL_law_1200 ?_
  refine z_icmp_eq C 1207 (by decide) dL_law_1202 (fun _ => ?_) (fun hc => absurd rfl hc)
  refine z_iload C 1 rfl dL_law_1207 ?_
  refine z_if_ne C 1224 (by decide) dL_law_1209 (fun _ => ?_) (fun hk => ?_)
  · refine z_goto C 1227 (by decide) dL_law_1224 ?_
    refine z_lv [2, 3, 4, 5, 6] (lv' := [(0, .ref b), (1, .ref (B0 + 0)), (2, .ref (B0 + 97)), (3, .ref (B0 + 133)), (4, .int (nI j))]) rfl ?_
    exact kk _ _ n hn hi
  · refine z_aload_n C rfl 5 rfl dL_law_1212 ?_
    refine z_iconst C (v := 0) (by decide) dL_law_1213 ?_
    refine z_laload C dL_law_1214 (q := 133) (n := 1) rfl rfl (by decide) (zbd_in (by decide)) ?_
    refine z_iload C 0 rfl dL_law_1215 ?_
    refine z_i2l C dL_law_1217 ?_
    refine z_lif_eq C 1224 (by decide) dL_law_1218 dL_law_1219 (fun _ => ?_) (fun hc => absurd (ho hk) hc)
    refine z_goto C 1227 (by decide) dL_law_1224 ?_
    refine z_lv [2, 3, 4, 5, 6] (lv' := [(0, .ref b), (1, .ref (B0 + 0)), (2, .ref (B0 + 97)), (3, .ref (B0 + 133)), (4, .int (nI j))]) rfl ?_
    exact kk _ _ n hn hi
end Zw6
