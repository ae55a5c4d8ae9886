section Zp05_01_walk
variable {p : Program} {l : Launch} {e : Env} {R : Room} {s : State} {m : MethodId} {args : Array Value} {below : List Frame} {meth : Method} {c : Code} {s0 : State} {a0 : Array Value} {d : va_G} {cy : Nat → ClassId} {B0 : Nat} {bc bs : Nat}
theorem q_84 : (Cond.initialized "DeviceFind$Peeler") ∈ lw_tbl := List.mem_of_getElem? (i := 84) (by decide +kernel)
theorem q_336 : (Cond.fieldLink "DeviceFind$Peeler" (9 : Nat) "DeviceFind$Peeler" "rows" "[J") ∈ lw_tbl := List.mem_of_getElem? (i := 336) (by decide +kernel)
theorem q_341 : (Cond.fieldLink "DeviceFind$Peeler" (19 : Nat) "DeviceFind$Peeler" "taken" "I") ∈ lw_tbl := List.mem_of_getElem? (i := 341) (by decide +kernel)
theorem q_344 : (Cond.fieldLink "DeviceFind$Peeler" (23 : Nat) "DeviceFind$Peeler" "low" "I") ∈ lw_tbl := List.mem_of_getElem? (i := 344) (by decide +kernel)
theorem q_346 : (Cond.fieldLink "DeviceFind$Peeler" (26 : Nat) "DeviceFind$Peeler" "high" "I") ∈ lw_tbl := List.mem_of_getElem? (i := 346) (by decide +kernel)
theorem q_928 : (Cond.code ({ cls := "DeviceFind$Peeler", name := "dropShape", desc := "()V" } : Jvm.MethodName) prog_7_method_4_code (2 : Nat) (Option.none : Option Jvm.ClassFile.FieldType)) ∈ lw_tbl := List.mem_of_getElem? (i := 928) (by decide +kernel)
theorem yy_X5_dropShape : zY yX5_dropShape cX5_dropShape 2 none 0 := ⟨q_928, q_84, by decide +kernel, by decide +kernel, by decide +kernel⟩
noncomputable def f_X5_dropShape_32 (I : zI) (L : zL) : Option (zI × zL) :=
  zlt (zu I 57 2 (0 : Int32)) (fun I5 => some (I5, L))
noncomputable def f_X5_dropShape_5 (k5 : Int32 → zI → zL → Option (zI × zL)) (v1 : Int32) (I : zI) (L : zL) : Option (zI × zL) :=
  if (I 57 4) < v1 then (f_X5_dropShape_32 I L) else (if (64 : Int32) ≤ v1 then (f_X5_dropShape_32 I L) else (zck (zbd v1 64) (zlt (zul L 58 v1.toNatClampNeg (0 : Int64)) (fun L3 => zlt (v1 + 1) (fun x4 => k5 x4 I L3)))))
noncomputable def f_X5_dropShape (I : zI) (L : zL) : Option (zI × zL) :=
  zlt (I 57 3) (fun x1 => zlp3 (f_X5_dropShape_5) zF x1 I L)
set_option maxHeartbeats 4000000 in
set_option maxRecDepth 100000 in
theorem l_X5_dropShape_32 {r : zI × zL} (C : zC p l e R s m args below meth c s0 a0 d cy B0 yX5_dropShape.cls cX5_dropShape 2 none bc bs bc bs 0 0 []) (I : zI) (L : zL) (h : f_X5_dropShape_32 I L = some r) : zG p l e R s m args below meth c d cy B0 2 bc bs (zQ below s args d cy B0 bc bs (.inl none) zSH zKn bc bs r.1 r.2) 32 [(0, .ref (B0 + 57))] [] zSH zKn bc bs I L := by
  unfold f_X5_dropShape_32 at h
  refine z_aload_n C rfl 0 rfl dX5_dropShape_32 ?_
  refine z_iconst C (v := 0) (by decide) dX5_dropShape_33 ?_
  refine z_puti C zc_5 dX5_dropShape_34 2 57 rfl (by decide) (by decide) rfl q_341 rfl rfl rfl ?_
  obtain ⟨I5, eI5, h⟩ := zlt_e h
  refine z_eqI C eI5 ?_
  obtain rfl := Option.some.inj h
  exact z_vret C dX5_dropShape_37 rfl rfl
set_option maxHeartbeats 4000000 in
set_option maxRecDepth 100000 in
theorem l_X5_dropShape_5 {r : zI × zL} (C : zC p l e R s m args below meth c s0 a0 d cy B0 yX5_dropShape.cls cX5_dropShape 2 none bc bs bc bs 0 0 []) (k5 : Int32 → zI → zL → Option (zI × zL)) (hk5 : ∀ (v1 : Int32) (I : zI) (L : zL), k5 v1 I L = some r → zG p l e R s m args below meth c d cy B0 2 bc bs (zQ below s args d cy B0 bc bs (.inl none) zSH zKn bc bs r.1 r.2) 5 [(0, .ref (B0 + 57)), (1, .int v1)] [] zSH zKn bc bs I L) (v1 : Int32) (I : zI) (L : zL) (h : f_X5_dropShape_5 k5 v1 I L = some r) : zG p l e R s m args below meth c d cy B0 2 bc bs (zQ below s args d cy B0 bc bs (.inl none) zSH zKn bc bs r.1 r.2) 5 [(0, .ref (B0 + 57)), (1, .int v1)] [] zSH zKn bc bs I L := by
  unfold f_X5_dropShape_5 at h
  refine z_iload_n C rfl 1 rfl dX5_dropShape_5 ?_
  refine z_aload_n C rfl 0 rfl dX5_dropShape_6 ?_
  refine z_geti C zc_5 dX5_dropShape_7 4 57 rfl (by decide) (by decide) q_346 rfl ?_
  refine z_icmp_gt C 32 (by decide) dX5_dropShape_10 (fun hc => ?_) (fun hc => ?_)
  · have h := zif_t hc h
    refine z_lv [0] (lv' := [(0, .ref (B0 + 57))]) rfl ?_
    exact l_X5_dropShape_32 C  I L h
  · have h := zif_f hc h
    refine z_iload_n C rfl 1 rfl dX5_dropShape_13 ?_
    refine z_bipush C (v := 64) (by decide) dX5_dropShape_14 ?_
    refine z_icmp_ge C 32 (by decide) dX5_dropShape_16 (fun hc => ?_) (fun hc => ?_)
    · have h := zif_t hc h
      refine z_lv [0] (lv' := [(0, .ref (B0 + 57))]) rfl ?_
      exact l_X5_dropShape_32 C  I L h
    · have h := zif_f hc h
      refine z_aload_n C rfl 0 rfl dX5_dropShape_19 ?_
      refine z_getr C zc_5 dX5_dropShape_20 0 57 58 rfl (by decide) (by decide) q_336 rfl rfl ?_
      refine z_iload_n C rfl 1 rfl dX5_dropShape_23 ?_
      refine z_lconst C (v := 0) (by decide) dX5_dropShape_24 ?_
      obtain ⟨hb2, h⟩ := zck_e h
      refine z_lastore C dX5_dropShape_25 rfl rfl (by decide) (zbd_in hb2) ?_
      obtain ⟨L3, eL3, h⟩ := zlt_e h
      refine z_eqL C eL3 ?_
      obtain ⟨x4, ex4, h⟩ := zlt_e h
      refine z_iinc C (j := 1) (v := x4) (lv' := [(1, .int x4), (0, .ref (B0 + 57))]) rfl (by rw [ex4]; rfl) (by decide) rfl dX5_dropShape_26 ?_
      refine z_goto C 5 (by decide) dX5_dropShape_29 ?_
      refine z_lv [1, 0] (lv' := [(0, .ref (B0 + 57)), (1, .int x4)]) rfl ?_
      exact hk5 x4 I L3 h
set_option maxHeartbeats 4000000 in
set_option maxRecDepth 100000 in
theorem L_X5_dropShape_5 {r : zI × zL} (C : zC p l e R s m args below meth c s0 a0 d cy B0 yX5_dropShape.cls cX5_dropShape 2 none bc bs bc bs 0 0 []) (v1 : Int32) (I : zI) (L : zL) (h : zlp3 (f_X5_dropShape_5) zF v1 I L = some r) : zG p l e R s m args below meth c d cy B0 2 bc bs (zQ below s args d cy B0 bc bs (.inl none) zSH zKn bc bs r.1 r.2) 5 [(0, .ref (B0 + 57)), (1, .int v1)] [] zSH zKn bc bs I L :=
 zlp3_e (fun (v1 : Int32) (I : zI) (L : zL) => zG p l e R s m args below meth c d cy B0 2 bc bs (zQ below s args d cy B0 bc bs (.inl none) zSH zKn bc bs r.1 r.2) 5 [(0, .ref (B0 + 57)), (1, .int v1)] [] zSH zKn bc bs I L) (fun k9 hk9 v1 I L h => l_X5_dropShape_5 C k9 hk9 v1 I L h) zF v1 I L h
set_option maxHeartbeats 4000000 in
set_option maxRecDepth 100000 in
theorem c_X5_dropShape {r : zI × zL} (hE : zE0 l s0 a0 d cy B0) (I : zI) (L : zL) (h : f_X5_dropShape I L = some r) : zM l s0 d cy B0 yX5_dropShape cX5_dropShape 2 none 0 0 [.ref (B0 + 57)] zSH zKn bc bs I L (.inl none) zSH zKn bc bs r.1 r.2 := by
  refine z_meth yy_X5_dropShape hE (Nat.le_of_ble_eq_true rfl) (fun p e R s m args below meth c C => ?_)
  show zG p l e R s m args below meth c d cy B0 2 bc bs (zQ below s args d cy B0 bc bs (.inl none) zSH zKn bc bs r.1 r.2) 0 [(0, .ref (B0 + 57))] [] zSH zKn bc bs I L
  unfold f_X5_dropShape at h
  refine z_aload_n C rfl 0 rfl dX5_dropShape_0 ?_
  refine z_geti C zc_5 dX5_dropShape_1 3 57 rfl (by decide) (by decide) q_344 rfl ?_
  obtain ⟨x1, ex1, h⟩ := zlt_e h
  refine z_eqi C ex1 ?_
  refine z_istore_n C (lv' := [(1, .int x1), (0, .ref (B0 + 57))]) rfl (by decide) rfl dX5_dropShape_4 ?_
  refine z_lv [1, 0] (lv' := [(0, .ref (B0 + 57)), (1, .int x1)]) rfl ?_
  exact L_X5_dropShape_5 C  x1 I L h
theorem q_26 : Cond.selects "DeviceFind$Peeler" ⟨"DeviceFind$Peeler", "dropShape", "()V"⟩ ⟨"DeviceFind$Peeler", "dropShape", "()V"⟩ ∈ lw_tbl := List.mem_of_getElem? (i := 26) (by decide +kernel)
theorem q_100 : (Cond.initialized "java/lang/System") ∈ lw_tbl := List.mem_of_getElem? (i := 100) (by decide +kernel)
theorem q_348 : (Cond.fieldLink "DeviceFind$Peeler" (29 : Nat) "DeviceFind$Peeler" "rest" "[J") ∈ lw_tbl := List.mem_of_getElem? (i := 348) (by decide +kernel)
theorem q_921 : (Cond.code ({ cls := "DeviceFind$Peeler", name := "open", desc := "([J)V" } : Jvm.MethodName) prog_7_method_2_code (2 : Nat) (Option.none : Option Jvm.ClassFile.FieldType)) ∈ lw_tbl := List.mem_of_getElem? (i := 921) (by decide +kernel)
theorem q_922 : (Cond.methodLink "DeviceFind$Peeler" (32 : Nat) ({ cls := "java/lang/System", name := "arraycopy", desc := "(Ljava/lang/Object;ILjava/lang/Object;II)V" } : Jvm.MethodName)) ∈ lw_tbl := List.mem_of_getElem? (i := 922) (by decide +kernel)
theorem q_923 : (Cond.static ({ cls := "java/lang/System", name := "arraycopy", desc := "(Ljava/lang/Object;ILjava/lang/Object;II)V" } : Jvm.MethodName)) ∈ lw_tbl := List.mem_of_getElem? (i := 923) (by decide +kernel)
theorem q_924 : (Cond.native ({ cls := "java/lang/System", name := "arraycopy", desc := "(Ljava/lang/Object;ILjava/lang/Object;II)V" } : Jvm.MethodName)) ∈ lw_tbl := List.mem_of_getElem? (i := 924) (by decide +kernel)
theorem q_925 : (Cond.methodLink "DeviceFind$Peeler" (38 : Nat) ({ cls := "DeviceFind$Peeler", name := "dropShape", desc := "()V" } : Jvm.MethodName)) ∈ lw_tbl := List.mem_of_getElem? (i := 925) (by decide +kernel)
theorem q_927 : (Cond.instanceMethod ({ cls := "DeviceFind$Peeler", name := "dropShape", desc := "()V" } : Jvm.MethodName)) ∈ lw_tbl := List.mem_of_getElem? (i := 927) (by decide +kernel)
theorem yy_X5_open : zY yX5_open cX5_open 2 none 1 := ⟨q_921, q_84, by decide +kernel, by decide +kernel, by decide +kernel⟩
noncomputable def f_X5_open (r1 : Nat) (I : zI) (L : zL) : Option (zI × zL) :=
  zlt (zcp L 60 r1 64) (fun L1 => zb2 (f_X5_dropShape I L1) (fun I3 L4 => zlt (zu I3 57 3 (0 : Int32)) (fun I5 => zlt (zu I5 57 4 (-1 : Int32)) (fun I6 => some (I6, L4)))))
set_option maxHeartbeats 4000000 in
set_option maxRecDepth 100000 in
theorem c_X5_open {r : zI × zL} (hE : zE0 l s0 a0 d cy B0) {r1 : Nat} (hr1 : zar 15 64 r1) (I : zI) (L : zL) (h : f_X5_open r1 I L = some r) : zM l s0 d cy B0 yX5_open cX5_open 2 none 1 40 [.ref (B0 + 57), .ref (B0 + r1)] zSH zKn bc bs I L (.inl none) zSH zKn bc bs r.1 r.2 := by
  refine z_meth yy_X5_open hE (Nat.le_of_ble_eq_true rfl) (fun p e R s m args below meth c C => ?_)
  show zG p l e R s m args below meth c d cy B0 2 bc bs (zQ below s args d cy B0 bc bs (.inl none) zSH zKn bc bs r.1 r.2) 0 [(0, .ref (B0 + 57)), (1, .ref (B0 + r1))] [] zSH zKn bc bs I L
  unfold f_X5_open at h
  refine z_aload_n C rfl 1 rfl dX5_open_0 ?_
  refine z_iconst C (v := 0) (by decide) dX5_open_1 ?_
  refine z_aload_n C rfl 0 rfl dX5_open_2 ?_
  refine z_getr C zc_5 dX5_open_3 5 57 60 rfl (by decide) (by decide) q_348 rfl rfl ?_
  refine z_iconst C (v := 0) (by decide) dX5_open_6 ?_
  refine z_bipush C (v := 64) (by decide) dX5_open_7 ?_
  refine z_acopy C dX5_open_9 q_922 q_924 q_923 q_100 (by decide) (Nat.le_of_ble_eq_true rfl) hr1.1 hr1.2.1 hr1.2.2 rfl rfl (by decide) (by decide) (by decide) ?_
  obtain ⟨L1, eL1, h⟩ := zlt_e h
  refine z_eqL C eL1 ?_
  refine z_aload_n C rfl 0 rfl dX5_open_12 ?_
  obtain ⟨I3, L4, hg2, h⟩ := zb2_e h
  refine z_callV C zc_5 rfl (by decide) dX5_open_13 yy_X5_dropShape (c_X5_dropShape C.2.2.2.2.1  I L1 hg2) q_925 q_927 q_26 (by decide) (by decide) rfl rfl (Nat.le_of_ble_eq_true rfl) ⟨Nat.le_refl _, Nat.le_refl _, Nat.le_refl _, Nat.le_refl _⟩ ?_
  refine z_aload_n C rfl 0 rfl dX5_open_16 ?_
  refine z_iconst C (v := 0) (by decide) dX5_open_17 ?_
  refine z_puti C zc_5 dX5_open_18 3 57 rfl (by decide) (by decide) rfl q_344 rfl rfl rfl ?_
  obtain ⟨I5, eI5, h⟩ := zlt_e h
  refine z_eqI C eI5 ?_
  refine z_aload_n C rfl 0 rfl dX5_open_21 ?_
  refine z_iconst C (v := -1) (by decide) dX5_open_22 ?_
  refine z_puti C zc_5 dX5_open_23 4 57 rfl (by decide) (by decide) rfl q_346 rfl rfl rfl ?_
  obtain ⟨I6, eI6, h⟩ := zlt_e h
  refine z_eqI C eI6 ?_
  obtain rfl := Option.some.inj h
  exact z_vret C dX5_open_26 rfl rfl
theorem q_101 : (Cond.initialized "java/lang/Long") ∈ lw_tbl := List.mem_of_getElem? (i := 101) (by decide +kernel)
theorem q_938 : (Cond.code ({ cls := "java/lang/Long", name := "bitCount", desc := "(J)I" } : Jvm.MethodName) prog_19_method_50_code (2 : Nat) (Option.some Jvm.ClassFile.FieldType.int)) ∈ lw_tbl := List.mem_of_getElem? (i := 938) (by decide +kernel)
theorem q_939 : (Cond.constantLong "java/lang/Long" (314 : Nat) (6148914691236517205 : Int64)) ∈ lw_tbl := List.mem_of_getElem? (i := 939) (by decide +kernel)
theorem q_940 : (Cond.constantLong "java/lang/Long" (316 : Nat) (3689348814741910323 : Int64)) ∈ lw_tbl := List.mem_of_getElem? (i := 940) (by decide +kernel)
theorem q_941 : (Cond.constantLong "java/lang/Long" (318 : Nat) (1085102592571150095 : Int64)) ∈ lw_tbl := List.mem_of_getElem? (i := 941) (by decide +kernel)
theorem yy_J13_bitCount_95d88 : zY yJ13_bitCount_95d88 cJ13_bitCount_95d88 2 (some .int) 1 := ⟨q_938, q_101, by decide +kernel, by decide +kernel, by decide +kernel⟩
noncomputable def f_J13_bitCount_95d88 (a0 : Int64) : Option Int32 :=
  zlt ((a0.toUInt64 >>> ((1 : Int32).toInt64.toUInt64 &&& Int64.toUInt64 63)).toInt64) (fun x1 => zlt (a0 - (x1 &&& (6148914691236517205 : Int64))) (fun x2 => zlt ((x2.toUInt64 >>> ((2 : Int32).toInt64.toUInt64 &&& Int64.toUInt64 63)).toInt64) (fun x3 => zlt ((x2 &&& (3689348814741910323 : Int64)) + (x3 &&& (3689348814741910323 : Int64))) (fun x4 => zlt ((x4.toUInt64 >>> ((4 : Int32).toInt64.toUInt64 &&& Int64.toUInt64 63)).toInt64) (fun x5 => zlt ((x4 + x5) &&& (1085102592571150095 : Int64)) (fun x6 => zlt ((x6.toUInt64 >>> ((8 : Int32).toInt64.toUInt64 &&& Int64.toUInt64 63)).toInt64) (fun x7 => zlt (x6 + x7) (fun x8 => zlt ((x8.toUInt64 >>> ((16 : Int32).toInt64.toUInt64 &&& Int64.toUInt64 63)).toInt64) (fun x9 => zlt (x8 + x9) (fun x10 => zlt ((x10.toUInt64 >>> ((32 : Int32).toInt64.toUInt64 &&& Int64.toUInt64 63)).toInt64) (fun x11 => zlt (x10 + x11) (fun x12 => zlt (x12.toInt32 &&& (127 : Int32)) (fun x13 => some x13)))))))))))))
set_option maxHeartbeats 4000000 in
set_option maxRecDepth 100000 in
theorem c_J13_bitCount_95d88 {r : Int32} (hE : zE0 l s0 a0 d cy B0) (a0 : Int64) (I : zI) (L : zL) (h : f_J13_bitCount_95d88 a0 = some r) : zM l s0 d cy B0 yJ13_bitCount_95d88 cJ13_bitCount_95d88 2 (some .int) 0 0 [.long a0] zSH zKn bc bs I L (.inl (some (.int r))) zSH zKn bc bs I L := by
  refine z_meth yy_J13_bitCount_95d88 hE (Nat.le_of_ble_eq_true rfl) (fun p e R s m args below meth c C => ?_)
  show zG p l e R s m args below meth c d cy B0 2 bc bs (zQ below s args d cy B0 bc bs (.inl (some (.int r))) zSH zKn bc bs I L) 0 [(0, .long a0)] [] zSH zKn bc bs I L
  unfold f_J13_bitCount_95d88 at h
  refine z_lload_n C rfl 0 rfl dJ13_bitCount_95d88_0 ?_
  refine z_lload_n C rfl 0 rfl dJ13_bitCount_95d88_1 ?_
  refine z_iconst C (v := 1) (by decide) dJ13_bitCount_95d88_2 ?_
  refine z_lushr C dJ13_bitCount_95d88_3 ?_
  obtain ⟨x1, ex1, h⟩ := zlt_e h
  refine z_eql C ex1 ?_
  refine z_ldc2 C dJ13_bitCount_95d88_4 q_939 ?_
  refine z_land C dJ13_bitCount_95d88_7 ?_
  refine z_lsub C dJ13_bitCount_95d88_8 ?_
  obtain ⟨x2, ex2, h⟩ := zlt_e h
  refine z_eql C ex2 ?_
  refine z_lstore_n C (lv' := [(0, .long x2)]) rfl (by decide) rfl dJ13_bitCount_95d88_9 ?_
  refine z_lload_n C rfl 0 rfl dJ13_bitCount_95d88_10 ?_
  refine z_ldc2 C dJ13_bitCount_95d88_11 q_940 ?_
  refine z_land C dJ13_bitCount_95d88_14 ?_
  refine z_lload_n C rfl 0 rfl dJ13_bitCount_95d88_15 ?_
  refine z_iconst C (v := 2) (by decide) dJ13_bitCount_95d88_16 ?_
  refine z_lushr C dJ13_bitCount_95d88_17 ?_
  obtain ⟨x3, ex3, h⟩ := zlt_e h
  refine z_eql C ex3 ?_
  refine z_ldc2 C dJ13_bitCount_95d88_18 q_940 ?_
  refine z_land C dJ13_bitCount_95d88_21 ?_
  refine z_ladd C dJ13_bitCount_95d88_22 ?_
  obtain ⟨x4, ex4, h⟩ := zlt_e h
  refine z_eql C ex4 ?_
  refine z_lstore_n C (lv' := [(0, .long x4)]) rfl (by decide) rfl dJ13_bitCount_95d88_23 ?_
  refine z_lload_n C rfl 0 rfl dJ13_bitCount_95d88_24 ?_
  refine z_lload_n C rfl 0 rfl dJ13_bitCount_95d88_25 ?_
  refine z_iconst C (v := 4) (by decide) dJ13_bitCount_95d88_26 ?_
  refine z_lushr C dJ13_bitCount_95d88_27 ?_
  obtain ⟨x5, ex5, h⟩ := zlt_e h
  refine z_eql C ex5 ?_
  refine z_ladd C dJ13_bitCount_95d88_28 ?_
  refine z_ldc2 C dJ13_bitCount_95d88_29 q_941 ?_
  refine z_land C dJ13_bitCount_95d88_32 ?_
  obtain ⟨x6, ex6, h⟩ := zlt_e h
  refine z_eql C ex6 ?_
  refine z_lstore_n C (lv' := [(0, .long x6)]) rfl (by decide) rfl dJ13_bitCount_95d88_33 ?_
  refine z_lload_n C rfl 0 rfl dJ13_bitCount_95d88_34 ?_
  refine z_lload_n C rfl 0 rfl dJ13_bitCount_95d88_35 ?_
  refine z_bipush C (v := 8) (by decide) dJ13_bitCount_95d88_36 ?_
  refine z_lushr C dJ13_bitCount_95d88_38 ?_
  obtain ⟨x7, ex7, h⟩ := zlt_e h
  refine z_eql C ex7 ?_
  refine z_ladd C dJ13_bitCount_95d88_39 ?_
  obtain ⟨x8, ex8, h⟩ := zlt_e h
  refine z_eql C ex8 ?_
  refine z_lstore_n C (lv' := [(0, .long x8)]) rfl (by decide) rfl dJ13_bitCount_95d88_40 ?_
  refine z_lload_n C rfl 0 rfl dJ13_bitCount_95d88_41 ?_
  refine z_lload_n C rfl 0 rfl dJ13_bitCount_95d88_42 ?_
  refine z_bipush C (v := 16) (by decide) dJ13_bitCount_95d88_43 ?_
  refine z_lushr C dJ13_bitCount_95d88_45 ?_
  obtain ⟨x9, ex9, h⟩ := zlt_e h
  refine z_eql C ex9 ?_
  refine z_ladd C dJ13_bitCount_95d88_46 ?_
  obtain ⟨x10, ex10, h⟩ := zlt_e h
  refine z_eql C ex10 ?_
  refine z_lstore_n C (lv' := [(0, .long x10)]) rfl (by decide) rfl dJ13_bitCount_95d88_47 ?_
  refine z_lload_n C rfl 0 rfl dJ13_bitCount_95d88_48 ?_
  refine z_lload_n C rfl 0 rfl dJ13_bitCount_95d88_49 ?_
  refine z_bipush C (v := 32) (by decide) dJ13_bitCount_95d88_50 ?_
  refine z_lushr C dJ13_bitCount_95d88_52 ?_
  obtain ⟨x11, ex11, h⟩ := zlt_e h
  refine z_eql C ex11 ?_
  refine z_ladd C dJ13_bitCount_95d88_53 ?_
  obtain ⟨x12, ex12, h⟩ := zlt_e h
  refine z_eql C ex12 ?_
  refine z_lstore_n C (lv' := [(0, .long x12)]) rfl (by decide) rfl dJ13_bitCount_95d88_54 ?_
  refine z_lload_n C rfl 0 rfl dJ13_bitCount_95d88_55 ?_
  refine z_l2i C dJ13_bitCount_95d88_56 ?_
  refine z_bipush C (v := 127) (by decide) dJ13_bitCount_95d88_57 ?_
  refine z_iand C dJ13_bitCount_95d88_59 ?_
  obtain ⟨x13, ex13, h⟩ := zlt_e h
  refine z_eqi C ex13 ?_
  obtain rfl := Option.some.inj h
  exact z_iret C dJ13_bitCount_95d88_60 .int rfl rfl rfl
theorem q_75 : (Cond.initialized "DeviceFind") ∈ lw_tbl := List.mem_of_getElem? (i := 75) (by decide +kernel)
theorem q_935 : (Cond.code ({ cls := "DeviceFind", name := "leftmost", desc := "(J)I" } : Jvm.MethodName) prog_1_method_26_code (2 : Nat) (Option.some Jvm.ClassFile.FieldType.int)) ∈ lw_tbl := List.mem_of_getElem? (i := 935) (by decide +kernel)
theorem q_936 : (Cond.methodLink "DeviceFind" (245 : Nat) ({ cls := "java/lang/Long", name := "bitCount", desc := "(J)I" } : Jvm.MethodName)) ∈ lw_tbl := List.mem_of_getElem? (i := 936) (by decide +kernel)
theorem q_937 : (Cond.static ({ cls := "java/lang/Long", name := "bitCount", desc := "(J)I" } : Jvm.MethodName)) ∈ lw_tbl := List.mem_of_getElem? (i := 937) (by decide +kernel)
theorem yy_X11_leftmost : zY yX11_leftmost cX11_leftmost 2 (some .int) 1 := ⟨q_935, q_75, by decide +kernel, by decide +kernel, by decide +kernel⟩
noncomputable def f_X11_leftmost (a0 : Int64) : Option Int32 :=
  zlt (a0 &&& (-a0)) (fun x1 => zb1 (f_J13_bitCount_95d88 (x1 - (1 : Int64))) (fun x3 => some x3))
set_option maxHeartbeats 4000000 in
set_option maxRecDepth 100000 in
theorem c_X11_leftmost {r : Int32} (hE : zE0 l s0 a0 d cy B0) (a0 : Int64) (I : zI) (L : zL) (h : f_X11_leftmost a0 = some r) : zM l s0 d cy B0 yX11_leftmost cX11_leftmost 2 (some .int) 1 21 [.long a0] zSH zKn bc bs I L (.inl (some (.int r))) zSH zKn bc bs I L := by
  refine z_meth yy_X11_leftmost hE (Nat.le_of_ble_eq_true rfl) (fun p e R s m args below meth c C => ?_)
  show zG p l e R s m args below meth c d cy B0 2 bc bs (zQ below s args d cy B0 bc bs (.inl (some (.int r))) zSH zKn bc bs I L) 0 [(0, .long a0)] [] zSH zKn bc bs I L
  unfold f_X11_leftmost at h
  refine z_lload_n C rfl 0 rfl dX11_leftmost_0 ?_
  refine z_lload_n C rfl 0 rfl dX11_leftmost_1 ?_
  refine z_lneg C dX11_leftmost_2 ?_
  refine z_land C dX11_leftmost_3 ?_
  obtain ⟨x1, ex1, h⟩ := zlt_e h
  refine z_eql C ex1 ?_
  refine z_lconst C (v := 1) (by decide) dX11_leftmost_4 ?_
  refine z_lsub C dX11_leftmost_5 ?_
  obtain ⟨x3, hg2, h⟩ := zb1_e h
  refine z_callS C dX11_leftmost_6 yy_J13_bitCount_95d88 (c_J13_bitCount_95d88 C.2.2.2.2.1  (x1 - (1 : Int64)) I L hg2) q_936 q_937 (by decide) (by decide) rfl rfl (Nat.le_of_ble_eq_true rfl) ⟨Nat.le_refl _, Nat.le_refl _, Nat.le_refl _, Nat.le_refl _⟩ ?_
  obtain rfl := Option.some.inj h
  exact z_iret C dX11_leftmost_9 .int rfl rfl rfl
theorem q_859 : (Cond.code ({ cls := "DeviceFind", name := "squareAt", desc := "(II)I" } : Jvm.MethodName) prog_1_method_23_code (2 : Nat) (Option.some Jvm.ClassFile.FieldType.int)) ∈ lw_tbl := List.mem_of_getElem? (i := 859) (by decide +kernel)
theorem yy_X11_squareAt : zY yX11_squareAt cX11_squareAt 2 (some .int) 2 := ⟨q_859, q_75, by decide +kernel, by decide +kernel, by decide +kernel⟩
noncomputable def f_X11_squareAt (a0 : Int32) (a1 : Int32) : Option Int32 :=
  zlt ((a1 * (64 : Int32)) + a0) (fun x1 => some x1)
set_option maxHeartbeats 4000000 in
set_option maxRecDepth 100000 in
theorem c_X11_squareAt {r : Int32} (hE : zE0 l s0 a0 d cy B0) (a0 : Int32) (a1 : Int32) (I : zI) (L : zL) (h : f_X11_squareAt a0 a1 = some r) : zM l s0 d cy B0 yX11_squareAt cX11_squareAt 2 (some .int) 0 0 [.int a0, .int a1] zSH zKn bc bs I L (.inl (some (.int r))) zSH zKn bc bs I L := by
  refine z_meth yy_X11_squareAt hE (Nat.le_of_ble_eq_true rfl) (fun p e R s m args below meth c C => ?_)
  show zG p l e R s m args below meth c d cy B0 2 bc bs (zQ below s args d cy B0 bc bs (.inl (some (.int r))) zSH zKn bc bs I L) 0 [(0, .int a0), (1, .int a1)] [] zSH zKn bc bs I L
  unfold f_X11_squareAt at h
  refine z_iload_n C rfl 1 rfl dX11_squareAt_0 ?_
  refine z_bipush C (v := 64) (by decide) dX11_squareAt_1 ?_
  refine z_imul C dX11_squareAt_3 ?_
  refine z_iload_n C rfl 0 rfl dX11_squareAt_4 ?_
  refine z_iadd C dX11_squareAt_5 ?_
  obtain ⟨x1, ex1, h⟩ := zlt_e h
  refine z_eqi C ex1 ?_
  obtain rfl := Option.some.inj h
  exact z_iret C dX11_squareAt_6 .int rfl rfl rfl
theorem q_76 : (Cond.initialized "java/lang/Math") ∈ lw_tbl := List.mem_of_getElem? (i := 76) (by decide +kernel)
theorem q_116 : (Cond.static ({ cls := "java/lang/Math", name := "max", desc := "(II)I" } : Jvm.MethodName)) ∈ lw_tbl := List.mem_of_getElem? (i := 116) (by decide +kernel)
theorem q_117 : (Cond.code ({ cls := "java/lang/Math", name := "max", desc := "(II)I" } : Jvm.MethodName) prog_20_method_65_code (2 : Nat) (Option.some Jvm.ClassFile.FieldType.int)) ∈ lw_tbl := List.mem_of_getElem? (i := 117) (by decide +kernel)
theorem q_338 : (Cond.fieldLink "DeviceFind$Peeler" (15 : Nat) "DeviceFind$Peeler" "squares" "[I") ∈ lw_tbl := List.mem_of_getElem? (i := 338) (by decide +kernel)
theorem q_858 : (Cond.static ({ cls := "DeviceFind", name := "squareAt", desc := "(II)I" } : Jvm.MethodName)) ∈ lw_tbl := List.mem_of_getElem? (i := 858) (by decide +kernel)
theorem q_945 : (Cond.code ({ cls := "DeviceFind$Peeler", name := "take", desc := "(II)V" } : Jvm.MethodName) prog_7_method_6_code (3 : Nat) (Option.none : Option Jvm.ClassFile.FieldType)) ∈ lw_tbl := List.mem_of_getElem? (i := 945) (by decide +kernel)
theorem q_946 : (Cond.methodLinkNest "DeviceFind$Peeler" (59 : Nat) ({ cls := "DeviceFind", name := "squareAt", desc := "(II)I" } : Jvm.MethodName) "DeviceFind") ∈ lw_tbl := List.mem_of_getElem? (i := 946) (by decide +kernel)
theorem q_947 : (Cond.methodLink "DeviceFind$Peeler" (63 : Nat) ({ cls := "java/lang/Math", name := "max", desc := "(II)I" } : Jvm.MethodName)) ∈ lw_tbl := List.mem_of_getElem? (i := 947) (by decide +kernel)
theorem yy_X5_take : zY yX5_take cX5_take 3 none 2 := ⟨q_945, q_84, by decide +kernel, by decide +kernel, by decide +kernel⟩
noncomputable def f_X5_take_35 (I : zI) (L : zL) : Option (zI × zL) :=
  some (I, L)
noncomputable def f_X5_take (a1 : Int32) (a2 : Int32) (I : zI) (L : zL) : Option (zI × zL) :=
  if a1 < 0 then (f_X5_take_35 I L) else (if (64 : Int32) ≤ a1 then (f_X5_take_35 I L) else (if a2 < 0 then (f_X5_take_35 I L) else (if (64 : Int32) ≤ a2 then (f_X5_take_35 I L) else (zck (zbd a2 64) (zlt (((L 60 a2.toNatClampNeg).toUInt64 >>> (a1.toInt64.toUInt64 &&& Int64.toUInt64 63)).toInt64) (fun x2 => if (x2 &&& (1 : Int64)) = (0 : Int64) then (f_X5_take_35 I L) else (zck (zbd a2 64) (zlt ((1 : Int64) <<< (a1.toInt64 &&& 63)) (fun x4 => zlt ((L 60 a2.toNatClampNeg) ^^^ x4) (fun x5 => zck (zbd a2 64) (zlt (zul L 60 a2.toNatClampNeg x5) (fun L7 => zck (zbd a2 64) (zlt ((1 : Int64) <<< (a1.toInt64 &&& 63)) (fun x9 => zlt ((L7 58 a2.toNatClampNeg) ||| x9) (fun x10 => zck (zbd a2 64) (zlt (zul L7 58 a2.toNatClampNeg x10) (fun L12 => zb1 (f_X11_squareAt a1 a2) (fun x14 => zck (zbd (I 57 2) 4096) (zlt (zu I 59 (I 57 2).toNatClampNeg x14) (fun I16 => zlt ((I16 57 2) + (1 : Int32)) (fun x17 => zlt (zu I16 57 2 x17) (fun I18 => zlt (zmx (I18 57 4) a2) (fun x19 => zlt (zu I18 57 4 x19) (fun I20 => some (I20, L12)))))))))))))))))))))))))
set_option maxHeartbeats 4000000 in
set_option maxRecDepth 100000 in
theorem l_X5_take_35 {r : zI × zL} (C : zC p l e R s m args below meth c s0 a0 d cy B0 yX5_take.cls cX5_take 3 none bc bs bc bs 1 40 []) (I : zI) (L : zL) (h : f_X5_take_35 I L = some r) : zG p l e R s m args below meth c d cy B0 3 bc bs (zQ below s args d cy B0 bc bs (.inl none) zSH zKn bc bs r.1 r.2) 35 [] [] zSH zKn bc bs I L := by
  unfold f_X5_take_35 at h
  obtain rfl := Option.some.inj h
  exact z_vret C dX5_take_35 rfl rfl
set_option maxHeartbeats 4000000 in
set_option maxRecDepth 100000 in
theorem c_X5_take {r : zI × zL} (hE : zE0 l s0 a0 d cy B0) (a1 : Int32) (a2 : Int32) (I : zI) (L : zL) (h : f_X5_take a1 a2 I L = some r) : zM l s0 d cy B0 yX5_take cX5_take 3 none 1 40 [.ref (B0 + 57), .int a1, .int a2] zSH zKn bc bs I L (.inl none) zSH zKn bc bs r.1 r.2 := by
  refine z_meth yy_X5_take hE (Nat.le_of_ble_eq_true rfl) (fun p e R s m args below meth c C => ?_)
  show zG p l e R s m args below meth c d cy B0 3 bc bs (zQ below s args d cy B0 bc bs (.inl none) zSH zKn bc bs r.1 r.2) 0 [(0, .ref (B0 + 57)), (1, .int a1), (2, .int a2)] [] zSH zKn bc bs I L
  unfold f_X5_take at h
  refine z_iload_n C rfl 1 rfl dX5_take_0 ?_
  refine z_if_lt C 35 (by decide) dX5_take_1 (fun hc => ?_) (fun hc => ?_)
  · have h := zif_t hc h
    refine z_lv [] (lv' := []) rfl ?_
    exact l_X5_take_35 C  I L h
  · have h := zif_f hc h
    refine z_iload_n C rfl 1 rfl dX5_take_4 ?_
    refine z_bipush C (v := 64) (by decide) dX5_take_5 ?_
    refine z_icmp_ge C 35 (by decide) dX5_take_7 (fun hc => ?_) (fun hc => ?_)
    · have h := zif_t hc h
      refine z_lv [] (lv' := []) rfl ?_
      exact l_X5_take_35 C  I L h
    · have h := zif_f hc h
      refine z_iload_n C rfl 2 rfl dX5_take_10 ?_
      refine z_if_lt C 35 (by decide) dX5_take_11 (fun hc => ?_) (fun hc => ?_)
      · have h := zif_t hc h
        refine z_lv [] (lv' := []) rfl ?_
        exact l_X5_take_35 C  I L h
      · have h := zif_f hc h
        refine z_iload_n C rfl 2 rfl dX5_take_14 ?_
        refine z_bipush C (v := 64) (by decide) dX5_take_15 ?_
        refine z_icmp_ge C 35 (by decide) dX5_take_17 (fun hc => ?_) (fun hc => ?_)
        · have h := zif_t hc h
          refine z_lv [] (lv' := []) rfl ?_
          exact l_X5_take_35 C  I L h
        · have h := zif_f hc h
          refine z_aload_n C rfl 0 rfl dX5_take_20 ?_
          refine z_getr C zc_5 dX5_take_21 5 57 60 rfl (by decide) (by decide) q_348 rfl rfl ?_
          refine z_iload_n C rfl 2 rfl dX5_take_24 ?_
          obtain ⟨hb1, h⟩ := zck_e h
          refine z_laload C dX5_take_25 rfl rfl (by decide) (zbd_in hb1) ?_
          refine z_iload_n C rfl 1 rfl dX5_take_26 ?_
          refine z_lushr C dX5_take_27 ?_
          obtain ⟨x2, ex2, h⟩ := zlt_e h
          refine z_eql C ex2 ?_
          refine z_lconst C (v := 1) (by decide) dX5_take_28 ?_
          refine z_land C dX5_take_29 ?_
          refine z_lconst C (v := 0) (by decide) dX5_take_30 ?_
          refine z_lif_ne C 36 (by decide) dX5_take_31 dX5_take_32 (fun hc => ?_) (fun hc => ?_)
          · have h := zif_f hc h
            refine z_aload_n C rfl 0 rfl dX5_take_36 ?_
            refine z_getr C zc_5 dX5_take_37 5 57 60 rfl (by decide) (by decide) q_348 rfl rfl ?_
            refine z_iload_n C rfl 2 rfl dX5_take_40 ?_
            refine z_dup2_11 C rfl rfl dX5_take_41 ?_
            obtain ⟨hb3, h⟩ := zck_e h
            refine z_laload C dX5_take_42 rfl rfl (by decide) (zbd_in hb3) ?_
            refine z_lconst C (v := 1) (by decide) dX5_take_43 ?_
            refine z_iload_n C rfl 1 rfl dX5_take_44 ?_
            refine z_lshl C dX5_take_45 ?_
            obtain ⟨x4, ex4, h⟩ := zlt_e h
            refine z_eql C ex4 ?_
            refine z_lxor C dX5_take_46 ?_
            obtain ⟨x5, ex5, h⟩ := zlt_e h
            refine z_eql C ex5 ?_
            obtain ⟨hb6, h⟩ := zck_e h
            refine z_lastore C dX5_take_47 rfl rfl (by decide) (zbd_in hb6) ?_
            obtain ⟨L7, eL7, h⟩ := zlt_e h
            refine z_eqL C eL7 ?_
            refine z_aload_n C rfl 0 rfl dX5_take_48 ?_
            refine z_getr C zc_5 dX5_take_49 0 57 58 rfl (by decide) (by decide) q_336 rfl rfl ?_
            refine z_iload_n C rfl 2 rfl dX5_take_52 ?_
            refine z_dup2_11 C rfl rfl dX5_take_53 ?_
            obtain ⟨hb8, h⟩ := zck_e h
            refine z_laload C dX5_take_54 rfl rfl (by decide) (zbd_in hb8) ?_
            refine z_lconst C (v := 1) (by decide) dX5_take_55 ?_
            refine z_iload_n C rfl 1 rfl dX5_take_56 ?_
            refine z_lshl C dX5_take_57 ?_
            obtain ⟨x9, ex9, h⟩ := zlt_e h
            refine z_eql C ex9 ?_
            refine z_lor C dX5_take_58 ?_
            obtain ⟨x10, ex10, h⟩ := zlt_e h
            refine z_eql C ex10 ?_
            obtain ⟨hb11, h⟩ := zck_e h
            refine z_lastore C dX5_take_59 rfl rfl (by decide) (zbd_in hb11) ?_
            obtain ⟨L12, eL12, h⟩ := zlt_e h
            refine z_eqL C eL12 ?_
            refine z_aload_n C rfl 0 rfl dX5_take_60 ?_
            refine z_getr C zc_5 dX5_take_61 1 57 59 rfl (by decide) (by decide) q_338 rfl rfl ?_
            refine z_aload_n C rfl 0 rfl dX5_take_64 ?_
            refine z_geti C zc_5 dX5_take_65 2 57 rfl (by decide) (by decide) q_341 rfl ?_
            refine z_iload_n C rfl 1 rfl dX5_take_68 ?_
            refine z_iload_n C rfl 2 rfl dX5_take_69 ?_
            obtain ⟨x14, hg13, h⟩ := zb1_e h
            refine z_callSN C dX5_take_70 yy_X11_squareAt (c_X11_squareAt C.2.2.2.2.1  a1 a2 I L12 hg13) q_946 q_858 (by decide) (by decide) rfl rfl (Nat.le_of_ble_eq_true rfl) ⟨Nat.le_refl _, Nat.le_refl _, Nat.le_refl _, Nat.le_refl _⟩ ?_
            obtain ⟨hb15, h⟩ := zck_e h
            refine z_iastore C dX5_take_73 rfl rfl (by decide) (zbd_in hb15) ?_
            obtain ⟨I16, eI16, h⟩ := zlt_e h
            refine z_eqI C eI16 ?_
            refine z_aload_n C rfl 0 rfl dX5_take_74 ?_
            refine z_dup C rfl dX5_take_75 ?_
            refine z_geti C zc_5 dX5_take_76 2 57 rfl (by decide) (by decide) q_341 rfl ?_
            refine z_iconst C (v := 1) (by decide) dX5_take_79 ?_
            refine z_iadd C dX5_take_80 ?_
            obtain ⟨x17, ex17, h⟩ := zlt_e h
            refine z_eqi C ex17 ?_
            refine z_puti C zc_5 dX5_take_81 2 57 rfl (by decide) (by decide) rfl q_341 rfl rfl rfl ?_
            obtain ⟨I18, eI18, h⟩ := zlt_e h
            refine z_eqI C eI18 ?_
            refine z_aload_n C rfl 0 rfl dX5_take_84 ?_
            refine z_aload_n C rfl 0 rfl dX5_take_85 ?_
            refine z_geti C zc_5 dX5_take_86 4 57 rfl (by decide) (by decide) q_346 rfl ?_
            refine z_iload_n C rfl 2 rfl dX5_take_89 ?_
            refine z_mmax C dX5_take_90 q_947 q_116 q_76 q_117 (by decide) (Nat.le_of_ble_eq_true rfl) ⟨Nat.le_refl _, Nat.le_refl _⟩ ?_
            obtain ⟨x19, ex19, h⟩ := zlt_e h
            refine z_eqi C ex19 ?_
            refine z_puti C zc_5 dX5_take_93 4 57 rfl (by decide) (by decide) rfl q_346 rfl rfl rfl ?_
            obtain ⟨I20, eI20, h⟩ := zlt_e h
            refine z_eqI C eI20 ?_
            obtain rfl := Option.some.inj h
            exact z_vret C dX5_take_96 rfl rfl
          · have h := zif_t hc h
            refine z_lv [] (lv' := []) rfl ?_
            exact l_X5_take_35 C  I L h
end Zp05_01_walk
