section Zp05_01_walk
variable {p : Program} {l : Launch} {e : Env} {R : Room} {s : State} {m : MethodId} {args : Array Value} {below : List Frame} {meth : Method} {c : Code} {s0 : State} {a0 : Array Value} {d : va_G} {cy : Nat → ClassId} {B0 : Nat} {bc bs : Nat}
theorem q_84 : (Cond.initialized "DeviceFind$Peeler") ∈ lw_tbl := List.mem_of_getElem? (i := 84) (by decide +kernel)
theorem q_336 : (Cond.fieldLink "DeviceFind$Peeler" (9 : Nat) "DeviceFind$Peeler" "rows" "[J") ∈ lw_tbl := List.mem_of_getElem? (i := 336) (by decide +kernel)
theorem q_341 : (Cond.fieldLink "DeviceFind$Peeler" (19 : Nat) "DeviceFind$Peeler" "taken" "I") ∈ lw_tbl := List.mem_of_getElem? (i := 341) (by decide +kernel)
theorem q_344 : (Cond.fieldLink "DeviceFind$Peeler" (23 : Nat) "DeviceFind$Peeler" "low" "I") ∈ lw_tbl := List.mem_of_getElem? (i := 344) (by decide +kernel)
theorem q_346 : (Cond.fieldLink "DeviceFind$Peeler" (26 : Nat) "DeviceFind$Peeler" "high" "I") ∈ lw_tbl := List.mem_of_getElem? (i := 346) (by decide +kernel)
theorem q_928 : (Cond.code ({ cls := "DeviceFind$Peeler", name := "dropShape", desc := "()V" } : Jvm.MethodName) prog_7_method_4_code (2 : Nat) (Option.none : Option Jvm.ClassFile.FieldType)) ∈ lw_tbl := List.mem_of_getElem? (i := 928) (by decide +kernel)
theorem yy_X5_dropShape : zY yX5_dropShape cX5_dropShape 2 none 0 := ⟨q_928, q_84, by decide +kernel, by decide +kernel, by decide +kernel⟩
def f_X5_dropShape_32 (I : zI) (L : zL) : Option (zI × zL) :=
  zlt (zu I 57 2 (0 : Int32)) (fun I5 => some (I5, L))
def f_X5_dropShape_5 (k5 : Int32 → zI → zL → Option (zI × zL)) (v1 : Int32) (I : zI) (L : zL) : Option (zI × zL) :=
  if (I 57 4) < v1 then (f_X5_dropShape_32 I L) else (if (64 : Int32) ≤ v1 then (f_X5_dropShape_32 I L) else (zck (zbd v1 64) (zlt (zul L 58 v1.toNatClampNeg (0 : Int64)) (fun L3 => zlt (v1 + 1) (fun x4 => k5 x4 I L3)))))
def f_X5_dropShape (I : zI) (L : zL) : Option (zI × zL) :=
  zlt (I 57 3) (fun x1 => zlp3 (f_X5_dropShape_5) zF x1 I L)
set_option maxHeartbeats 4000000 in
set_option maxRecDepth 100000 in
theorem l_X5_dropShape_32 {r : zI × zL} (C : zC p l e R s m args below meth c s0 a0 d cy B0 yX5_dropShape.cls cX5_dropShape 2 none bc bs bc bs 0 0 []) (I : zI) (L : zL) (h : f_X5_dropShape_32 I L = some r) : zG p l e R s m args below meth c d cy B0 2 bc bs (zQ below s args d cy B0 bc bs (.inl none) zSH zKn bc bs r.1 r.2) 32 [(0, .ref (B0 + 57))] [] zSH zKn bc bs I L := by
  unfold f_X5_dropShape_32 at h
  refine z_aload_n C rfl 0 rfl dX5_dropShape_32 ?_
  refine z_iconst C (v := 0) (by decide) dX5_dropShape_33 ?_
  refine z_puti C zc_5 dX5_dropShape_34 2 57 rfl (by decide) (by decide) rfl q_341 rfl rfl rfl ?_
  obtain ⟨I5, eI5, h⟩ := zlt_e h
  refine z_eqI C eI5 ?_
  obtain rfl := Option.some.inj h
  exact z_vret C dX5_dropShape_37 rfl rfl
set_option maxHeartbeats 4000000 in
set_option maxRecDepth 100000 in
theorem l_X5_dropShape_5 {r : zI × zL} (C : zC p l e R s m args below meth c s0 a0 d cy B0 yX5_dropShape.cls cX5_dropShape 2 none bc bs bc bs 0 0 []) (k5 : Int32 → zI → zL → Option (zI × zL)) (hk5 : ∀ (v1 : Int32) (I : zI) (L : zL), k5 v1 I L = some r → zG p l e R s m args below meth c d cy B0 2 bc bs (zQ below s args d cy B0 bc bs (.inl none) zSH zKn bc bs r.1 r.2) 5 [(0, .ref (B0 + 57)), (1, .int v1)] [] zSH zKn bc bs I L) (v1 : Int32) (I : zI) (L : zL) (h : f_X5_dropShape_5 k5 v1 I L = some r) : zG p l e R s m args below meth c d cy B0 2 bc bs (zQ below s args d cy B0 bc bs (.inl none) zSH zKn bc bs r.1 r.2) 5 [(0, .ref (B0 + 57)), (1, .int v1)] [] zSH zKn bc bs I L := by
  unfold f_X5_dropShape_5 at h
  refine z_iload_n C rfl 1 rfl dX5_dropShape_5 ?_
  refine z_aload_n C rfl 0 rfl dX5_dropShape_6 ?_
  refine z_geti C zc_5 dX5_dropShape_7 4 57 rfl (by decide) (by decide) q_346 rfl ?_
  refine z_icmp_gt C 32 (by decide) dX5_dropShape_10 (fun hc => ?_) (fun hc => ?_)
  · have h := zif_t hc h
    refine z_lv [0] (lv' := [(0, .ref (B0 + 57))]) rfl ?_
    exact l_X5_dropShape_32 C  I L h
  · have h := zif_f hc h
    refine z_iload_n C rfl 1 rfl dX5_dropShape_13 ?_
    refine z_bipush C (v := 64) (by decide) dX5_dropShape_14 ?_
    refine z_icmp_ge C 32 (by decide) dX5_dropShape_16 (fun hc => ?_) (fun hc => ?_)
    · have h := zif_t hc h
      refine z_lv [0] (lv' := [(0, .ref (B0 + 57))]) rfl ?_
      exact l_X5_dropShape_32 C  I L h
    · have h := zif_f hc h
      refine z_aload_n C rfl 0 rfl dX5_dropShape_19 ?_
      refine z_getr C zc_5 dX5_dropShape_20 0 57 58 rfl (by decide) (by decide) q_336 rfl rfl ?_
      refine z_iload_n C rfl 1 rfl dX5_dropShape_23 ?_
      refine z_lconst C (v := 0) (by decide) dX5_dropShape_24 ?_
      obtain ⟨hb2, h⟩ := zck_e h
      refine z_lastore C dX5_dropShape_25 rfl rfl (by decide) (zbd_in hb2) ?_
      obtain ⟨L3, eL3, h⟩ := zlt_e h
      refine z_eqL C eL3 ?_
      obtain ⟨x4, ex4, h⟩ := zlt_e h
      refine z_iinc C (j := 1) (v := x4) (lv' := [(1, .int x4), (0, .ref (B0 + 57))]) rfl (by rw [ex4]; rfl) (by decide) rfl dX5_dropShape_26 ?_
      refine z_goto C 5 (by decide) dX5_dropShape_29 ?_
      refine z_lv [1, 0] (lv' := [(0, .ref (B0 + 57)), (1, .int x4)]) rfl ?_
      exact hk5 x4 I L3 h
set_option maxHeartbeats 4000000 in
set_option maxRecDepth 100000 in
theorem L_X5_dropShape_5 {r : zI × zL} (C : zC p l e R s m args below meth c s0 a0 d cy B0 yX5_dropShape.cls cX5_dropShape 2 none bc bs bc bs 0 0 []) (v1 : Int32) (I : zI) (L : zL) (h : zlp3 (f_X5_dropShape_5) zF v1 I L = some r) : zG p l e R s m args below meth c d cy B0 2 bc bs (zQ below s args d cy B0 bc bs (.inl none) zSH zKn bc bs r.1 r.2) 5 [(0, .ref (B0 + 57)), (1, .int v1)] [] zSH zKn bc bs I L :=
 zlp3_e (fun (v1 : Int32) (I : zI) (L : zL) => zG p l e R s m args below meth c d cy B0 2 bc bs (zQ below s args d cy B0 bc bs (.inl none) zSH zKn bc bs r.1 r.2) 5 [(0, .ref (B0 + 57)), (1, .int v1)] [] zSH zKn bc bs I L) (fun k9 hk9 v1 I L h => l_X5_dropShape_5 C k9 hk9 v1 I L h) zF v1 I L h
set_option maxHeartbeats 4000000 in
set_option maxRecDepth 100000 in
theorem c_X5_dropShape {r : zI × zL} (hE : zE0 l s0 a0 d cy B0) (I : zI) (L : zL) (h : f_X5_dropShape I L = some r) : zM l s0 d cy B0 yX5_dropShape cX5_dropShape 2 none 0 0 [.ref (B0 + 57)] zSH zKn bc bs I L (.inl none) zSH zKn bc bs r.1 r.2 := by
  refine z_meth yy_X5_dropShape hE (Nat.le_of_ble_eq_true rfl) (fun p e R s m args below meth c C => ?_)
  show zG p l e R s m args below meth c d cy B0 2 bc bs (zQ below s args d cy B0 bc bs (.inl none) zSH zKn bc bs r.1 r.2) 0 [(0, .ref (B0 + 57))] [] zSH zKn bc bs I L
  unfold f_X5_dropShape at h
  refine z_aload_n C rfl 0 rfl dX5_dropShape_0 ?_
  refine z_geti C zc_5 dX5_dropShape_1 3 57 rfl (by decide) (by decide) q_344 rfl ?_
  obtain ⟨x1, ex1, h⟩ := zlt_e h
  refine z_eqi C ex1 ?_
  refine z_istore_n C (lv' := [(1, .int x1), (0, .ref (B0 + 57))]) rfl (by decide) rfl dX5_dropShape_4 ?_
  refine z_lv [1, 0] (lv' := [(0, .ref (B0 + 57)), (1, .int x1)]) rfl ?_
  exact L_X5_dropShape_5 C  x1 I L h
theorem q_26 : Cond.selects "DeviceFind$Peeler" ⟨"DeviceFind$Peeler", "dropShape", "()V"⟩ ⟨"DeviceFind$Peeler", "dropShape", "()V"⟩ ∈ lw_tbl := List.mem_of_getElem? (i := 26) (by decide +kernel)
theorem q_100 : (Cond.initialized "java/lang/System") ∈ lw_tbl := List.mem_of_getElem? (i := 100) (by decide +kernel)
theorem q_348 : (Cond.fieldLink "DeviceFind$Peeler" (29 : Nat) "DeviceFind$Peeler" "rest" "[J") ∈ lw_tbl := List.mem_of_getElem? (i := 348) (by decide +kernel)
theorem q_921 : (Cond.code ({ cls := "DeviceFind$Peeler", name := "open", desc := "([J)V" } : Jvm.MethodName) prog_7_method_2_code (2 : Nat) (Option.none : Option Jvm.ClassFile.FieldType)) ∈ lw_tbl := List.mem_of_getElem? (i := 921) (by decide +kernel)
theorem q_922 : (Cond.methodLink "DeviceFind$Peeler" (32 : Nat) ({ cls := "java/lang/System", name := "arraycopy", desc := "(Ljava/lang/Object;ILjava/lang/Object;II)V" } : Jvm.MethodName)) ∈ lw_tbl := List.mem_of_getElem? (i := 922) (by decide +kernel)
theorem q_923 : (Cond.static ({ cls := "java/lang/System", name := "arraycopy", desc := "(Ljava/lang/Object;ILjava/lang/Object;II)V" } : Jvm.MethodName)) ∈ lw_tbl := List.mem_of_getElem? (i := 923) (by decide +kernel)
theorem q_924 : (Cond.native ({ cls := "java/lang/System", name := "arraycopy", desc := "(Ljava/lang/Object;ILjava/lang/Object;II)V" } : Jvm.MethodName)) ∈ lw_tbl := List.mem_of_getElem? (i := 924) (by decide +kernel)
theorem q_925 : (Cond.methodLink "DeviceFind$Peeler" (38 : Nat) ({ cls := "DeviceFind$Peeler", name := "dropShape", desc := "()V" } : Jvm.MethodName)) ∈ lw_tbl := List.mem_of_getElem? (i := 925) (by decide +kernel)
theorem q_927 : (Cond.instanceMethod ({ cls := "DeviceFind$Peeler", name := "dropShape", desc := "()V" } : Jvm.MethodName)) ∈ lw_tbl := List.mem_of_getElem? (i := 927) (by decide +kernel)
theorem yy_X5_open : zY yX5_open cX5_open 2 none 1 := ⟨q_921, q_84, by decide +kernel, by decide +kernel, by decide +kernel⟩
def f_X5_open (r1 : Nat) (I : zI) (L : zL) : Option (zI × zL) :=
  zlt (zcp L 60 r1 64) (fun L1 => zb2 (f_X5_dropShape I L1) (fun I3 L4 => zlt (zu I3 57 3 (0 : Int32)) (fun I5 => zlt (zu I5 57 4 (-1 : Int32)) (fun I6 => some (I6, L4)))))
set_option maxHeartbeats 4000000 in
set_option maxRecDepth 100000 in
theorem c_X5_open {r : zI × zL} (hE : zE0 l s0 a0 d cy B0) {r1 : Nat} (hr1 : zar 15 64 r1) (I : zI) (L : zL) (h : f_X5_open r1 I L = some r) : zM l s0 d cy B0 yX5_open cX5_open 2 none 1 40 [.ref (B0 + 57), .ref (B0 + r1)] zSH zKn bc bs I L (.inl none) zSH zKn bc bs r.1 r.2 := by
  refine z_meth yy_X5_open hE (Nat.le_of_ble_eq_true rfl) (fun p e R s m args below meth c C => ?_)
  show zG p l e R s m args below meth c d cy B0 2 bc bs (zQ below s args d cy B0 bc bs (.inl none) zSH zKn bc bs r.1 r.2) 0 [(0, .ref (B0 + 57)), (1, .ref (B0 + r1))] [] zSH zKn bc bs I L
  unfold f_X5_open at h
  refine z_aload_n C rfl 1 rfl dX5_open_0 ?_
  refine z_iconst C (v := 0) (by decide) dX5_open_1 ?_
  refine z_aload_n C rfl 0 rfl dX5_open_2 ?_
  refine z_getr C zc_5 dX5_open_3 5 57 60 rfl (by decide) (by decide) q_348 rfl rfl ?_
  refine z_iconst C (v := 0) (by decide) dX5_open_6 ?_
  refine z_bipush C (v := 64) (by decide) dX5_open_7 ?_
  refine z_acopy C dX5_open_9 q_922 q_924 q_923 q_100 (by decide) (Nat.le_of_ble_eq_true rfl) hr1.1 hr1.2.1 hr1.2.2 rfl rfl (by decide) (by decide) (by decide) ?_
  obtain ⟨L1, eL1, h⟩ := zlt_e h
  refine z_eqL C eL1 ?_
  refine z_aload_n C rfl 0 rfl dX5_open_12 ?_
  obtain ⟨I3, L4, hg2, h⟩ := zb2_e h
  refine z_callV C zc_5 rfl (by decide) dX5_open_13 yy_X5_dropShape (c_X5_dropShape C.2.2.2.2.1  I L1 hg2) q_925 q_927 q_26 (by decide) (by decide) rfl rfl (Nat.le_of_ble_eq_true rfl) ⟨Nat.le_refl _, Nat.le_refl _, Nat.le_refl _, Nat.le_refl _⟩ ?_
  refine z_aload_n C rfl 0 rfl dX5_open_16 ?_
  refine z_iconst C (v := 0) (by decide) dX5_open_17 ?_
  refine z_puti C zc_5 dX5_open_18 3 57 rfl (by decide) (by decide) rfl q_344 rfl rfl rfl ?_
  obtain ⟨I5, eI5, h⟩ := zlt_e h
  refine z_eqI C eI5 ?_
  refine z_aload_n C rfl 0 rfl dX5_open_21 ?_
  refine z_iconst C (v := -1) (by decide) dX5_open_22 ?_
  refine z_puti C zc_5 dX5_open_23 4 57 rfl (by decide) (by decide) rfl q_346 rfl rfl rfl ?_
  obtain ⟨I6, eI6, h⟩ := zlt_e h
  refine z_eqI C eI6 ?_
  obtain rfl := Option.some.inj h
  exact z_vret C dX5_open_26 rfl rfl
theorem q_101 : (Cond.initialized "java/lang/Long") ∈ lw_tbl := List.mem_of_getElem? (i := 101) (by decide +kernel)
theorem q_938 : (Cond.code ({ cls := "java/lang/Long", name := "bitCount", desc := "(J)I" } : Jvm.MethodName) prog_19_method_50_code (2 : Nat) (Option.some Jvm.ClassFile.FieldType.int)) ∈ lw_tbl := List.mem_of_getElem? (i := 938) (by decide +kernel)
theorem q_939 : (Cond.constantLong "java/lang/Long" (314 : Nat) (6148914691236517205 : Int64)) ∈ lw_tbl := List.mem_of_getElem? (i := 939) (by decide +kernel)
theorem q_940 : (Cond.constantLong "java/lang/Long" (316 : Nat) (3689348814741910323 : Int64)) ∈ lw_tbl := List.mem_of_getElem? (i := 940) (by decide +kernel)
theorem q_941 : (Cond.constantLong "java/lang/Long" (318 : Nat) (1085102592571150095 : Int64)) ∈ lw_tbl := List.mem_of_getElem? (i := 941) (by decide +kernel)
theorem yy_J13_bitCount_95d88 : zY yJ13_bitCount_95d88 cJ13_bitCount_95d88 2 (some .int) 1 := ⟨q_938, q_101, by decide +kernel, by decide +kernel, by decide +kernel⟩
def f_J13_bitCount_95d88 (a0 : Int64) : Option Int32 :=
  zlt ((a0.toUInt64 >>> ((1 : Int32).toInt64.toUInt64 &&& Int64.toUInt64 63)).toInt64) (fun x1 => zlt (a0 - (x1 &&& (6148914691236517205 : Int64))) (fun x2 => zlt ((x2.toUInt64 >>> ((2 : Int32).toInt64.toUInt64 &&& Int64.toUInt64 63)).toInt64) (fun x3 => zlt ((x2 &&& (3689348814741910323 : Int64)) + (x3 &&& (3689348814741910323 : Int64))) (fun x4 => zlt ((x4.toUInt64 >>> ((4 : Int32).toInt64.toUInt64 &&& Int64.toUInt64 63)).toInt64) (fun x5 => zlt ((x4 + x5) &&& (1085102592571150095 : Int64)) (fun x6 => zlt ((x6.toUInt64 >>> ((8 : Int32).toInt64.toUInt64 &&& Int64.toUInt64 63)).toInt64) (fun x7 => zlt (x6 + x7) (fun x8 => zlt ((x8.toUInt64 >>> ((16 : Int32).toInt64.toUInt64 &&& Int64.toUInt64 63)).toInt64) (fun x9 => zlt (x8 + x9) (fun x10 => zlt ((x10.toUInt64 >>> ((32 : Int32).toInt64.toUInt64 &&& Int64.toUInt64 63)).toInt64) (fun x11 => zlt (x10 + x11) (fun x12 => zlt (x12.toInt32 &&& (127 : Int32)) (fun x13 => some x13)))))))))))))
set_option maxHeartbeats 4000000 in
set_option maxRecDepth 100000 in
theorem c_J13_bitCount_95d88 {r : Int32} (hE : zE0 l s0 a0 d cy B0) (a0 : Int64) (I : zI) (L : zL) (h : f_J13_bitCount_95d88 a0 = some r) : zM l s0 d cy B0 yJ13_bitCount_95d88 cJ13_bitCount_95d88 2 (some .int) 0 0 [.long a0] zSH zKn bc bs I L (.inl (some (.int r))) zSH zKn bc bs I L := by
  refine z_meth yy_J13_bitCount_95d88 hE (Nat.le_of_ble_eq_true rfl) (fun p e R s m args below meth c C => ?_)
  show zG p l e R s m args below meth c d cy B0 2 bc bs (zQ below s args d cy B0 bc bs (.inl (some (.int r))) zSH zKn bc bs I L) 0 [(0, .long a0)] [] zSH zKn bc bs I L
  unfold f_J13_bitCount_95d88 at h
  refine z_lload_n C rfl 0 rfl dJ13_bitCount_95d88_0 ?_
  refine z_lload_n C rfl 0 rfl dJ13_bitCount_95d88_1 ?_
  refine z_iconst C (v := 1) (by decide) dJ13_bitCount_95d88_2 ?_
  refine z_lushr C dJ13_bitCount_95d88_3 ?_
  obtain ⟨x1, ex1, h⟩ := zlt_e h
  refine z_eql C ex1 ?_
  refine z_ldc2 C dJ13_bitCount_95d88_4 q_939 ?_
  refine z_land C dJ13_bitCount_95d88_7 ?_
  refine z_lsub C dJ13_bitCount_95d88_8 ?_
  obtain ⟨x2, ex2, h⟩ := zlt_e h
  refine z_eql C ex2 ?_
  refine z_lstore_n C (lv' := [(0, .long x2)]) rfl (by decide) rfl dJ13_bitCount_95d88_9 ?_
  refine z_lload_n C rfl 0 rfl dJ13_bitCount_95d88_10 ?_
  refine z_ldc2 C dJ13_bitCount_95d88_11 q_940 ?_
  refine z_land C dJ13_bitCount_95d88_14 ?_
  refine z_lload_n C rfl 0 rfl dJ13_bitCount_95d88_15 ?_
  refine z_iconst C (v := 2) (by decide) dJ13_bitCount_95d88_16 ?_
  refine z_lushr C dJ13_bitCount_95d88_17 ?_
  obtain ⟨x3, ex3, h⟩ := zlt_e h
  refine z_eql C ex3 ?_
  refine z_ldc2 C dJ13_bitCount_95d88_18 q_940 ?_
  refine z_land C dJ13_bitCount_95d88_21 ?_
  refine z_ladd C dJ13_bitCount_95d88_22 ?_
  obtain ⟨x4, ex4, h⟩ := zlt_e h
  refine z_eql C ex4 ?_
  refine z_lstore_n C (lv' := [(0, .long x4)]) rfl (by decide) rfl dJ13_bitCount_95d88_23 ?_
  refine z_lload_n C rfl 0 rfl dJ13_bitCount_95d88_24 ?_
  refine z_lload_n C rfl 0 rfl dJ13_bitCount_95d88_25 ?_
  refine z_iconst C (v := 4) (by decide) dJ13_bitCount_95d88_26 ?_
  refine z_lushr C dJ13_bitCount_95d88_27 ?_
  obtain ⟨x5, ex5, h⟩ := zlt_e h
  refine z_eql C ex5 ?_
  refine z_ladd C dJ13_bitCount_95d88_28 ?_
  refine z_ldc2 C dJ13_bitCount_95d88_29 q_941 ?_
  refine z_land C dJ13_bitCount_95d88_32 ?_
  obtain ⟨x6, ex6, h⟩ := zlt_e h
  refine z_eql C ex6 ?_
  refine z_lstore_n C (lv' := [(0, .long x6)]) rfl (by decide) rfl dJ13_bitCount_95d88_33 ?_
  refine z_lload_n C rfl 0 rfl dJ13_bitCount_95d88_34 ?_
  refine z_lload_n C rfl 0 rfl dJ13_bitCount_95d88_35 ?_
  refine z_bipush C (v := 8) (by decide) dJ13_bitCount_95d88_36 ?_
  refine z_lushr C dJ13_bitCount_95d88_38 ?_
  obtain ⟨x7, ex7, h⟩ := zlt_e h
  refine z_eql C ex7 ?_
  refine z_ladd C dJ13_bitCount_95d88_39 ?_
  obtain ⟨x8, ex8, h⟩ := zlt_e h
  refine z_eql C ex8 ?_
  refine z_lstore_n C (lv' := [(0, .long x8)]) rfl (by decide) rfl dJ13_bitCount_95d88_40 ?_
  refine z_lload_n C rfl 0 rfl dJ13_bitCount_95d88_41 ?_
  refine z_lload_n C rfl 0 rfl dJ13_bitCount_95d88_42 ?_
  refine z_bipush C (v := 16) (by decide) dJ13_bitCount_95d88_43 ?_
  refine z_lushr C dJ13_bitCount_95d88_45 ?_
  obtain ⟨x9, ex9, h⟩ := zlt_e h
  refine z_eql C ex9 ?_
  refine z_ladd C dJ13_bitCount_95d88_46 ?_
  obtain ⟨x10, ex10, h⟩ := zlt_e h
  refine z_eql C ex10 ?_
  refine z_lstore_n C (lv' := [(0, .long x10)]) rfl (by decide) rfl dJ13_bitCount_95d88_47 ?_
  refine z_lload_n C rfl 0 rfl dJ13_bitCount_95d88_48 ?_
  refine z_lload_n C rfl 0 rfl dJ13_bitCount_95d88_49 ?_
  refine z_bipush C (v := 32) (by decide) dJ13_bitCount_95d88_50 ?_
  refine z_lushr C dJ13_bitCount_95d88_52 ?_
  obtain ⟨x11, ex11, h⟩ := zlt_e h
  refine z_eql C ex11 ?_
  refine z_ladd C dJ13_bitCount_95d88_53 ?_
  obtain ⟨x12, ex12, h⟩ := zlt_e h
  refine z_eql C ex12 ?_
  refine z_lstore_n C (lv' := [(0, .long x12)]) rfl (by decide) rfl dJ13_bitCount_95d88_54 ?_
  refine z_lload_n C rfl 0 rfl dJ13_bitCount_95d88_55 ?_
  refine z_l2i C dJ13_bitCount_95d88_56 ?_
  refine z_bipush C (v := 127) (by decide) dJ13_bitCount_95d88_57 ?_
  refine z_iand C dJ13_bitCount_95d88_59 ?_
  obtain ⟨x13, ex13, h⟩ := zlt_e h
  refine z_eqi C ex13 ?_
  obtain rfl := Option.some.inj h
  exact z_iret C dJ13_bitCount_95d88_60 .int rfl rfl rfl
theorem q_75 : (Cond.initialized "DeviceFind") ∈ lw_tbl := List.mem_of_getElem? (i := 75) (by decide +kernel)
theorem q_935 : (Cond.code ({ cls := "DeviceFind", name := "leftmost", desc := "(J)I" } : Jvm.MethodName) prog_1_method_26_code (2 : Nat) (Option.some Jvm.ClassFile.FieldType.int)) ∈ lw_tbl := List.mem_of_getElem? (i := 935) (by decide +kernel)
theorem q_936 : (Cond.methodLink "DeviceFind" (245 : Nat) ({ cls := "java/lang/Long", name := "bitCount", desc := "(J)I" } : Jvm.MethodName)) ∈ lw_tbl := List.mem_of_getElem? (i := 936) (by decide +kernel)
theorem q_937 : (Cond.static ({ cls := "java/lang/Long", name := "bitCount", desc := "(J)I" } : Jvm.MethodName)) ∈ lw_tbl := List.mem_of_getElem? (i := 937) (by decide +kernel)
theorem yy_X11_leftmost : zY yX11_leftmost cX11_leftmost 2 (some .int) 1 := ⟨q_935, q_75, by decide +kernel, by decide +kernel, by decide +kernel⟩
def f_X11_leftmost (a0 : Int64) : Option Int32 :=
  zlt (a0 &&& (-a0)) (fun x1 => zb1 (f_J13_bitCount_95d88 (x1 - (1 : Int64))) (fun x3 => some x3))
set_option maxHeartbeats 4000000 in
set_option maxRecDepth 100000 in
theorem c_X11_leftmost {r : Int32} (hE : zE0 l s0 a0 d cy B0) (a0 : Int64) (I : zI) (L : zL) (h : f_X11_leftmost a0 = some r) : zM l s0 d cy B0 yX11_leftmost cX11_leftmost 2 (some .int) 1 21 [.long a0] zSH zKn bc bs I L (.inl (some (.int r))) zSH zKn bc bs I L := by
  refine z_meth yy_X11_leftmost hE (Nat.le_of_ble_eq_true rfl) (fun p e R s m args below meth c C => ?_)
  show zG p l e R s m args below meth c d cy B0 2 bc bs (zQ below s args d cy B0 bc bs (.inl (some (.int r))) zSH zKn bc bs I L) 0 [(0, .long a0)] [] zSH zKn bc bs I L
  unfold f_X11_leftmost at h
  refine z_lload_n C rfl 0 rfl dX11_leftmost_0 ?_
  refine z_lload_n C rfl 0 rfl dX11_leftmost_1 ?_
  refine z_lneg C dX11_leftmost_2 ?_
  refine z_land C dX11_leftmost_3 ?_
  obtain ⟨x1, ex1, h⟩ := zlt_e h
  refine z_eql C ex1 ?_
  refine z_lconst C (v := 1) (by decide) dX11_leftmost_4 ?_
  refine z_lsub C dX11_leftmost_5 ?_
  obtain ⟨x3, hg2, h⟩ := zb1_e h
  refine z_callS C dX11_leftmost_6 yy_J13_bitCount_95d88 (c_J13_bitCount_95d88 C.2.2.2.2.1  (x1 - (1 : Int64)) I L hg2) q_936 q_937 (by decide) (by decide) rfl rfl (Nat.le_of_ble_eq_true rfl) ⟨Nat.le_refl _, Nat.le_refl _, Nat.le_refl _, Nat.le_refl _⟩ ?_
  obtain rfl := Option.some.inj h
  exact z_iret C dX11_leftmost_9 .int rfl rfl rfl
theorem q_859 : (Cond.code ({ cls := "DeviceFind", name := "squareAt", desc := "(II)I" } : Jvm.MethodName) prog_1_method_23_code (2 : Nat) (Option.some Jvm.ClassFile.FieldType.int)) ∈ lw_tbl := List.mem_of_getElem? (i := 859) (by decide +kernel)
theorem yy_X11_squareAt : zY yX11_squareAt cX11_squareAt 2 (some .int) 2 := ⟨q_859, q_75, by decide +kernel, by decide +kernel, by decide +kernel⟩
def f_X11_squareAt (a0 : Int32) (a1 : Int32) : Option Int32 :=
  zlt ((a1 * (64 : Int32)) + a0) (fun x1 => some x1)
set_option maxHeartbeats 4000000 in
set_option maxRecDepth 100000 in
theorem c_X11_squareAt {r : Int32} (hE : zE0 l s0 a0 d cy B0) (a0 : Int32) (a1 : Int32) (I : zI) (L : zL) (h : f_X11_squareAt a0 a1 = some r) : zM l s0 d cy B0 yX11_squareAt cX11_squareAt 2 (some .int) 0 0 [.int a0, .int a1] zSH zKn bc bs I L (.inl (some (.int r))) zSH zKn bc bs I L := by
  refine z_meth yy_X11_squareAt hE (Nat.le_of_ble_eq_true rfl) (fun p e R s m args below meth c C => ?_)
  show zG p l e R s m args below meth c d cy B0 2 bc bs (zQ below s args d cy B0 bc bs (.inl (some (.int r))) zSH zKn bc bs I L) 0 [(0, .int a0), (1, .int a1)] [] zSH zKn bc bs I L
  unfold f_X11_squareAt at h
  refine z_iload_n C rfl 1 rfl dX11_squareAt_0 ?_
  refine z_bipush C (v := 64) (by decide) dX11_squareAt_1 ?_
  refine z_imul C dX11_squareAt_3 ?_
  refine z_iload_n C rfl 0 rfl dX11_squareAt_4 ?_
  refine z_iadd C dX11_squareAt_5 ?_
  obtain ⟨x1, ex1, h⟩ := zlt_e h
  refine z_eqi C ex1 ?_
  obtain rfl := Option.some.inj h
  exact z_iret C dX11_squareAt_6 .int rfl rfl rfl
theorem q_76 : (Cond.initialized "java/lang/Math") ∈ lw_tbl := List.mem_of_getElem? (i := 76) (by decide +kernel)
theorem q_116 : (Cond.static ({ cls := "java/lang/Math", name := "max", desc := "(II)I" } : Jvm.MethodName)) ∈ lw_tbl := List.mem_of_getElem? (i := 116) (by decide +kernel)
theorem q_117 : (Cond.code ({ cls := "java/lang/Math", name := "max", desc := "(II)I" } : Jvm.MethodName) prog_20_method_65_code (2 : Nat) (Option.some Jvm.ClassFile.FieldType.int)) ∈ lw_tbl := List.mem_of_getElem? (i := 117) (by decide +kernel)
theorem q_338 : (Cond.fieldLink "DeviceFind$Peeler" (15 : Nat) "DeviceFind$Peeler" "squares" "[I") ∈ lw_tbl := List.mem_of_getElem? (i := 338) (by decide +kernel)
theorem q_858 : (Cond.static ({ cls := "DeviceFind", name := "squareAt", desc := "(II)I" } : Jvm.MethodName)) ∈ lw_tbl := List.mem_of_getElem? (i := 858) (by decide +kernel)
theorem q_945 : (Cond.code ({ cls := "DeviceFind$Peeler", name := "take", desc := "(II)V" } : Jvm.MethodName) prog_7_method_6_code (3 : Nat) (Option.none : Option Jvm.ClassFile.FieldType)) ∈ lw_tbl := List.mem_of_getElem? (i := 945) (by decide +kernel)
theorem q_946 : (Cond.methodLinkNest "DeviceFind$Peeler" (59 : Nat) ({ cls := "DeviceFind", name := "squareAt", desc := "(II)I" } : Jvm.MethodName) "DeviceFind") ∈ lw_tbl := List.mem_of_getElem? (i := 946) (by decide +kernel)
theorem q_947 : (Cond.methodLink "DeviceFind$Peeler" (63 : Nat) ({ cls := "java/lang/Math", name := "max", desc := "(II)I" } : Jvm.MethodName)) ∈ lw_tbl := List.mem_of_getElem? (i := 947) (by decide +kernel)
theorem yy_X5_take : zY yX5_take cX5_take 3 none 2 := ⟨q_945, q_84, by decide +kernel, by decide +kernel, by decide +kernel⟩
def f_X5_take_35 (I : zI) (L : zL) : Option (zI × zL) :=
  some (I, L)
def f_X5_take (a1 : Int32) (a2 : Int32) (I : zI) (L : zL) : Option (zI × zL) :=
  if a1 < 0 then (f_X5_take_35 I L) else (if (64 : Int32) ≤ a1 then (f_X5_take_35 I L) else (if a2 < 0 then (f_X5_take_35 I L) else (if (64 : Int32) ≤ a2 then (f_X5_take_35 I L) else (zck (zbd a2 64) (zlt (((L 60 a2.toNatClampNeg).toUInt64 >>> (a1.toInt64.toUInt64 &&& Int64.toUInt64 63)).toInt64) (fun x2 => if (x2 &&& (1 : Int64)) = (0 : Int64) then (f_X5_take_35 I L) else (zck (zbd a2 64) (zlt ((1 : Int64) <<< (a1.toInt64 &&& 63)) (fun x4 => zlt ((L 60 a2.toNatClampNeg) ^^^ x4) (fun x5 => zck (zbd a2 64) (zlt (zul L 60 a2.toNatClampNeg x5) (fun L7 => zck (zbd a2 64) (zlt ((1 : Int64) <<< (a1.toInt64 &&& 63)) (fun x9 => zlt ((L7 58 a2.toNatClampNeg) ||| x9) (fun x10 => zck (zbd a2 64) (zlt (zul L7 58 a2.toNatClampNeg x10) (fun L12 => zb1 (f_X11_squareAt a1 a2) (fun x14 => zck (zbd (I 57 2) 4096) (zlt (zu I 59 (I 57 2).toNatClampNeg x14) (fun I16 => zlt ((I16 57 2) + (1 : Int32)) (fun x17 => zlt (zu I16 57 2 x17) (fun I18 => zlt (zmx (I18 57 4) a2) (fun x19 => zlt (zu I18 57 4 x19) (fun I20 => some (I20, L12)))))))))))))))))))))))))
set_option maxHeartbeats 4000000 in
set_option maxRecDepth 100000 in
theorem l_X5_take_35 {r : zI × zL} (C : zC p l e R s m args below meth c s0 a0 d cy B0 yX5_take.cls cX5_take 3 none bc bs bc bs 1 40 []) (I : zI) (L : zL) (h : f_X5_take_35 I L = some r) : zG p l e R s m args below meth c d cy B0 3 bc bs (zQ below s args d cy B0 bc bs (.inl none) zSH zKn bc bs r.1 r.2) 35 [] [] zSH zKn bc bs I L := by
  unfold f_X5_take_35 at h
  obtain rfl := Option.some.inj h
  exact z_vret C dX5_take_35 rfl rfl
set_option maxHeartbeats 4000000 in
set_option maxRecDepth 100000 in
theorem c_X5_take {r : zI × zL} (hE : zE0 l s0 a0 d cy B0) (a1 : Int32) (a2 : Int32) (I : zI) (L : zL) (h : f_X5_take a1 a2 I L = some r) : zM l s0 d cy B0 yX5_take cX5_take 3 none 1 40 [.ref (B0 + 57), .int a1, .int a2] zSH zKn bc bs I L (.inl none) zSH zKn bc bs r.1 r.2 := by
  refine z_meth yy_X5_take hE (Nat.le_of_ble_eq_true rfl) (fun p e R s m args below meth c C => ?_)
  show zG p l e R s m args below meth c d cy B0 3 bc bs (zQ below s args d cy B0 bc bs (.inl none) zSH zKn bc bs r.1 r.2) 0 [(0, .ref (B0 + 57)), (1, .int a1), (2, .int a2)] [] zSH zKn bc bs I L
  unfold f_X5_take at h
  refine z_iload_n C rfl 1 rfl dX5_take_0 ?_
  refine z_if_lt C 35 (by decide) dX5_take_1 (fun hc => ?_) (fun hc => ?_)
  · have h := zif_t hc h
    refine z_lv [] (lv' := []) rfl ?_
    exact l_X5_take_35 C  I L h
  · have h := zif_f hc h
    refine z_iload_n C rfl 1 rfl dX5_take_4 ?_
    refine z_bipush C (v := 64) (by decide) dX5_take_5 ?_
    refine z_icmp_ge C 35 (by decide) dX5_take_7 (fun hc => ?_) (fun hc => ?_)
    · have h := zif_t hc h
      refine z_lv [] (lv' := []) rfl ?_
      exact l_X5_take_35 C  I L h
    · have h := zif_f hc h
      refine z_iload_n C rfl 2 rfl dX5_take_10 ?_
      refine z_if_lt C 35 (by decide) dX5_take_11 (fun hc => ?_) (fun hc => ?_)
      · have h := zif_t hc h
        refine z_lv [] (lv' := []) rfl ?_
        exact l_X5_take_35 C  I L h
      · have h := zif_f hc h
        refine z_iload_n C rfl 2 rfl dX5_take_14 ?_
        refine z_bipush C (v := 64) (by decide) dX5_take_15 ?_
        refine z_icmp_ge C 35 (by decide) dX5_take_17 (fun hc => ?_) (fun hc => ?_)
        · have h := zif_t hc h
          refine z_lv [] (lv' := []) rfl ?_
          exact l_X5_take_35 C  I L h
        · have h := zif_f hc h
          refine z_aload_n C rfl 0 rfl dX5_take_20 ?_
          refine z_getr C zc_5 dX5_take_21 5 57 60 rfl (by decide) (by decide) q_348 rfl rfl ?_
          refine z_iload_n C rfl 2 rfl dX5_take_24 ?_
          obtain ⟨hb1, h⟩ := zck_e h
          refine z_laload C dX5_take_25 rfl rfl (by decide) (zbd_in hb1) ?_
          refine z_iload_n C rfl 1 rfl dX5_take_26 ?_
          refine z_lushr C dX5_take_27 ?_
          obtain ⟨x2, ex2, h⟩ := zlt_e h
          refine z_eql C ex2 ?_
          refine z_lconst C (v := 1) (by decide) dX5_take_28 ?_
          refine z_land C dX5_take_29 ?_
          refine z_lconst C (v := 0) (by decide) dX5_take_30 ?_
          refine z_lif_ne C 36 (by decide) dX5_take_31 dX5_take_32 (fun hc => ?_) (fun hc => ?_)
          · have h := zif_f hc h
            refine z_aload_n C rfl 0 rfl dX5_take_36 ?_
            refine z_getr C zc_5 dX5_take_37 5 57 60 rfl (by decide) (by decide) q_348 rfl rfl ?_
            refine z_iload_n C rfl 2 rfl dX5_take_40 ?_
            refine z_dup2_11 C rfl rfl dX5_take_41 ?_
            obtain ⟨hb3, h⟩ := zck_e h
            refine z_laload C dX5_take_42 rfl rfl (by decide) (zbd_in hb3) ?_
            refine z_lconst C (v := 1) (by decide) dX5_take_43 ?_
            refine z_iload_n C rfl 1 rfl dX5_take_44 ?_
            refine z_lshl C dX5_take_45 ?_
            obtain ⟨x4, ex4, h⟩ := zlt_e h
            refine z_eql C ex4 ?_
            refine z_lxor C dX5_take_46 ?_
            obtain ⟨x5, ex5, h⟩ := zlt_e h
            refine z_eql C ex5 ?_
            obtain ⟨hb6, h⟩ := zck_e h
            refine z_lastore C dX5_take_47 rfl rfl (by decide) (zbd_in hb6) ?_
            obtain ⟨L7, eL7, h⟩ := zlt_e h
            refine z_eqL C eL7 ?_
            refine z_aload_n C rfl 0 rfl dX5_take_48 ?_
            refine z_getr C zc_5 dX5_take_49 0 57 58 rfl (by decide) (by decide) q_336 rfl rfl ?_
            refine z_iload_n C rfl 2 rfl dX5_take_52 ?_
            refine z_dup2_11 C rfl rfl dX5_take_53 ?_
            obtain ⟨hb8, h⟩ := zck_e h
            refine z_laload C dX5_take_54 rfl rfl (by decide) (zbd_in hb8) ?_
            refine z_lconst C (v := 1) (by decide) dX5_take_55 ?_
            refine z_iload_n C rfl 1 rfl dX5_take_56 ?_
            refine z_lshl C dX5_take_57 ?_
            obtain ⟨x9, ex9, h⟩ := zlt_e h
            refine z_eql C ex9 ?_
            refine z_lor C dX5_take_58 ?_
            obtain ⟨x10, ex10, h⟩ := zlt_e h
            refine z_eql C ex10 ?_
            obtain ⟨hb11, h⟩ := zck_e h
            refine z_lastore C dX5_take_59 rfl rfl (by decide) (zbd_in hb11) ?_
            obtain ⟨L12, eL12, h⟩ := zlt_e h
            refine z_eqL C eL12 ?_
            refine z_aload_n C rfl 0 rfl dX5_take_60 ?_
            refine z_getr C zc_5 dX5_take_61 1 57 59 rfl (by decide) (by decide) q_338 rfl rfl ?_
            refine z_aload_n C rfl 0 rfl dX5_take_64 ?_
            refine z_geti C zc_5 dX5_take_65 2 57 rfl (by decide) (by decide) q_341 rfl ?_
            refine z_iload_n C rfl 1 rfl dX5_take_68 ?_
            refine z_iload_n C rfl 2 rfl dX5_take_69 ?_
            obtain ⟨x14, hg13, h⟩ := zb1_e h
            refine z_callSN C dX5_take_70 yy_X11_squareAt (c_X11_squareAt C.2.2.2.2.1  a1 a2 I L12 hg13) q_946 q_858 (by decide) (by decide) rfl rfl (Nat.le_of_ble_eq_true rfl) ⟨Nat.le_refl _, Nat.le_refl _, Nat.le_refl _, Nat.le_refl _⟩ ?_
            obtain ⟨hb15, h⟩ := zck_e h
            refine z_iastore C dX5_take_73 rfl rfl (by decide) (zbd_in hb15) ?_
            obtain ⟨I16, eI16, h⟩ := zlt_e h
            refine z_eqI C eI16 ?_
            refine z_aload_n C rfl 0 rfl dX5_take_74 ?_
            refine z_dup C rfl dX5_take_75 ?_
            refine z_geti C zc_5 dX5_take_76 2 57 rfl (by decide) (by decide) q_341 rfl ?_
            refine z_iconst C (v := 1) (by decide) dX5_take_79 ?_
            refine z_iadd C dX5_take_80 ?_
            obtain ⟨x17, ex17, h⟩ := zlt_e h
            refine z_eqi C ex17 ?_
            refine z_puti C zc_5 dX5_take_81 2 57 rfl (by decide) (by decide) rfl q_341 rfl rfl rfl ?_
            obtain ⟨I18, eI18, h⟩ := zlt_e h
            refine z_eqI C eI18 ?_
            refine z_aload_n C rfl 0 rfl dX5_take_84 ?_
            refine z_aload_n C rfl 0 rfl dX5_take_85 ?_
            refine z_geti C zc_5 dX5_take_86 4 57 rfl (by decide) (by decide) q_346 rfl ?_
            refine z_iload_n C rfl 2 rfl dX5_take_89 ?_
            refine z_mmax C dX5_take_90 q_947 q_116 q_76 q_117 (by decide) (Nat.le_of_ble_eq_true rfl) ⟨Nat.le_refl _, Nat.le_refl _⟩ ?_
            obtain ⟨x19, ex19, h⟩ := zlt_e h
            refine z_eqi C ex19 ?_
            refine z_puti C zc_5 dX5_take_93 4 57 rfl (by decide) (by decide) rfl q_346 rfl rfl rfl ?_
            obtain ⟨I20, eI20, h⟩ := zlt_e h
            refine z_eqI C eI20 ?_
            obtain rfl := Option.some.inj h
            exact z_vret C dX5_take_96 rfl rfl
          · have h := zif_t hc h
            refine z_lv [] (lv' := []) rfl ?_
            exact l_X5_take_35 C  I L h
theorem q_950 : (Cond.code ({ cls := "DeviceFind", name := "columnOf", desc := "(I)I" } : Jvm.MethodName) prog_1_method_24_code (1 : Nat) (Option.some Jvm.ClassFile.FieldType.int)) ∈ lw_tbl := List.mem_of_getElem? (i := 950) (by decide +kernel)
theorem yy_X11_columnOf : zY yX11_columnOf cX11_columnOf 1 (some .int) 1 := ⟨q_950, q_75, by decide +kernel, by decide +kernel, by decide +kernel⟩
def f_X11_columnOf (a0 : Int32) : Option Int32 :=
  zlt (a0 - a0 / (64 : Int32) * (64 : Int32)) (fun x2 => some x2)
set_option maxHeartbeats 4000000 in
set_option maxRecDepth 100000 in
theorem c_X11_columnOf {r : Int32} (hE : zE0 l s0 a0 d cy B0) (a0 : Int32) (I : zI) (L : zL) (h : f_X11_columnOf a0 = some r) : zM l s0 d cy B0 yX11_columnOf cX11_columnOf 1 (some .int) 0 0 [.int a0] zSH zKn bc bs I L (.inl (some (.int r))) zSH zKn bc bs I L := by
  refine z_meth yy_X11_columnOf hE (Nat.le_of_ble_eq_true rfl) (fun p e R s m args below meth c C => ?_)
  show zG p l e R s m args below meth c d cy B0 1 bc bs (zQ below s args d cy B0 bc bs (.inl (some (.int r))) zSH zKn bc bs I L) 0 [(0, .int a0)] [] zSH zKn bc bs I L
  unfold f_X11_columnOf at h
  refine z_iload_n C rfl 0 rfl dX11_columnOf_0 ?_
  refine z_bipush C (v := 64) (by decide) dX11_columnOf_1 ?_
  refine z_irem C (by decide) dX11_columnOf_3 ?_
  obtain ⟨x2, ex2, h⟩ := zlt_e h
  refine z_eqi C ex2 ?_
  obtain rfl := Option.some.inj h
  exact z_iret C dX11_columnOf_4 .int rfl rfl rfl
theorem q_953 : (Cond.code ({ cls := "DeviceFind", name := "rowOf", desc := "(I)I" } : Jvm.MethodName) prog_1_method_25_code (1 : Nat) (Option.some Jvm.ClassFile.FieldType.int)) ∈ lw_tbl := List.mem_of_getElem? (i := 953) (by decide +kernel)
theorem yy_X11_rowOf : zY yX11_rowOf cX11_rowOf 1 (some .int) 1 := ⟨q_953, q_75, by decide +kernel, by decide +kernel, by decide +kernel⟩
def f_X11_rowOf (a0 : Int32) : Option Int32 :=
  zlt (a0 / (64 : Int32)) (fun x2 => some x2)
set_option maxHeartbeats 4000000 in
set_option maxRecDepth 100000 in
theorem c_X11_rowOf {r : Int32} (hE : zE0 l s0 a0 d cy B0) (a0 : Int32) (I : zI) (L : zL) (h : f_X11_rowOf a0 = some r) : zM l s0 d cy B0 yX11_rowOf cX11_rowOf 1 (some .int) 0 0 [.int a0] zSH zKn bc bs I L (.inl (some (.int r))) zSH zKn bc bs I L := by
  refine z_meth yy_X11_rowOf hE (Nat.le_of_ble_eq_true rfl) (fun p e R s m args below meth c C => ?_)
  show zG p l e R s m args below meth c d cy B0 1 bc bs (zQ below s args d cy B0 bc bs (.inl (some (.int r))) zSH zKn bc bs I L) 0 [(0, .int a0)] [] zSH zKn bc bs I L
  unfold f_X11_rowOf at h
  refine z_iload_n C rfl 0 rfl dX11_rowOf_0 ?_
  refine z_bipush C (v := 64) (by decide) dX11_rowOf_1 ?_
  refine z_idiv C (by decide) dX11_rowOf_3 ?_
  obtain ⟨x2, ex2, h⟩ := zlt_e h
  refine z_eqi C ex2 ?_
  obtain rfl := Option.some.inj h
  exact z_iret C dX11_rowOf_4 .int rfl rfl rfl
theorem q_27 : Cond.selects "DeviceFind$Peeler" ⟨"DeviceFind$Peeler", "take", "(II)V"⟩ ⟨"DeviceFind$Peeler", "take", "(II)V"⟩ ∈ lw_tbl := List.mem_of_getElem? (i := 27) (by decide +kernel)
theorem q_942 : (Cond.methodLink "DeviceFind$Peeler" (45 : Nat) ({ cls := "DeviceFind$Peeler", name := "take", desc := "(II)V" } : Jvm.MethodName)) ∈ lw_tbl := List.mem_of_getElem? (i := 942) (by decide +kernel)
theorem q_944 : (Cond.instanceMethod ({ cls := "DeviceFind$Peeler", name := "take", desc := "(II)V" } : Jvm.MethodName)) ∈ lw_tbl := List.mem_of_getElem? (i := 944) (by decide +kernel)
theorem q_957 : (Cond.code ({ cls := "DeviceFind$Peeler", name := "takeBeside", desc := "(II)V" } : Jvm.MethodName) prog_7_method_5_code (3 : Nat) (Option.none : Option Jvm.ClassFile.FieldType)) ∈ lw_tbl := List.mem_of_getElem? (i := 957) (by decide +kernel)
theorem yy_X5_takeBeside : zY yX5_takeBeside cX5_takeBeside 3 none 2 := ⟨q_957, q_84, by decide +kernel, by decide +kernel, by decide +kernel⟩
def f_X5_takeBeside (a1 : Int32) (a2 : Int32) (I : zI) (L : zL) : Option (zI × zL) :=
  zb2 (f_X5_take (a1 - (1 : Int32)) a2 I L) (fun I2 L3 => zb2 (f_X5_take (a1 + (1 : Int32)) a2 I2 L3) (fun I5 L6 => zb2 (f_X5_take a1 (a2 - (1 : Int32)) I5 L6) (fun I8 L9 => zb2 (f_X5_take a1 (a2 + (1 : Int32)) I8 L9) (fun I11 L12 => some (I11, L12)))))
set_option maxHeartbeats 4000000 in
set_option maxRecDepth 100000 in
theorem c_X5_takeBeside {r : zI × zL} (hE : zE0 l s0 a0 d cy B0) (a1 : Int32) (a2 : Int32) (I : zI) (L : zL) (h : f_X5_takeBeside a1 a2 I L = some r) : zM l s0 d cy B0 yX5_takeBeside cX5_takeBeside 3 none 2 62 [.ref (B0 + 57), .int a1, .int a2] zSH zKn bc bs I L (.inl none) zSH zKn bc bs r.1 r.2 := by
  refine z_meth yy_X5_takeBeside hE (Nat.le_of_ble_eq_true rfl) (fun p e R s m args below meth c C => ?_)
  show zG p l e R s m args below meth c d cy B0 3 bc bs (zQ below s args d cy B0 bc bs (.inl none) zSH zKn bc bs r.1 r.2) 0 [(0, .ref (B0 + 57)), (1, .int a1), (2, .int a2)] [] zSH zKn bc bs I L
  unfold f_X5_takeBeside at h
  refine z_aload_n C rfl 0 rfl dX5_takeBeside_0 ?_
  refine z_iload_n C rfl 1 rfl dX5_takeBeside_1 ?_
  refine z_iconst C (v := 1) (by decide) dX5_takeBeside_2 ?_
  refine z_isub C dX5_takeBeside_3 ?_
  refine z_iload_n C rfl 2 rfl dX5_takeBeside_4 ?_
  obtain ⟨I2, L3, hg1, h⟩ := zb2_e h
  refine z_callV C zc_5 rfl (by decide) dX5_takeBeside_5 yy_X5_take (c_X5_take C.2.2.2.2.1  (a1 - (1 : Int32)) a2 I L hg1) q_942 q_944 q_27 (by decide) (by decide) rfl rfl (Nat.le_of_ble_eq_true rfl) ⟨Nat.le_refl _, Nat.le_refl _, Nat.le_refl _, Nat.le_refl _⟩ ?_
  refine z_aload_n C rfl 0 rfl dX5_takeBeside_8 ?_
  refine z_iload_n C rfl 1 rfl dX5_takeBeside_9 ?_
  refine z_iconst C (v := 1) (by decide) dX5_takeBeside_10 ?_
  refine z_iadd C dX5_takeBeside_11 ?_
  refine z_iload_n C rfl 2 rfl dX5_takeBeside_12 ?_
  obtain ⟨I5, L6, hg4, h⟩ := zb2_e h
  refine z_callV C zc_5 rfl (by decide) dX5_takeBeside_13 yy_X5_take (c_X5_take C.2.2.2.2.1  (a1 + (1 : Int32)) a2 I2 L3 hg4) q_942 q_944 q_27 (by decide) (by decide) rfl rfl (Nat.le_of_ble_eq_true rfl) ⟨Nat.le_refl _, Nat.le_refl _, Nat.le_refl _, Nat.le_refl _⟩ ?_
  refine z_aload_n C rfl 0 rfl dX5_takeBeside_16 ?_
  refine z_iload_n C rfl 1 rfl dX5_takeBeside_17 ?_
  refine z_iload_n C rfl 2 rfl dX5_takeBeside_18 ?_
  refine z_iconst C (v := 1) (by decide) dX5_takeBeside_19 ?_
  refine z_isub C dX5_takeBeside_20 ?_
  obtain ⟨I8, L9, hg7, h⟩ := zb2_e h
  refine z_callV C zc_5 rfl (by decide) dX5_takeBeside_21 yy_X5_take (c_X5_take C.2.2.2.2.1  a1 (a2 - (1 : Int32)) I5 L6 hg7) q_942 q_944 q_27 (by decide) (by decide) rfl rfl (Nat.le_of_ble_eq_true rfl) ⟨Nat.le_refl _, Nat.le_refl _, Nat.le_refl _, Nat.le_refl _⟩ ?_
  refine z_aload_n C rfl 0 rfl dX5_takeBeside_24 ?_
  refine z_iload_n C rfl 1 rfl dX5_takeBeside_25 ?_
  refine z_iload_n C rfl 2 rfl dX5_takeBeside_26 ?_
  refine z_iconst C (v := 1) (by decide) dX5_takeBeside_27 ?_
  refine z_iadd C dX5_takeBeside_28 ?_
  obtain ⟨I11, L12, hg10, h⟩ := zb2_e h
  refine z_callV C zc_5 rfl (by decide) dX5_takeBeside_29 yy_X5_take (c_X5_take C.2.2.2.2.1  a1 (a2 + (1 : Int32)) I8 L9 hg10) q_942 q_944 q_27 (by decide) (by decide) rfl rfl (Nat.le_of_ble_eq_true rfl) ⟨Nat.le_refl _, Nat.le_refl _, Nat.le_refl _, Nat.le_refl _⟩ ?_
  obtain rfl := Option.some.inj h
  exact z_vret C dX5_takeBeside_32 rfl rfl
theorem q_28 : Cond.selects "DeviceFind$Peeler" ⟨"DeviceFind$Peeler", "takeBeside", "(II)V"⟩ ⟨"DeviceFind$Peeler", "takeBeside", "(II)V"⟩ ∈ lw_tbl := List.mem_of_getElem? (i := 28) (by decide +kernel)
theorem q_932 : (Cond.code ({ cls := "DeviceFind$Peeler", name := "next", desc := "()Z" } : Jvm.MethodName) prog_7_method_3_code (2 : Nat) (Option.some Jvm.ClassFile.FieldType.boolean)) ∈ lw_tbl := List.mem_of_getElem? (i := 932) (by decide +kernel)
theorem q_933 : (Cond.methodLinkNest "DeviceFind$Peeler" (41 : Nat) ({ cls := "DeviceFind", name := "leftmost", desc := "(J)I" } : Jvm.MethodName) "DeviceFind") ∈ lw_tbl := List.mem_of_getElem? (i := 933) (by decide +kernel)
theorem q_934 : (Cond.static ({ cls := "DeviceFind", name := "leftmost", desc := "(J)I" } : Jvm.MethodName)) ∈ lw_tbl := List.mem_of_getElem? (i := 934) (by decide +kernel)
theorem q_948 : (Cond.methodLinkNest "DeviceFind$Peeler" (49 : Nat) ({ cls := "DeviceFind", name := "columnOf", desc := "(I)I" } : Jvm.MethodName) "DeviceFind") ∈ lw_tbl := List.mem_of_getElem? (i := 948) (by decide +kernel)
theorem q_949 : (Cond.static ({ cls := "DeviceFind", name := "columnOf", desc := "(I)I" } : Jvm.MethodName)) ∈ lw_tbl := List.mem_of_getElem? (i := 949) (by decide +kernel)
theorem q_951 : (Cond.methodLinkNest "DeviceFind$Peeler" (53 : Nat) ({ cls := "DeviceFind", name := "rowOf", desc := "(I)I" } : Jvm.MethodName) "DeviceFind") ∈ lw_tbl := List.mem_of_getElem? (i := 951) (by decide +kernel)
theorem q_952 : (Cond.static ({ cls := "DeviceFind", name := "rowOf", desc := "(I)I" } : Jvm.MethodName)) ∈ lw_tbl := List.mem_of_getElem? (i := 952) (by decide +kernel)
theorem q_954 : (Cond.methodLink "DeviceFind$Peeler" (56 : Nat) ({ cls := "DeviceFind$Peeler", name := "takeBeside", desc := "(II)V" } : Jvm.MethodName)) ∈ lw_tbl := List.mem_of_getElem? (i := 954) (by decide +kernel)
theorem q_956 : (Cond.instanceMethod ({ cls := "DeviceFind$Peeler", name := "takeBeside", desc := "(II)V" } : Jvm.MethodName)) ∈ lw_tbl := List.mem_of_getElem? (i := 956) (by decide +kernel)
theorem yy_X5_next : zY yX5_next cX5_next 2 (some .boolean) 0 := ⟨q_932, q_84, by decide +kernel, by decide +kernel, by decide +kernel⟩
def f_X5_next_124 (I : zI) (L : zL) : Option (Int32 × zI × zL) :=
  some ((1 : Int32), I, L)
def f_X5_next_81 (k81 : Int32 → zI → zL → Option (Int32 × zI × zL)) (v1 : Int32) (I : zI) (L : zL) : Option (Int32 × zI × zL) :=
  if (4096 : Int32) ≤ v1 then (f_X5_next_124 I L) else (if (I 57 2) ≤ v1 then (f_X5_next_124 I L) else (zck (zbd v1 4096) (zb1 (f_X11_columnOf (I 59 v1.toNatClampNeg)) (fun x18 => zck (zbd v1 4096) (zb1 (f_X11_rowOf (I 59 v1.toNatClampNeg)) (fun x21 => zb2 (f_X5_takeBeside x18 x21 I L) (fun I23 L24 => zlt (v1 + 1) (fun x25 => k81 x25 I23 L24))))))))
def f_X5_next_40 (I : zI) (L : zL) : Option (Int32 × zI × zL) :=
  zlt (zu I 57 4 (I 57 3)) (fun I8 => if (I8 57 3) < (64 : Int32) then (zlt (I8 57 3) (fun x9 => zck (zbd x9 64) (zb1 (f_X11_leftmost (L 60 x9.toNatClampNeg)) (fun x12 => zb2 (f_X5_take x12 (I8 57 3) I8 L) (fun I14 L15 => zlp3 (f_X5_next_81) zF (0 : Int32) I14 L15))))) else (some ((0 : Int32), I8, L)))
def f_X5_next_4 (k4 : zI → zL → Option (Int32 × zI × zL)) (I : zI) (L : zL) : Option (Int32 × zI × zL) :=
  if (64 : Int32) ≤ (I 57 3) then (f_X5_next_40 I L) else (zlt (I 57 3) (fun x4 => zck (zbd x4 64) (if (L 60 x4.toNatClampNeg) = (0 : Int64) then (zlt ((I 57 3) + (1 : Int32)) (fun x6 => zlt (zu I 57 3 x6) (fun I7 => k4 I7 L))) else (f_X5_next_40 I L))))
def f_X5_next (I : zI) (L : zL) : Option (Int32 × zI × zL) :=
  zb2 (f_X5_dropShape I L) (fun I2 L3 => zlp2 (f_X5_next_4) zF I2 L3)
set_option maxHeartbeats 4000000 in
set_option maxRecDepth 100000 in
theorem l_X5_next_124 {r : Int32 × zI × zL} (C : zC p l e R s m args below meth c s0 a0 d cy B0 yX5_next.cls cX5_next 2 (some .boolean) bc bs bc bs 3 84 []) (I : zI) (L : zL) (h : f_X5_next_124 I L = some r) : zG p l e R s m args below meth c d cy B0 2 bc bs (zQ below s args d cy B0 bc bs (.inl (some (.int r.1))) zSH zKn bc bs r.2.1 r.2.2) 124 [] [] zSH zKn bc bs I L := by
  unfold f_X5_next_124 at h
  refine z_iconst C (v := 1) (by decide) dX5_next_124 ?_
  obtain rfl := Option.some.inj h
  exact z_iret C dX5_next_125 .boolean rfl rfl rfl
set_option maxHeartbeats 4000000 in
set_option maxRecDepth 100000 in
theorem l_X5_next_81 {r : Int32 × zI × zL} (C : zC p l e R s m args below meth c s0 a0 d cy B0 yX5_next.cls cX5_next 2 (some .boolean) bc bs bc bs 3 84 []) (k81 : Int32 → zI → zL → Option (Int32 × zI × zL)) (hk81 : ∀ (v1 : Int32) (I : zI) (L : zL), k81 v1 I L = some r → zG p l e R s m args below meth c d cy B0 2 bc bs (zQ below s args d cy B0 bc bs (.inl (some (.int r.1))) zSH zKn bc bs r.2.1 r.2.2) 81 [(0, .ref (B0 + 57)), (1, .int v1)] [] zSH zKn bc bs I L) (v1 : Int32) (I : zI) (L : zL) (h : f_X5_next_81 k81 v1 I L = some r) : zG p l e R s m args below meth c d cy B0 2 bc bs (zQ below s args d cy B0 bc bs (.inl (some (.int r.1))) zSH zKn bc bs r.2.1 r.2.2) 81 [(0, .ref (B0 + 57)), (1, .int v1)] [] zSH zKn bc bs I L := by
  unfold f_X5_next_81 at h
  refine z_iload_n C rfl 1 rfl dX5_next_81 ?_
  refine z_sipush C (v := 4096) (by decide) dX5_next_82 ?_
  refine z_icmp_ge C 124 (by decide) dX5_next_85 (fun hc => ?_) (fun hc => ?_)
  · have h := zif_t hc h
    refine z_lv [] (lv' := []) rfl ?_
    exact l_X5_next_124 C  I L h
  · have h := zif_f hc h
    refine z_iload_n C rfl 1 rfl dX5_next_88 ?_
    refine z_aload_n C rfl 0 rfl dX5_next_89 ?_
    refine z_geti C zc_5 dX5_next_90 2 57 rfl (by decide) (by decide) q_341 rfl ?_
    refine z_icmp_ge C 124 (by decide) dX5_next_93 (fun hc => ?_) (fun hc => ?_)
    · have h := zif_t hc h
      refine z_lv [] (lv' := []) rfl ?_
      exact l_X5_next_124 C  I L h
    · have h := zif_f hc h
      refine z_aload_n C rfl 0 rfl dX5_next_96 ?_
      refine z_aload_n C rfl 0 rfl dX5_next_97 ?_
      refine z_getr C zc_5 dX5_next_98 1 57 59 rfl (by decide) (by decide) q_338 rfl rfl ?_
      refine z_iload_n C rfl 1 rfl dX5_next_101 ?_
      obtain ⟨hb16, h⟩ := zck_e h
      refine z_iaload C dX5_next_102 rfl rfl (by decide) (zbd_in hb16) ?_
      obtain ⟨x18, hg17, h⟩ := zb1_e h
      refine z_callSN C dX5_next_103 yy_X11_columnOf (c_X11_columnOf C.2.2.2.2.1  (I 59 v1.toNatClampNeg) I L hg17) q_948 q_949 (by decide) (by decide) rfl rfl (Nat.le_of_ble_eq_true rfl) ⟨Nat.le_refl _, Nat.le_refl _, Nat.le_refl _, Nat.le_refl _⟩ ?_
      refine z_aload_n C rfl 0 rfl dX5_next_106 ?_
      refine z_getr C zc_5 dX5_next_107 1 57 59 rfl (by decide) (by decide) q_338 rfl rfl ?_
      refine z_iload_n C rfl 1 rfl dX5_next_110 ?_
      obtain ⟨hb19, h⟩ := zck_e h
      refine z_iaload C dX5_next_111 rfl rfl (by decide) (zbd_in hb19) ?_
      obtain ⟨x21, hg20, h⟩ := zb1_e h
      refine z_callSN C dX5_next_112 yy_X11_rowOf (c_X11_rowOf C.2.2.2.2.1  (I 59 v1.toNatClampNeg) I L hg20) q_951 q_952 (by decide) (by decide) rfl rfl (Nat.le_of_ble_eq_true rfl) ⟨Nat.le_refl _, Nat.le_refl _, Nat.le_refl _, Nat.le_refl _⟩ ?_
      obtain ⟨I23, L24, hg22, h⟩ := zb2_e h
      refine z_callV C zc_5 rfl (by decide) dX5_next_115 yy_X5_takeBeside (c_X5_takeBeside C.2.2.2.2.1  x18 x21 I L hg22) q_954 q_956 q_28 (by decide) (by decide) rfl rfl (Nat.le_of_ble_eq_true rfl) ⟨Nat.le_refl _, Nat.le_refl _, Nat.le_refl _, Nat.le_refl _⟩ ?_
      obtain ⟨x25, ex25, h⟩ := zlt_e h
      refine z_iinc C (j := 1) (v := x25) (lv' := [(1, .int x25), (0, .ref (B0 + 57))]) rfl (by rw [ex25]; rfl) (by decide) rfl dX5_next_118 ?_
      refine z_goto C 81 (by decide) dX5_next_121 ?_
      refine z_lv [1, 0] (lv' := [(0, .ref (B0 + 57)), (1, .int x25)]) rfl ?_
      exact hk81 x25 I23 L24 h
set_option maxHeartbeats 4000000 in
set_option maxRecDepth 100000 in
theorem L_X5_next_81 {r : Int32 × zI × zL} (C : zC p l e R s m args below meth c s0 a0 d cy B0 yX5_next.cls cX5_next 2 (some .boolean) bc bs bc bs 3 84 []) (v1 : Int32) (I : zI) (L : zL) (h : zlp3 (f_X5_next_81) zF v1 I L = some r) : zG p l e R s m args below meth c d cy B0 2 bc bs (zQ below s args d cy B0 bc bs (.inl (some (.int r.1))) zSH zKn bc bs r.2.1 r.2.2) 81 [(0, .ref (B0 + 57)), (1, .int v1)] [] zSH zKn bc bs I L :=
 zlp3_e (fun (v1 : Int32) (I : zI) (L : zL) => zG p l e R s m args below meth c d cy B0 2 bc bs (zQ below s args d cy B0 bc bs (.inl (some (.int r.1))) zSH zKn bc bs r.2.1 r.2.2) 81 [(0, .ref (B0 + 57)), (1, .int v1)] [] zSH zKn bc bs I L) (fun k9 hk9 v1 I L h => l_X5_next_81 C k9 hk9 v1 I L h) zF v1 I L h
set_option maxHeartbeats 4000000 in
set_option maxRecDepth 100000 in
theorem l_X5_next_40 {r : Int32 × zI × zL} (C : zC p l e R s m args below meth c s0 a0 d cy B0 yX5_next.cls cX5_next 2 (some .boolean) bc bs bc bs 3 84 []) (I : zI) (L : zL) (h : f_X5_next_40 I L = some r) : zG p l e R s m args below meth c d cy B0 2 bc bs (zQ below s args d cy B0 bc bs (.inl (some (.int r.1))) zSH zKn bc bs r.2.1 r.2.2) 40 [(0, .ref (B0 + 57))] [] zSH zKn bc bs I L := by
  unfold f_X5_next_40 at h
  refine z_aload_n C rfl 0 rfl dX5_next_40 ?_
  refine z_aload_n C rfl 0 rfl dX5_next_41 ?_
  refine z_geti C zc_5 dX5_next_42 3 57 rfl (by decide) (by decide) q_344 rfl ?_
  refine z_puti C zc_5 dX5_next_45 4 57 rfl (by decide) (by decide) rfl q_346 rfl rfl rfl ?_
  obtain ⟨I8, eI8, h⟩ := zlt_e h
  refine z_eqI C eI8 ?_
  refine z_aload_n C rfl 0 rfl dX5_next_48 ?_
  refine z_geti C zc_5 dX5_next_49 3 57 rfl (by decide) (by decide) q_344 rfl ?_
  refine z_bipush C (v := 64) (by decide) dX5_next_52 ?_
  refine z_icmp_lt C 59 (by decide) dX5_next_54 (fun hc => ?_) (fun hc => ?_)
  · have h := zif_t hc h
    refine z_aload_n C rfl 0 rfl dX5_next_59 ?_
    refine z_aload_n C rfl 0 rfl dX5_next_60 ?_
    refine z_getr C zc_5 dX5_next_61 5 57 60 rfl (by decide) (by decide) q_348 rfl rfl ?_
    refine z_aload_n C rfl 0 rfl dX5_next_64 ?_
    refine z_geti C zc_5 dX5_next_65 3 57 rfl (by decide) (by decide) q_344 rfl ?_
    obtain ⟨x9, ex9, h⟩ := zlt_e h
    refine z_eqi C ex9 ?_
    obtain ⟨hb10, h⟩ := zck_e h
    refine z_laload C dX5_next_68 rfl rfl (by decide) (zbd_in hb10) ?_
    obtain ⟨x12, hg11, h⟩ := zb1_e h
    refine z_callSN C dX5_next_69 yy_X11_leftmost (c_X11_leftmost C.2.2.2.2.1  (L 60 x9.toNatClampNeg) I8 L hg11) q_933 q_934 (by decide) (by decide) rfl rfl (Nat.le_of_ble_eq_true rfl) ⟨Nat.le_refl _, Nat.le_refl _, Nat.le_refl _, Nat.le_refl _⟩ ?_
    refine z_aload_n C rfl 0 rfl dX5_next_72 ?_
    refine z_geti C zc_5 dX5_next_73 3 57 rfl (by decide) (by decide) q_344 rfl ?_
    obtain ⟨I14, L15, hg13, h⟩ := zb2_e h
    refine z_callV C zc_5 rfl (by decide) dX5_next_76 yy_X5_take (c_X5_take C.2.2.2.2.1  x12 (I8 57 3) I8 L hg13) q_942 q_944 q_27 (by decide) (by decide) rfl rfl (Nat.le_of_ble_eq_true rfl) ⟨Nat.le_refl _, Nat.le_refl _, Nat.le_refl _, Nat.le_refl _⟩ ?_
    refine z_iconst C (v := 0) (by decide) dX5_next_79 ?_
    refine z_istore_n C (lv' := [(1, .int (0 : Int32)), (0, .ref (B0 + 57))]) rfl (by decide) rfl dX5_next_80 ?_
    refine z_lv [1, 0] (lv' := [(0, .ref (B0 + 57)), (1, .int (0 : Int32))]) rfl ?_
    exact L_X5_next_81 C  (0 : Int32) I14 L15 h
  · have h := zif_f hc h
    refine z_iconst C (v := 0) (by decide) dX5_next_57 ?_
    obtain rfl := Option.some.inj h
    exact z_iret C dX5_next_58 .boolean rfl rfl rfl
set_option maxHeartbeats 4000000 in
set_option maxRecDepth 100000 in
theorem l_X5_next_4 {r : Int32 × zI × zL} (C : zC p l e R s m args below meth c s0 a0 d cy B0 yX5_next.cls cX5_next 2 (some .boolean) bc bs bc bs 3 84 []) (k4 : zI → zL → Option (Int32 × zI × zL)) (hk4 : ∀ (I : zI) (L : zL), k4 I L = some r → zG p l e R s m args below meth c d cy B0 2 bc bs (zQ below s args d cy B0 bc bs (.inl (some (.int r.1))) zSH zKn bc bs r.2.1 r.2.2) 4 [(0, .ref (B0 + 57))] [] zSH zKn bc bs I L) (I : zI) (L : zL) (h : f_X5_next_4 k4 I L = some r) : zG p l e R s m args below meth c d cy B0 2 bc bs (zQ below s args d cy B0 bc bs (.inl (some (.int r.1))) zSH zKn bc bs r.2.1 r.2.2) 4 [(0, .ref (B0 + 57))] [] zSH zKn bc bs I L := by
  unfold f_X5_next_4 at h
  refine z_aload_n C rfl 0 rfl dX5_next_4 ?_
  refine z_geti C zc_5 dX5_next_5 3 57 rfl (by decide) (by decide) q_344 rfl ?_
  refine z_bipush C (v := 64) (by decide) dX5_next_8 ?_
  refine z_icmp_ge C 40 (by decide) dX5_next_10 (fun hc => ?_) (fun hc => ?_)
  · have h := zif_t hc h
    exact l_X5_next_40 C  I L h
  · have h := zif_f hc h
    refine z_aload_n C rfl 0 rfl dX5_next_13 ?_
    refine z_getr C zc_5 dX5_next_14 5 57 60 rfl (by decide) (by decide) q_348 rfl rfl ?_
    refine z_aload_n C rfl 0 rfl dX5_next_17 ?_
    refine z_geti C zc_5 dX5_next_18 3 57 rfl (by decide) (by decide) q_344 rfl ?_
    obtain ⟨x4, ex4, h⟩ := zlt_e h
    refine z_eqi C ex4 ?_
    obtain ⟨hb5, h⟩ := zck_e h
    refine z_laload C dX5_next_21 rfl rfl (by decide) (zbd_in hb5) ?_
    refine z_lconst C (v := 0) (by decide) dX5_next_22 ?_
    refine z_lif_ne C 40 (by decide) dX5_next_23 dX5_next_24 (fun hc => ?_) (fun hc => ?_)
    · have h := zif_f hc h
      exact l_X5_next_40 C  I L h
    · have h := zif_t hc h
      refine z_aload_n C rfl 0 rfl dX5_next_27 ?_
      refine z_dup C rfl dX5_next_28 ?_
      refine z_geti C zc_5 dX5_next_29 3 57 rfl (by decide) (by decide) q_344 rfl ?_
      refine z_iconst C (v := 1) (by decide) dX5_next_32 ?_
      refine z_iadd C dX5_next_33 ?_
      obtain ⟨x6, ex6, h⟩ := zlt_e h
      refine z_eqi C ex6 ?_
      refine z_puti C zc_5 dX5_next_34 3 57 rfl (by decide) (by decide) rfl q_344 rfl rfl rfl ?_
      obtain ⟨I7, eI7, h⟩ := zlt_e h
      refine z_eqI C eI7 ?_
      refine z_goto C 4 (by decide) dX5_next_37 ?_
      exact hk4 I7 L h
set_option maxHeartbeats 4000000 in
set_option maxRecDepth 100000 in
theorem L_X5_next_4 {r : Int32 × zI × zL} (C : zC p l e R s m args below meth c s0 a0 d cy B0 yX5_next.cls cX5_next 2 (some .boolean) bc bs bc bs 3 84 []) (I : zI) (L : zL) (h : zlp2 (f_X5_next_4) zF I L = some r) : zG p l e R s m args below meth c d cy B0 2 bc bs (zQ below s args d cy B0 bc bs (.inl (some (.int r.1))) zSH zKn bc bs r.2.1 r.2.2) 4 [(0, .ref (B0 + 57))] [] zSH zKn bc bs I L :=
 zlp2_e (fun (I : zI) (L : zL) => zG p l e R s m args below meth c d cy B0 2 bc bs (zQ below s args d cy B0 bc bs (.inl (some (.int r.1))) zSH zKn bc bs r.2.1 r.2.2) 4 [(0, .ref (B0 + 57))] [] zSH zKn bc bs I L) (fun k9 hk9 I L h => l_X5_next_4 C k9 hk9 I L h) zF I L h
set_option maxHeartbeats 4000000 in
set_option maxRecDepth 100000 in
theorem c_X5_next {r : Int32 × zI × zL} (hE : zE0 l s0 a0 d cy B0) (I : zI) (L : zL) (h : f_X5_next I L = some r) : zM l s0 d cy B0 yX5_next cX5_next 2 (some .boolean) 3 84 [.ref (B0 + 57)] zSH zKn bc bs I L (.inl (some (.int r.1))) zSH zKn bc bs r.2.1 r.2.2 := by
  refine z_meth yy_X5_next hE (Nat.le_of_ble_eq_true rfl) (fun p e R s m args below meth c C => ?_)
  show zG p l e R s m args below meth c d cy B0 2 bc bs (zQ below s args d cy B0 bc bs (.inl (some (.int r.1))) zSH zKn bc bs r.2.1 r.2.2) 0 [(0, .ref (B0 + 57))] [] zSH zKn bc bs I L
  unfold f_X5_next at h
  refine z_aload_n C rfl 0 rfl dX5_next_0 ?_
  obtain ⟨I2, L3, hg1, h⟩ := zb2_e h
  refine z_callV C zc_5 rfl (by decide) dX5_next_1 yy_X5_dropShape (c_X5_dropShape C.2.2.2.2.1  I L hg1) q_925 q_927 q_26 (by decide) (by decide) rfl rfl (Nat.le_of_ble_eq_true rfl) ⟨Nat.le_refl _, Nat.le_refl _, Nat.le_refl _, Nat.le_refl _⟩ ?_
  exact L_X5_next_4 C  I2 L3 h
theorem q_87 : (Cond.initialized "DeviceFind$Place") ∈ lw_tbl := List.mem_of_getElem? (i := 87) (by decide +kernel)
theorem q_345 : (Cond.fieldLink "DeviceFind$Place" (56 : Nat) "DeviceFind$Peeler" "low" "I") ∈ lw_tbl := List.mem_of_getElem? (i := 345) (by decide +kernel)
theorem q_405 : (Cond.fieldLink "DeviceFind$Place" (31 : Nat) "DeviceFind$Place" "peeler" "LDeviceFind$Peeler;") ∈ lw_tbl := List.mem_of_getElem? (i := 405) (by decide +kernel)
theorem q_1009 : (Cond.code ({ cls := "DeviceFind$Place", name := "lowest", desc := "()I" } : Jvm.MethodName) prog_8_method_10_code (1 : Nat) (Option.some Jvm.ClassFile.FieldType.int)) ∈ lw_tbl := List.mem_of_getElem? (i := 1009) (by decide +kernel)
theorem q_1010 : (Cond.methodLink "DeviceFind$Place" (112 : Nat) ({ cls := "java/lang/Math", name := "max", desc := "(II)I" } : Jvm.MethodName)) ∈ lw_tbl := List.mem_of_getElem? (i := 1010) (by decide +kernel)
theorem yy_X6_lowest : zY yX6_lowest cX6_lowest 1 (some .int) 0 := ⟨q_1009, q_87, by decide +kernel, by decide +kernel, by decide +kernel⟩
def f_X6_lowest (I : zI) : Option Int32 :=
  zlt ((I 57 3) - (1 : Int32)) (fun x1 => some (zmx (0 : Int32) x1))
set_option maxHeartbeats 4000000 in
set_option maxRecDepth 100000 in
theorem c_X6_lowest {r : Int32} (hE : zE0 l s0 a0 d cy B0) (I : zI) (L : zL) (h : f_X6_lowest I = some r) : zM l s0 d cy B0 yX6_lowest cX6_lowest 1 (some .int) 1 40 [.ref (B0 + 74)] zSH zKn bc bs I L (.inl (some (.int r))) zSH zKn bc bs I L := by
  refine z_meth yy_X6_lowest hE (Nat.le_of_ble_eq_true rfl) (fun p e R s m args below meth c C => ?_)
  show zG p l e R s m args below meth c d cy B0 1 bc bs (zQ below s args d cy B0 bc bs (.inl (some (.int r))) zSH zKn bc bs I L) 0 [(0, .ref (B0 + 74))] [] zSH zKn bc bs I L
  unfold f_X6_lowest at h
  refine z_iconst C (v := 0) (by decide) dX6_lowest_0 ?_
  refine z_aload_n C rfl 0 rfl dX6_lowest_1 ?_
  refine z_getr C zc_6 dX6_lowest_2 3 74 57 rfl (by decide) (by decide) q_405 rfl rfl ?_
  refine z_geti C zc_5 dX6_lowest_5 3 57 rfl (by decide) (by decide) q_345 rfl ?_
  refine z_iconst C (v := 1) (by decide) dX6_lowest_8 ?_
  refine z_isub C dX6_lowest_9 ?_
  obtain ⟨x1, ex1, h⟩ := zlt_e h
  refine z_eqi C ex1 ?_
  refine z_mmax C dX6_lowest_10 q_1010 q_116 q_76 q_117 (by decide) (Nat.le_of_ble_eq_true rfl) ⟨Nat.le_refl _, Nat.le_refl _⟩ ?_
  obtain rfl := Option.some.inj h
  exact z_iret C dX6_lowest_13 .int rfl rfl rfl
theorem q_113 : (Cond.static ({ cls := "java/lang/Math", name := "min", desc := "(II)I" } : Jvm.MethodName)) ∈ lw_tbl := List.mem_of_getElem? (i := 113) (by decide +kernel)
theorem q_114 : (Cond.code ({ cls := "java/lang/Math", name := "min", desc := "(II)I" } : Jvm.MethodName) prog_20_method_69_code (2 : Nat) (Option.some Jvm.ClassFile.FieldType.int)) ∈ lw_tbl := List.mem_of_getElem? (i := 114) (by decide +kernel)
theorem q_347 : (Cond.fieldLink "DeviceFind$Place" (61 : Nat) "DeviceFind$Peeler" "high" "I") ∈ lw_tbl := List.mem_of_getElem? (i := 347) (by decide +kernel)
theorem q_1014 : (Cond.code ({ cls := "DeviceFind$Place", name := "highest", desc := "()I" } : Jvm.MethodName) prog_8_method_11_code (1 : Nat) (Option.some Jvm.ClassFile.FieldType.int)) ∈ lw_tbl := List.mem_of_getElem? (i := 1014) (by decide +kernel)
theorem q_1015 : (Cond.methodLink "DeviceFind$Place" (117 : Nat) ({ cls := "java/lang/Math", name := "min", desc := "(II)I" } : Jvm.MethodName)) ∈ lw_tbl := List.mem_of_getElem? (i := 1015) (by decide +kernel)
theorem yy_X6_highest : zY yX6_highest cX6_highest 1 (some .int) 0 := ⟨q_1014, q_87, by decide +kernel, by decide +kernel, by decide +kernel⟩
def f_X6_highest (I : zI) : Option Int32 :=
  zlt ((I 57 4) + (1 : Int32)) (fun x1 => some (zmn (63 : Int32) x1))
set_option maxHeartbeats 4000000 in
set_option maxRecDepth 100000 in
theorem c_X6_highest {r : Int32} (hE : zE0 l s0 a0 d cy B0) (I : zI) (L : zL) (h : f_X6_highest I = some r) : zM l s0 d cy B0 yX6_highest cX6_highest 1 (some .int) 1 40 [.ref (B0 + 74)] zSH zKn bc bs I L (.inl (some (.int r))) zSH zKn bc bs I L := by
  refine z_meth yy_X6_highest hE (Nat.le_of_ble_eq_true rfl) (fun p e R s m args below meth c C => ?_)
  show zG p l e R s m args below meth c d cy B0 1 bc bs (zQ below s args d cy B0 bc bs (.inl (some (.int r))) zSH zKn bc bs I L) 0 [(0, .ref (B0 + 74))] [] zSH zKn bc bs I L
  unfold f_X6_highest at h
  refine z_bipush C (v := 63) (by decide) dX6_highest_0 ?_
  refine z_aload_n C rfl 0 rfl dX6_highest_2 ?_
  refine z_getr C zc_6 dX6_highest_3 3 74 57 rfl (by decide) (by decide) q_405 rfl rfl ?_
  refine z_geti C zc_5 dX6_highest_6 4 57 rfl (by decide) (by decide) q_347 rfl ?_
  refine z_iconst C (v := 1) (by decide) dX6_highest_9 ?_
  refine z_iadd C dX6_highest_10 ?_
  obtain ⟨x1, ex1, h⟩ := zlt_e h
  refine z_eqi C ex1 ?_
  refine z_mmin C dX6_highest_11 q_1015 q_113 q_76 q_114 (by decide) (Nat.le_of_ble_eq_true rfl) ⟨Nat.le_refl _, Nat.le_refl _⟩ ?_
  obtain rfl := Option.some.inj h
  exact z_iret C dX6_highest_14 .int rfl rfl rfl
theorem q_1018 : (Cond.code ({ cls := "DeviceFind", name := "rowAt", desc := "([JI)J" } : Jvm.MethodName) prog_1_method_27_code (2 : Nat) (Option.some Jvm.ClassFile.FieldType.long)) ∈ lw_tbl := List.mem_of_getElem? (i := 1018) (by decide +kernel)
theorem yy_X11_rowAt : zY yX11_rowAt cX11_rowAt 2 (some .long) 2 := ⟨q_1018, q_75, by decide +kernel, by decide +kernel, by decide +kernel⟩
def f_X11_rowAt_17 (r0 : Nat) (w0 : Int64) (L : zL) : Option Int64 :=
  some w0
def f_X11_rowAt_10 (r0 : Nat) (L : zL) : Option Int64 :=
  f_X11_rowAt_17 r0 (0 : Int64) L
def f_X11_rowAt (r0 : Nat) (a1 : Int32) (L : zL) : Option Int64 :=
  if a1 < 0 then (f_X11_rowAt_10 r0 L) else (if a1 < (64 : Int32) then (zck (zbd a1 64) (f_X11_rowAt_17 r0 (L r0 a1.toNatClampNeg) L)) else (f_X11_rowAt_10 r0 L))
set_option maxHeartbeats 4000000 in
set_option maxRecDepth 100000 in
theorem l_X11_rowAt_17 {r : Int64} (C : zC p l e R s m args below meth c s0 a0 d cy B0 yX11_rowAt.cls cX11_rowAt 2 (some .long) bc bs bc bs 0 0 []) {r0 : Nat} (hr0 : zar 15 64 r0) (I : zI) (w0 : Int64) (L : zL) (h : f_X11_rowAt_17 r0 w0 L = some r) : zG p l e R s m args below meth c d cy B0 2 bc bs (zQ below s args d cy B0 bc bs (.inl (some (.long r))) zSH zKn bc bs I L) 17 [] [.long w0] zSH zKn bc bs I L := by
  unfold f_X11_rowAt_17 at h
  obtain rfl := Option.some.inj h
  exact z_lret C dX11_rowAt_17 rfl rfl
set_option maxHeartbeats 4000000 in
set_option maxRecDepth 100000 in
theorem l_X11_rowAt_10 {r : Int64} (C : zC p l e R s m args below meth c s0 a0 d cy B0 yX11_rowAt.cls cX11_rowAt 2 (some .long) bc bs bc bs 0 0 []) {r0 : Nat} (hr0 : zar 15 64 r0) (I : zI) (L : zL) (h : f_X11_rowAt_10 r0 L = some r) : zG p l e R s m args below meth c d cy B0 2 bc bs (zQ below s args d cy B0 bc bs (.inl (some (.long r))) zSH zKn bc bs I L) 10 [] [] zSH zKn bc bs I L := by
  unfold f_X11_rowAt_10 at h
  refine z_lconst C (v := 0) (by decide) dX11_rowAt_10 ?_
  refine z_goto C 17 (by decide) dX11_rowAt_11 ?_
  exact l_X11_rowAt_17 C hr0 I (0 : Int64) L h
set_option maxHeartbeats 4000000 in
set_option maxRecDepth 100000 in
theorem c_X11_rowAt {r : Int64} (hE : zE0 l s0 a0 d cy B0) {r0 : Nat} (hr0 : zar 15 64 r0) (a1 : Int32) (I : zI) (L : zL) (h : f_X11_rowAt r0 a1 L = some r) : zM l s0 d cy B0 yX11_rowAt cX11_rowAt 2 (some .long) 0 0 [.ref (B0 + r0), .int a1] zSH zKn bc bs I L (.inl (some (.long r))) zSH zKn bc bs I L := by
  refine z_meth yy_X11_rowAt hE (Nat.le_of_ble_eq_true rfl) (fun p e R s m args below meth c C => ?_)
  show zG p l e R s m args below meth c d cy B0 2 bc bs (zQ below s args d cy B0 bc bs (.inl (some (.long r))) zSH zKn bc bs I L) 0 [(0, .ref (B0 + r0)), (1, .int a1)] [] zSH zKn bc bs I L
  unfold f_X11_rowAt at h
  refine z_iload_n C rfl 1 rfl dX11_rowAt_0 ?_
  refine z_if_lt C 10 (by decide) dX11_rowAt_1 (fun hc => ?_) (fun hc => ?_)
  · have h := zif_t hc h
    refine z_lv [] (lv' := []) rfl ?_
    exact l_X11_rowAt_10 C hr0 I L h
  · have h := zif_f hc h
    refine z_iload_n C rfl 1 rfl dX11_rowAt_4 ?_
    refine z_bipush C (v := 64) (by decide) dX11_rowAt_5 ?_
    refine z_icmp_lt C 14 (by decide) dX11_rowAt_7 (fun hc => ?_) (fun hc => ?_)
    · have h := zif_t hc h
      refine z_aload_n C rfl 0 rfl dX11_rowAt_14 ?_
      refine z_iload_n C rfl 1 rfl dX11_rowAt_15 ?_
      obtain ⟨hb1, h⟩ := zck_e h
      refine z_laload C dX11_rowAt_16 hr0.1 hr0.2.1 hr0.2.2 (zbd_in hb1) ?_
      refine z_lv [] (lv' := []) rfl ?_
      exact l_X11_rowAt_17 C hr0 I (L r0 a1.toNatClampNeg) L h
    · have h := zif_f hc h
      refine z_lv [] (lv' := []) rfl ?_
      exact l_X11_rowAt_10 C hr0 I L h
theorem q_35 : Cond.selects "DeviceFind$Place" ⟨"DeviceFind$Place", "lowest", "()I"⟩ ⟨"DeviceFind$Place", "lowest", "()I"⟩ ∈ lw_tbl := List.mem_of_getElem? (i := 35) (by decide +kernel)
theorem q_36 : Cond.selects "DeviceFind$Place" ⟨"DeviceFind$Place", "highest", "()I"⟩ ⟨"DeviceFind$Place", "highest", "()I"⟩ ∈ lw_tbl := List.mem_of_getElem? (i := 36) (by decide +kernel)
theorem q_337 : (Cond.fieldLink "DeviceFind$Place" (64 : Nat) "DeviceFind$Peeler" "rows" "[J") ∈ lw_tbl := List.mem_of_getElem? (i := 337) (by decide +kernel)
theorem q_406 : (Cond.fieldLink "DeviceFind$Place" (15 : Nat) "DeviceFind$Place" "halo" "[J") ∈ lw_tbl := List.mem_of_getElem? (i := 406) (by decide +kernel)
theorem q_1005 : (Cond.code ({ cls := "DeviceFind$Place", name := "layHalo", desc := "()V" } : Jvm.MethodName) prog_8_method_7_code (4 : Nat) (Option.none : Option Jvm.ClassFile.FieldType)) ∈ lw_tbl := List.mem_of_getElem? (i := 1005) (by decide +kernel)
theorem q_1006 : (Cond.methodLink "DeviceFind$Place" (79 : Nat) ({ cls := "DeviceFind$Place", name := "lowest", desc := "()I" } : Jvm.MethodName)) ∈ lw_tbl := List.mem_of_getElem? (i := 1006) (by decide +kernel)
theorem q_1008 : (Cond.instanceMethod ({ cls := "DeviceFind$Place", name := "lowest", desc := "()I" } : Jvm.MethodName)) ∈ lw_tbl := List.mem_of_getElem? (i := 1008) (by decide +kernel)
theorem q_1011 : (Cond.methodLink "DeviceFind$Place" (83 : Nat) ({ cls := "DeviceFind$Place", name := "highest", desc := "()I" } : Jvm.MethodName)) ∈ lw_tbl := List.mem_of_getElem? (i := 1011) (by decide +kernel)
theorem q_1013 : (Cond.instanceMethod ({ cls := "DeviceFind$Place", name := "highest", desc := "()I" } : Jvm.MethodName)) ∈ lw_tbl := List.mem_of_getElem? (i := 1013) (by decide +kernel)
theorem q_1016 : (Cond.methodLinkNest "DeviceFind$Place" (75 : Nat) ({ cls := "DeviceFind", name := "rowAt", desc := "([JI)J" } : Jvm.MethodName) "DeviceFind") ∈ lw_tbl := List.mem_of_getElem? (i := 1016) (by decide +kernel)
theorem q_1017 : (Cond.static ({ cls := "DeviceFind", name := "rowAt", desc := "([JI)J" } : Jvm.MethodName)) ∈ lw_tbl := List.mem_of_getElem? (i := 1017) (by decide +kernel)
theorem yy_X6_layHalo : zY yX6_layHalo cX6_layHalo 4 none 0 := ⟨q_1005, q_87, by decide +kernel, by decide +kernel, by decide +kernel⟩
def f_X6_layHalo_5 (k5 : Int32 → zI → zL → Option zL) (v1 : Int32) (I : zI) (L : zL) : Option zL :=
  zb1 (f_X6_highest I) (fun x4 => if x4 < v1 then (some L) else (zck (zbd v1 64) (zlt (L 58 v1.toNatClampNeg) (fun x6 => zlt (x6 <<< ((1 : Int32).toInt64 &&& 63)) (fun x7 => zlt ((x6.toUInt64 >>> ((1 : Int32).toInt64.toUInt64 &&& Int64.toUInt64 63)).toInt64) (fun x8 => zlt ((x6 ||| x7) ||| x8) (fun x9 => zb1 (f_X11_rowAt 58 (v1 - (1 : Int32)) L) (fun x11 => zb1 (f_X11_rowAt 58 (v1 + (1 : Int32)) L) (fun x13 => zlt ((x9 ||| x11) ||| x13) (fun x14 => zck (zbd v1 64) (zlt (zul L 76 v1.toNatClampNeg x14) (fun L16 => zlt (v1 + 1) (fun x17 => k5 x17 I L16)))))))))))))
def f_X6_layHalo (I : zI) (L : zL) : Option zL :=
  zb1 (f_X6_lowest I) (fun x2 => zlp3 (f_X6_layHalo_5) zF x2 I L)
set_option maxHeartbeats 4000000 in
set_option maxRecDepth 100000 in
theorem l_X6_layHalo_5 {r : zL} (C : zC p l e R s m args below meth c s0 a0 d cy B0 yX6_layHalo.cls cX6_layHalo 4 none bc bs bc bs 2 60 []) (k5 : Int32 → zI → zL → Option zL) (hk5 : ∀ (v1 : Int32) (I : zI) (L : zL), k5 v1 I L = some r → zG p l e R s m args below meth c d cy B0 4 bc bs (zQ below s args d cy B0 bc bs (.inl none) zSH zKn bc bs I r) 5 [(0, .ref (B0 + 74)), (1, .int v1)] [] zSH zKn bc bs I L) (v1 : Int32) (I : zI) (L : zL) (h : f_X6_layHalo_5 k5 v1 I L = some r) : zG p l e R s m args below meth c d cy B0 4 bc bs (zQ below s args d cy B0 bc bs (.inl none) zSH zKn bc bs I r) 5 [(0, .ref (B0 + 74)), (1, .int v1)] [] zSH zKn bc bs I L := by
  unfold f_X6_layHalo_5 at h
  refine z_iload_n C rfl 1 rfl dX6_layHalo_5 ?_
  refine z_aload_n C rfl 0 rfl dX6_layHalo_6 ?_
  obtain ⟨x4, hg3, h⟩ := zb1_e h
  refine z_callV C zc_6 rfl (by decide) dX6_layHalo_7 yy_X6_highest (c_X6_highest C.2.2.2.2.1  I L hg3) q_1011 q_1013 q_36 (by decide) (by decide) rfl rfl (Nat.le_of_ble_eq_true rfl) ⟨Nat.le_refl _, Nat.le_refl _, Nat.le_refl _, Nat.le_refl _⟩ ?_
  refine z_icmp_gt C 72 (by decide) dX6_layHalo_10 (fun hc => ?_) (fun hc => ?_)
  · have h := zif_t hc h
    obtain rfl := Option.some.inj h
    exact z_vret C dX6_layHalo_72 rfl rfl
  · have h := zif_f hc h
    refine z_aload_n C rfl 0 rfl dX6_layHalo_13 ?_
    refine z_getr C zc_6 dX6_layHalo_14 3 74 57 rfl (by decide) (by decide) q_405 rfl rfl ?_
    refine z_getr C zc_5 dX6_layHalo_17 0 57 58 rfl (by decide) (by decide) q_337 rfl rfl ?_
    refine z_iload_n C rfl 1 rfl dX6_layHalo_20 ?_
    obtain ⟨hb5, h⟩ := zck_e h
    refine z_laload C dX6_layHalo_21 rfl rfl (by decide) (zbd_in hb5) ?_
    obtain ⟨x6, ex6, h⟩ := zlt_e h
    refine z_eql C ex6 ?_
    refine z_lstore_n C (lv' := [(2, .long x6), (0, .ref (B0 + 74)), (1, .int v1)]) rfl (by decide) rfl dX6_layHalo_22 ?_
    refine z_aload_n C rfl 1 rfl dX6_layHalo_23 ?_
    refine z_getr C zc_6 dX6_layHalo_24 4 74 76 rfl (by decide) (by decide) q_406 rfl rfl ?_
    refine z_iload_n C rfl 2 rfl dX6_layHalo_27 ?_
    refine z_lload_n C rfl 0 rfl dX6_layHalo_28 ?_
    refine z_lload_n C rfl 0 rfl dX6_layHalo_29 ?_
    refine z_iconst C (v := 1) (by decide) dX6_layHalo_30 ?_
    refine z_lshl C dX6_layHalo_31 ?_
    obtain ⟨x7, ex7, h⟩ := zlt_e h
    refine z_eql C ex7 ?_
    refine z_lor C dX6_layHalo_32 ?_
    refine z_lload_n C rfl 0 rfl dX6_layHalo_33 ?_
    refine z_iconst C (v := 1) (by decide) dX6_layHalo_34 ?_
    refine z_lushr C dX6_layHalo_35 ?_
    obtain ⟨x8, ex8, h⟩ := zlt_e h
    refine z_eql C ex8 ?_
    refine z_lor C dX6_layHalo_36 ?_
    obtain ⟨x9, ex9, h⟩ := zlt_e h
    refine z_eql C ex9 ?_
    refine z_aload_n C rfl 1 rfl dX6_layHalo_37 ?_
    refine z_getr C zc_6 dX6_layHalo_38 3 74 57 rfl (by decide) (by decide) q_405 rfl rfl ?_
    refine z_getr C zc_5 dX6_layHalo_41 0 57 58 rfl (by decide) (by decide) q_337 rfl rfl ?_
    refine z_iload_n C rfl 2 rfl dX6_layHalo_44 ?_
    refine z_iconst C (v := 1) (by decide) dX6_layHalo_45 ?_
    refine z_isub C dX6_layHalo_46 ?_
    obtain ⟨x11, hg10, h⟩ := zb1_e h
    refine z_callSN C dX6_layHalo_47 yy_X11_rowAt (c_X11_rowAt C.2.2.2.2.1 ⟨rfl, rfl, by decide⟩ (v1 - (1 : Int32)) I L hg10) q_1016 q_1017 (by decide) (by decide) rfl rfl (Nat.le_of_ble_eq_true rfl) ⟨Nat.le_refl _, Nat.le_refl _, Nat.le_refl _, Nat.le_refl _⟩ ?_
    refine z_lor C dX6_layHalo_50 ?_
    refine z_aload_n C rfl 1 rfl dX6_layHalo_51 ?_
    refine z_getr C zc_6 dX6_layHalo_52 3 74 57 rfl (by decide) (by decide) q_405 rfl rfl ?_
    refine z_getr C zc_5 dX6_layHalo_55 0 57 58 rfl (by decide) (by decide) q_337 rfl rfl ?_
    refine z_iload_n C rfl 2 rfl dX6_layHalo_58 ?_
    refine z_iconst C (v := 1) (by decide) dX6_layHalo_59 ?_
    refine z_iadd C dX6_layHalo_60 ?_
    obtain ⟨x13, hg12, h⟩ := zb1_e h
    refine z_callSN C dX6_layHalo_61 yy_X11_rowAt (c_X11_rowAt C.2.2.2.2.1 ⟨rfl, rfl, by decide⟩ (v1 + (1 : Int32)) I L hg12) q_1016 q_1017 (by decide) (by decide) rfl rfl (Nat.le_of_ble_eq_true rfl) ⟨Nat.le_refl _, Nat.le_refl _, Nat.le_refl _, Nat.le_refl _⟩ ?_
    refine z_lor C dX6_layHalo_64 ?_
    obtain ⟨x14, ex14, h⟩ := zlt_e h
    refine z_eql C ex14 ?_
    obtain ⟨hb15, h⟩ := zck_e h
    refine z_lastore C dX6_layHalo_65 rfl rfl (by decide) (zbd_in hb15) ?_
    obtain ⟨L16, eL16, h⟩ := zlt_e h
    refine z_eqL C eL16 ?_
    obtain ⟨x17, ex17, h⟩ := zlt_e h
    refine z_iinc C (j := 2) (v := x17) (lv' := [(1, .int x17), (2, .long x6), (0, .ref (B0 + 74))]) rfl (by rw [ex17]; rfl) (by decide) rfl dX6_layHalo_66 ?_
    refine z_goto C 5 (by decide) dX6_layHalo_69 ?_
    refine z_lv [2, 0] (lv' := [(0, .ref (B0 + 74)), (1, .int x17)]) rfl ?_
    exact hk5 x17 I L16 h
set_option maxHeartbeats 4000000 in
set_option maxRecDepth 100000 in
theorem L_X6_layHalo_5 {r : zL} (C : zC p l e R s m args below meth c s0 a0 d cy B0 yX6_layHalo.cls cX6_layHalo 4 none bc bs bc bs 2 60 []) (v1 : Int32) (I : zI) (L : zL) (h : zlp3 (f_X6_layHalo_5) zF v1 I L = some r) : zG p l e R s m args below meth c d cy B0 4 bc bs (zQ below s args d cy B0 bc bs (.inl none) zSH zKn bc bs I r) 5 [(0, .ref (B0 + 74)), (1, .int v1)] [] zSH zKn bc bs I L :=
 zlp3_e (fun (v1 : Int32) (I : zI) (L : zL) => zG p l e R s m args below meth c d cy B0 4 bc bs (zQ below s args d cy B0 bc bs (.inl none) zSH zKn bc bs I r) 5 [(0, .ref (B0 + 74)), (1, .int v1)] [] zSH zKn bc bs I L) (fun k9 hk9 v1 I L h => l_X6_layHalo_5 C k9 hk9 v1 I L h) zF v1 I L h
set_option maxHeartbeats 4000000 in
set_option maxRecDepth 100000 in
theorem c_X6_layHalo {r : zL} (hE : zE0 l s0 a0 d cy B0) (I : zI) (L : zL) (h : f_X6_layHalo I L = some r) : zM l s0 d cy B0 yX6_layHalo cX6_layHalo 4 none 2 60 [.ref (B0 + 74)] zSH zKn bc bs I L (.inl none) zSH zKn bc bs I r := by
  refine z_meth yy_X6_layHalo hE (Nat.le_of_ble_eq_true rfl) (fun p e R s m args below meth c C => ?_)
  show zG p l e R s m args below meth c d cy B0 4 bc bs (zQ below s args d cy B0 bc bs (.inl none) zSH zKn bc bs I r) 0 [(0, .ref (B0 + 74))] [] zSH zKn bc bs I L
  unfold f_X6_layHalo at h
  refine z_aload_n C rfl 0 rfl dX6_layHalo_0 ?_
  obtain ⟨x2, hg1, h⟩ := zb1_e h
  refine z_callV C zc_6 rfl (by decide) dX6_layHalo_1 yy_X6_lowest (c_X6_lowest C.2.2.2.2.1  I L hg1) q_1006 q_1008 q_35 (by decide) (by decide) rfl rfl (Nat.le_of_ble_eq_true rfl) ⟨Nat.le_refl _, Nat.le_refl _, Nat.le_refl _, Nat.le_refl _⟩ ?_
  refine z_istore_n C (lv' := [(1, .int x2), (0, .ref (B0 + 74))]) rfl (by decide) rfl dX6_layHalo_4 ?_
  refine z_lv [1, 0] (lv' := [(0, .ref (B0 + 74)), (1, .int x2)]) rfl ?_
  exact L_X6_layHalo_5 C  x2 I L h
theorem q_402 : (Cond.fieldLink "DeviceFind$Place" (9 : Nat) "DeviceFind$Place" "pinNodes" "[I") ∈ lw_tbl := List.mem_of_getElem? (i := 402) (by decide +kernel)
theorem q_407 : (Cond.fieldLink "DeviceFind$Place" (19 : Nat) "DeviceFind$Place" "pins" "I") ∈ lw_tbl := List.mem_of_getElem? (i := 407) (by decide +kernel)
theorem q_1029 : (Cond.code ({ cls := "DeviceFind$Place", name := "isFree", desc := "(I)Z" } : Jvm.MethodName) prog_8_method_9_code (3 : Nat) (Option.some Jvm.ClassFile.FieldType.boolean)) ∈ lw_tbl := List.mem_of_getElem? (i := 1029) (by decide +kernel)
theorem yy_X6_isFree : zY yX6_isFree cX6_isFree 3 (some .boolean) 1 := ⟨q_1029, q_87, by decide +kernel, by decide +kernel, by decide +kernel⟩
def f_X6_isFree_2 (k2 : Int32 → Int32 → zI → Option Int32) (v1 : Int32) (v2 : Int32) (I : zI) : Option Int32 :=
  if (I 74 5) ≤ v2 then (some (1 : Int32)) else (zck (zbd v2 4) (if (I 75 v2.toNatClampNeg) = v1 then (some (0 : Int32)) else (zlt (v2 + 1) (fun x2 => k2 v1 x2 I))))
def f_X6_isFree (a1 : Int32) (I : zI) : Option Int32 :=
  zlp3 (f_X6_isFree_2) zF a1 (0 : Int32) I
set_option maxHeartbeats 4000000 in
set_option maxRecDepth 100000 in
theorem l_X6_isFree_2 {r : Int32} (C : zC p l e R s m args below meth c s0 a0 d cy B0 yX6_isFree.cls cX6_isFree 3 (some .boolean) bc bs bc bs 0 0 []) (L : zL) (k2 : Int32 → Int32 → zI → Option Int32) (hk2 : ∀ (v1 : Int32) (v2 : Int32) (I : zI), k2 v1 v2 I = some r → zG p l e R s m args below meth c d cy B0 3 bc bs (zQ below s args d cy B0 bc bs (.inl (some (.int r))) zSH zKn bc bs I L) 2 [(0, .ref (B0 + 74)), (1, .int v1), (2, .int v2)] [] zSH zKn bc bs I L) (v1 : Int32) (v2 : Int32) (I : zI) (h : f_X6_isFree_2 k2 v1 v2 I = some r) : zG p l e R s m args below meth c d cy B0 3 bc bs (zQ below s args d cy B0 bc bs (.inl (some (.int r))) zSH zKn bc bs I L) 2 [(0, .ref (B0 + 74)), (1, .int v1), (2, .int v2)] [] zSH zKn bc bs I L := by
  unfold f_X6_isFree_2 at h
  refine z_iload_n C rfl 2 rfl dX6_isFree_2 ?_
  refine z_aload_n C rfl 0 rfl dX6_isFree_3 ?_
  refine z_geti C zc_6 dX6_isFree_4 5 74 rfl (by decide) (by decide) q_407 rfl ?_
  refine z_icmp_ge C 28 (by decide) dX6_isFree_7 (fun hc => ?_) (fun hc => ?_)
  · have h := zif_t hc h
    refine z_iconst C (v := 1) (by decide) dX6_isFree_28 ?_
    obtain rfl := Option.some.inj h
    exact z_iret C dX6_isFree_29 .boolean rfl rfl rfl
  · have h := zif_f hc h
    refine z_aload_n C rfl 0 rfl dX6_isFree_10 ?_
    refine z_getr C zc_6 dX6_isFree_11 0 74 75 rfl (by decide) (by decide) q_402 rfl rfl ?_
    refine z_iload_n C rfl 2 rfl dX6_isFree_14 ?_
    obtain ⟨hb1, h⟩ := zck_e h
    refine z_iaload C dX6_isFree_15 rfl rfl (by decide) (zbd_in hb1) ?_
    refine z_iload_n C rfl 1 rfl dX6_isFree_16 ?_
    refine z_icmp_ne C 22 (by decide) dX6_isFree_17 (fun hc => ?_) (fun hc => ?_)
    · have h := zif_f hc h
      obtain ⟨x2, ex2, h⟩ := zlt_e h
      refine z_iinc C (j := 2) (v := x2) (lv' := [(2, .int x2), (0, .ref (B0 + 74)), (1, .int v1)]) rfl (by rw [ex2]; rfl) (by decide) rfl dX6_isFree_22 ?_
      refine z_goto C 2 (by decide) dX6_isFree_25 ?_
      refine z_lv [1, 2, 0] (lv' := [(0, .ref (B0 + 74)), (1, .int v1), (2, .int x2)]) rfl ?_
      exact hk2 v1 x2 I h
    · have h := zif_t hc h
      refine z_iconst C (v := 0) (by decide) dX6_isFree_20 ?_
      obtain rfl := Option.some.inj h
      exact z_iret C dX6_isFree_21 .boolean rfl rfl rfl
set_option maxHeartbeats 4000000 in
set_option maxRecDepth 100000 in
theorem L_X6_isFree_2 {r : Int32} (C : zC p l e R s m args below meth c s0 a0 d cy B0 yX6_isFree.cls cX6_isFree 3 (some .boolean) bc bs bc bs 0 0 []) (L : zL) (v1 : Int32) (v2 : Int32) (I : zI) (h : zlp3 (f_X6_isFree_2) zF v1 v2 I = some r) : zG p l e R s m args below meth c d cy B0 3 bc bs (zQ below s args d cy B0 bc bs (.inl (some (.int r))) zSH zKn bc bs I L) 2 [(0, .ref (B0 + 74)), (1, .int v1), (2, .int v2)] [] zSH zKn bc bs I L :=
 zlp3_e (fun (v1 : Int32) (v2 : Int32) (I : zI) => zG p l e R s m args below meth c d cy B0 3 bc bs (zQ below s args d cy B0 bc bs (.inl (some (.int r))) zSH zKn bc bs I L) 2 [(0, .ref (B0 + 74)), (1, .int v1), (2, .int v2)] [] zSH zKn bc bs I L) (fun k9 hk9 v1 v2 I h => l_X6_isFree_2 C L k9 hk9 v1 v2 I h) zF v1 v2 I h
set_option maxHeartbeats 4000000 in
set_option maxRecDepth 100000 in
theorem c_X6_isFree {r : Int32} (hE : zE0 l s0 a0 d cy B0) (a1 : Int32) (I : zI) (L : zL) (h : f_X6_isFree a1 I = some r) : zM l s0 d cy B0 yX6_isFree cX6_isFree 3 (some .boolean) 0 0 [.ref (B0 + 74), .int a1] zSH zKn bc bs I L (.inl (some (.int r))) zSH zKn bc bs I L := by
  refine z_meth yy_X6_isFree hE (Nat.le_of_ble_eq_true rfl) (fun p e R s m args below meth c C => ?_)
  show zG p l e R s m args below meth c d cy B0 3 bc bs (zQ below s args d cy B0 bc bs (.inl (some (.int r))) zSH zKn bc bs I L) 0 [(0, .ref (B0 + 74)), (1, .int a1)] [] zSH zKn bc bs I L
  unfold f_X6_isFree at h
  refine z_iconst C (v := 0) (by decide) dX6_isFree_0 ?_
  refine z_istore_n C (lv' := [(2, .int (0 : Int32)), (0, .ref (B0 + 74)), (1, .int a1)]) rfl (by decide) rfl dX6_isFree_1 ?_
  refine z_lv [1, 2, 0] (lv' := [(0, .ref (B0 + 74)), (1, .int a1), (2, .int (0 : Int32))]) rfl ?_
  exact L_X6_isFree_2 C L a1 (0 : Int32) I h
theorem q_38 : Cond.selects "DeviceFind$Place" ⟨"DeviceFind$Place", "isFree", "(I)Z"⟩ ⟨"DeviceFind$Place", "isFree", "(I)Z"⟩ ∈ lw_tbl := List.mem_of_getElem? (i := 38) (by decide +kernel)
theorem q_179 : (Cond.fieldLink "DeviceFind$Place" (91 : Nat) "DeviceFind$Plan" "wireLayers" "[I") ∈ lw_tbl := List.mem_of_getElem? (i := 179) (by decide +kernel)
theorem q_326 : (Cond.fieldLink "DeviceFind$Place" (86 : Nat) "DeviceFind$Layers" "rows" "[[J") ∈ lw_tbl := List.mem_of_getElem? (i := 326) (by decide +kernel)
theorem q_371 : (Cond.fieldLink "DeviceFind$Place" (97 : Nat) "DeviceFind$Nets" "nodeAt" "[[I") ∈ lw_tbl := List.mem_of_getElem? (i := 371) (by decide +kernel)
theorem q_403 : (Cond.fieldLink "DeviceFind$Place" (23 : Nat) "DeviceFind$Place" "layers" "LDeviceFind$Layers;") ∈ lw_tbl := List.mem_of_getElem? (i := 403) (by decide +kernel)
theorem q_404 : (Cond.fieldLink "DeviceFind$Place" (27 : Nat) "DeviceFind$Place" "nets" "LDeviceFind$Nets;") ∈ lw_tbl := List.mem_of_getElem? (i := 404) (by decide +kernel)
theorem q_1022 : (Cond.code ({ cls := "DeviceFind$Place", name := "firstFree", desc := "(LDeviceFind$Plan;I)I" } : Jvm.MethodName) prog_8_method_8_code (9 : Nat) (Option.some Jvm.ClassFile.FieldType.int)) ∈ lw_tbl := List.mem_of_getElem? (i := 1022) (by decide +kernel)
theorem q_1023 : (Cond.methodLink "DeviceFind$Place" (69 : Nat) ({ cls := "java/lang/Long", name := "bitCount", desc := "(J)I" } : Jvm.MethodName)) ∈ lw_tbl := List.mem_of_getElem? (i := 1023) (by decide +kernel)
theorem q_1024 : (Cond.methodLinkNest "DeviceFind$Place" (94 : Nat) ({ cls := "DeviceFind", name := "leftmost", desc := "(J)I" } : Jvm.MethodName) "DeviceFind") ∈ lw_tbl := List.mem_of_getElem? (i := 1024) (by decide +kernel)
theorem q_1025 : (Cond.methodLinkNest "DeviceFind$Place" (101 : Nat) ({ cls := "DeviceFind", name := "squareAt", desc := "(II)I" } : Jvm.MethodName) "DeviceFind") ∈ lw_tbl := List.mem_of_getElem? (i := 1025) (by decide +kernel)
theorem q_1026 : (Cond.methodLink "DeviceFind$Place" (108 : Nat) ({ cls := "DeviceFind$Place", name := "isFree", desc := "(I)Z" } : Jvm.MethodName)) ∈ lw_tbl := List.mem_of_getElem? (i := 1026) (by decide +kernel)
theorem q_1028 : (Cond.instanceMethod ({ cls := "DeviceFind$Place", name := "isFree", desc := "(I)Z" } : Jvm.MethodName)) ∈ lw_tbl := List.mem_of_getElem? (i := 1028) (by decide +kernel)
theorem yy_X6_firstFree : zY yX6_firstFree cX6_firstFree 9 (some .int) 2 := ⟨q_1022, q_87, by decide +kernel, by decide +kernel, by decide +kernel⟩
def f_X6_firstFree_110 (k8 : Int32 → Int32 → Int32 → zI → zL → Option Int32) (k51 : Int32 → Int32 → Int32 → Int64 → Int32 → zI → zL → Option Int32) (P : Nat) (v2 : Int32) (v3 : Int32) (v4 : Int32) (v5 : Int64) (v7 : Int32) (I : zI) (L : zL) : Option Int32 :=
  zlt (v7 + (-1)) (fun x24 => k51 v2 v3 v4 v5 x24 I L)
def f_X6_firstFree_98 (k8 : Int32 → Int32 → Int32 → zI → zL → Option Int32) (k51 : Int32 → Int32 → Int32 → Int64 → Int32 → zI → zL → Option Int32) (P : Nat) (v2 : Int32) (v3 : Int32) (v4 : Int32) (v5 : Int64) (v7 : Int32) (v8 : Int32) (I : zI) (L : zL) : Option Int32 :=
  zb1 (f_X6_isFree v8 I) (fun x23 => if x23 = 0 then (f_X6_firstFree_110 k8 k51 P v2 v3 v4 v5 v7 I L) else (f_X6_firstFree_110 k8 k51 P v2 v8 v4 v5 v7 I L))
def f_X6_firstFree_51 (k8 : Int32 → Int32 → Int32 → zI → zL → Option Int32) (P : Nat) (k51 : Int32 → Int32 → Int32 → Int64 → Int32 → zI → zL → Option Int32) (v2 : Int32) (v3 : Int32) (v4 : Int32) (v5 : Int64) (v7 : Int32) (I : zI) (L : zL) : Option Int32 :=
  if v7 ≤ 0 then (zlt (v4 + 1) (fun x13 => k8 v2 v3 x13 I L)) else (zck (zbd v2 8) (zb1 (f_X11_leftmost v5) (fun x16 => zb1 (f_X11_squareAt x16 v4) (fun x18 => zck (zbd x18 4096) (zlt (I ((63 + v2.toNatClampNeg)) x18.toNatClampNeg) (fun x20 => zlt (v5 &&& (v5 - (1 : Int64))) (fun x21 => if v3 = (-1 : Int32) then (f_X6_firstFree_98 k8 k51 P v2 v3 v4 x21 v7 x20 I L) else (if v3 ≤ x20 then (f_X6_firstFree_110 k8 k51 P v2 v3 v4 x21 v7 I L) else (f_X6_firstFree_98 k8 k51 P v2 v3 v4 x21 v7 x20 I L)))))))))
def f_X6_firstFree_8 (P : Nat) (k8 : Int32 → Int32 → Int32 → zI → zL → Option Int32) (v2 : Int32) (v3 : Int32) (v4 : Int32) (I : zI) (L : zL) : Option Int32 :=
  zb1 (f_X6_highest I) (fun x4 => if x4 < v4 then (some v3) else (zck (zbd v4 64) (zck (zbd v2 8) (zlt (I ((P + 1 + 4)) v2.toNatClampNeg) (fun x7 => zck (zbd x7 24) (zck (zbd v4 64) (zlt ((L 76 v4.toNatClampNeg) &&& (L ((33 + x7.toNatClampNeg)) v4.toNatClampNeg)) (fun x10 => zb1 (f_J13_bitCount_95d88 x10) (fun x12 => zlp7 (f_X6_firstFree_51 k8 P) zF v2 v3 v4 x10 x12 I L)))))))))
def f_X6_firstFree (P : Nat) (a2 : Int32) (I : zI) (L : zL) : Option Int32 :=
  zb1 (f_X6_lowest I) (fun x2 => zlp5 (f_X6_firstFree_8 P) zF a2 (-1 : Int32) x2 I L)
set_option maxHeartbeats 4000000 in
set_option maxRecDepth 100000 in
theorem l_X6_firstFree_110 {r : Int32} (C : zC p l e R s m args below meth c s0 a0 d cy B0 yX6_firstFree.cls cX6_firstFree 9 (some .int) bc bs bc bs 2 60 []) {P : Nat} (hP : zpl P) (k8 : Int32 → Int32 → Int32 → zI → zL → Option Int32) (hk8 : ∀ (v2 : Int32) (v3 : Int32) (v4 : Int32) (I : zI) (L : zL), k8 v2 v3 v4 I L = some r → zG p l e R s m args below meth c d cy B0 9 bc bs (zQ below s args d cy B0 bc bs (.inl (some (.int r))) zSH zKn bc bs I L) 8 [(0, .ref (B0 + 74)), (1, .ref (B0 + P)), (2, .int v2), (3, .int v3), (4, .int v4)] [] zSH zKn bc bs I L) (k51 : Int32 → Int32 → Int32 → Int64 → Int32 → zI → zL → Option Int32) (hk51 : ∀ (v2 : Int32) (v3 : Int32) (v4 : Int32) (v5 : Int64) (v7 : Int32) (I : zI) (L : zL), k51 v2 v3 v4 v5 v7 I L = some r → zG p l e R s m args below meth c d cy B0 9 bc bs (zQ below s args d cy B0 bc bs (.inl (some (.int r))) zSH zKn bc bs I L) 51 [(0, .ref (B0 + 74)), (1, .ref (B0 + P)), (2, .int v2), (3, .int v3), (4, .int v4), (5, .long v5), (7, .int v7)] [] zSH zKn bc bs I L) (v2 : Int32) (v3 : Int32) (v4 : Int32) (v5 : Int64) (v7 : Int32) (I : zI) (L : zL) (h : f_X6_firstFree_110 k8 k51 P v2 v3 v4 v5 v7 I L = some r) : zG p l e R s m args below meth c d cy B0 9 bc bs (zQ below s args d cy B0 bc bs (.inl (some (.int r))) zSH zKn bc bs I L) 110 [(0, .ref (B0 + 74)), (1, .ref (B0 + P)), (2, .int v2), (3, .int v3), (4, .int v4), (5, .long v5), (7, .int v7)] [] zSH zKn bc bs I L := by
  unfold f_X6_firstFree_110 at h
  obtain ⟨x24, ex24, h⟩ := zlt_e h
  refine z_iinc C (j := 6) (v := x24) (lv' := [(7, .int x24), (0, .ref (B0 + 74)), (1, .ref (B0 + P)), (2, .int v2), (3, .int v3), (4, .int v4), (5, .long v5)]) rfl (by rw [ex24]; rfl) (by decide) rfl dX6_firstFree_110 ?_
  refine z_goto C 51 (by decide) dX6_firstFree_113 ?_
  refine z_lv [1, 2, 3, 4, 5, 6, 0] (lv' := [(0, .ref (B0 + 74)), (1, .ref (B0 + P)), (2, .int v2), (3, .int v3), (4, .int v4), (5, .long v5), (7, .int x24)]) rfl ?_
  exact hk51 v2 v3 v4 v5 x24 I L h
set_option maxHeartbeats 4000000 in
set_option maxRecDepth 100000 in
theorem l_X6_firstFree_98 {r : Int32} (C : zC p l e R s m args below meth c s0 a0 d cy B0 yX6_firstFree.cls cX6_firstFree 9 (some .int) bc bs bc bs 2 60 []) {P : Nat} (hP : zpl P) (k8 : Int32 → Int32 → Int32 → zI → zL → Option Int32) (hk8 : ∀ (v2 : Int32) (v3 : Int32) (v4 : Int32) (I : zI) (L : zL), k8 v2 v3 v4 I L = some r → zG p l e R s m args below meth c d cy B0 9 bc bs (zQ below s args d cy B0 bc bs (.inl (some (.int r))) zSH zKn bc bs I L) 8 [(0, .ref (B0 + 74)), (1, .ref (B0 + P)), (2, .int v2), (3, .int v3), (4, .int v4)] [] zSH zKn bc bs I L) (k51 : Int32 → Int32 → Int32 → Int64 → Int32 → zI → zL → Option Int32) (hk51 : ∀ (v2 : Int32) (v3 : Int32) (v4 : Int32) (v5 : Int64) (v7 : Int32) (I : zI) (L : zL), k51 v2 v3 v4 v5 v7 I L = some r → zG p l e R s m args below meth c d cy B0 9 bc bs (zQ below s args d cy B0 bc bs (.inl (some (.int r))) zSH zKn bc bs I L) 51 [(0, .ref (B0 + 74)), (1, .ref (B0 + P)), (2, .int v2), (3, .int v3), (4, .int v4), (5, .long v5), (7, .int v7)] [] zSH zKn bc bs I L) (v2 : Int32) (v3 : Int32) (v4 : Int32) (v5 : Int64) (v7 : Int32) (v8 : Int32) (I : zI) (L : zL) (h : f_X6_firstFree_98 k8 k51 P v2 v3 v4 v5 v7 v8 I L = some r) : zG p l e R s m args below meth c d cy B0 9 bc bs (zQ below s args d cy B0 bc bs (.inl (some (.int r))) zSH zKn bc bs I L) 98 [(0, .ref (B0 + 74)), (1, .ref (B0 + P)), (2, .int v2), (3, .int v3), (4, .int v4), (5, .long v5), (7, .int v7), (8, .int v8)] [] zSH zKn bc bs I L := by
  unfold f_X6_firstFree_98 at h
  refine z_aload_n C rfl 0 rfl dX6_firstFree_98 ?_
  refine z_iload C 7 rfl dX6_firstFree_99 ?_
  obtain ⟨x23, hg22, h⟩ := zb1_e h
  refine z_callV C zc_6 rfl (by decide) dX6_firstFree_101 yy_X6_isFree (c_X6_isFree C.2.2.2.2.1  v8 I L hg22) q_1026 q_1028 q_38 (by decide) (by decide) rfl rfl (Nat.le_of_ble_eq_true rfl) ⟨Nat.le_refl _, Nat.le_refl _, Nat.le_refl _, Nat.le_refl _⟩ ?_
  refine z_if_eq C 110 (by decide) dX6_firstFree_104 (fun hc => ?_) (fun hc => ?_)
  · have h := zif_t hc h
    refine z_lv [0, 1, 2, 3, 4, 5, 6] (lv' := [(0, .ref (B0 + 74)), (1, .ref (B0 + P)), (2, .int v2), (3, .int v3), (4, .int v4), (5, .long v5), (7, .int v7)]) rfl ?_
    exact l_X6_firstFree_110 C hP k8 hk8 k51 hk51 v2 v3 v4 v5 v7 I L h
  · have h := zif_f hc h
    refine z_iload C 7 rfl dX6_firstFree_107 ?_
    refine z_istore_n C (lv' := [(3, .int v8), (0, .ref (B0 + 74)), (1, .ref (B0 + P)), (2, .int v2), (4, .int v4), (5, .long v5), (7, .int v7), (8, .int v8)]) rfl (by decide) rfl dX6_firstFree_109 ?_
    refine z_lv [1, 2, 3, 0, 4, 5, 6] (lv' := [(0, .ref (B0 + 74)), (1, .ref (B0 + P)), (2, .int v2), (3, .int v8), (4, .int v4), (5, .long v5), (7, .int v7)]) rfl ?_
    exact l_X6_firstFree_110 C hP k8 hk8 k51 hk51 v2 v8 v4 v5 v7 I L h
set_option maxHeartbeats 4000000 in
set_option maxRecDepth 100000 in
theorem l_X6_firstFree_51 {r : Int32} (C : zC p l e R s m args below meth c s0 a0 d cy B0 yX6_firstFree.cls cX6_firstFree 9 (some .int) bc bs bc bs 2 60 []) {P : Nat} (hP : zpl P) (k8 : Int32 → Int32 → Int32 → zI → zL → Option Int32) (hk8 : ∀ (v2 : Int32) (v3 : Int32) (v4 : Int32) (I : zI) (L : zL), k8 v2 v3 v4 I L = some r → zG p l e R s m args below meth c d cy B0 9 bc bs (zQ below s args d cy B0 bc bs (.inl (some (.int r))) zSH zKn bc bs I L) 8 [(0, .ref (B0 + 74)), (1, .ref (B0 + P)), (2, .int v2), (3, .int v3), (4, .int v4)] [] zSH zKn bc bs I L) (k51 : Int32 → Int32 → Int32 → Int64 → Int32 → zI → zL → Option Int32) (hk51 : ∀ (v2 : Int32) (v3 : Int32) (v4 : Int32) (v5 : Int64) (v7 : Int32) (I : zI) (L : zL), k51 v2 v3 v4 v5 v7 I L = some r → zG p l e R s m args below meth c d cy B0 9 bc bs (zQ below s args d cy B0 bc bs (.inl (some (.int r))) zSH zKn bc bs I L) 51 [(0, .ref (B0 + 74)), (1, .ref (B0 + P)), (2, .int v2), (3, .int v3), (4, .int v4), (5, .long v5), (7, .int v7)] [] zSH zKn bc bs I L) (v2 : Int32) (v3 : Int32) (v4 : Int32) (v5 : Int64) (v7 : Int32) (I : zI) (L : zL) (h : f_X6_firstFree_51 k8 P k51 v2 v3 v4 v5 v7 I L = some r) : zG p l e R s m args below meth c d cy B0 9 bc bs (zQ below s args d cy B0 bc bs (.inl (some (.int r))) zSH zKn bc bs I L) 51 [(0, .ref (B0 + 74)), (1, .ref (B0 + P)), (2, .int v2), (3, .int v3), (4, .int v4), (5, .long v5), (7, .int v7)] [] zSH zKn bc bs I L := by
  unfold f_X6_firstFree_51 at h
  refine z_iload C 6 rfl dX6_firstFree_51 ?_
  refine z_if_le C 116 (by decide) dX6_firstFree_53 (fun hc => ?_) (fun hc => ?_)
  · have h := zif_t hc h
    obtain ⟨x13, ex13, h⟩ := zlt_e h
    refine z_iinc C (j := 4) (v := x13) (lv' := [(4, .int x13), (0, .ref (B0 + 74)), (1, .ref (B0 + P)), (2, .int v2), (3, .int v3), (5, .long v5), (7, .int v7)]) rfl (by rw [ex13]; rfl) (by decide) rfl dX6_firstFree_116 ?_
    refine z_goto C 8 (by decide) dX6_firstFree_119 ?_
    refine z_lv [1, 2, 3, 4, 0] (lv' := [(0, .ref (B0 + 74)), (1, .ref (B0 + P)), (2, .int v2), (3, .int v3), (4, .int x13)]) rfl ?_
    exact hk8 v2 v3 x13 I L h
  · have h := zif_f hc h
    refine z_aload_n C rfl 0 rfl dX6_firstFree_56 ?_
    refine z_getr C zc_6 dX6_firstFree_57 2 74 61 rfl (by decide) (by decide) q_404 rfl rfl ?_
    refine z_getr C zc_3 dX6_firstFree_60 0 61 62 rfl (by decide) (by decide) q_371 rfl rfl ?_
    refine z_iload_n C rfl 2 rfl dX6_firstFree_63 ?_
    obtain ⟨hb14, h⟩ := zck_e h
    refine z_aaload C dX6_firstFree_64 (t := 4) rfl (by decide) rfl (by decide) (zbd_in hb14) (z_rowI (zbd_lt hb14)).1 ?_
    refine z_lload C 5 rfl dX6_firstFree_65 ?_
    obtain ⟨x16, hg15, h⟩ := zb1_e h
    refine z_callSN C dX6_firstFree_67 yy_X11_leftmost (c_X11_leftmost C.2.2.2.2.1  v5 I L hg15) q_1024 q_934 (by decide) (by decide) rfl rfl (Nat.le_of_ble_eq_true rfl) ⟨Nat.le_refl _, Nat.le_refl _, Nat.le_refl _, Nat.le_refl _⟩ ?_
    refine z_iload C 4 rfl dX6_firstFree_70 ?_
    obtain ⟨x18, hg17, h⟩ := zb1_e h
    refine z_callSN C dX6_firstFree_72 yy_X11_squareAt (c_X11_squareAt C.2.2.2.2.1  x16 v4 I L hg17) q_1025 q_858 (by decide) (by decide) rfl rfl (Nat.le_of_ble_eq_true rfl) ⟨Nat.le_refl _, Nat.le_refl _, Nat.le_refl _, Nat.le_refl _⟩ ?_
    obtain ⟨hb19, h⟩ := zck_e h
    refine z_iaload C dX6_firstFree_75 (z_rowI (zbd_lt hb14)).2.1 (z_rowI (zbd_lt hb14)).2.2.1 (z_rowI (zbd_lt hb14)).2.2.2 (zbd_in hb19) ?_
    obtain ⟨x20, ex20, h⟩ := zlt_e h
    refine z_eqi C ex20 ?_
    refine z_istore C (lv' := [(8, .int x20), (0, .ref (B0 + 74)), (1, .ref (B0 + P)), (2, .int v2), (3, .int v3), (4, .int v4), (5, .long v5), (7, .int v7)]) (by decide) rfl dX6_firstFree_76 ?_
    refine z_lload C 6 rfl dX6_firstFree_78 ?_
    refine z_lload C 6 rfl dX6_firstFree_80 ?_
    refine z_lconst C (v := 1) (by decide) dX6_firstFree_82 ?_
    refine z_lsub C dX6_firstFree_83 ?_
    refine z_land C dX6_firstFree_84 ?_
    obtain ⟨x21, ex21, h⟩ := zlt_e h
    refine z_eql C ex21 ?_
    refine z_lstore C (lv' := [(5, .long x21), (8, .int x20), (0, .ref (B0 + 74)), (1, .ref (B0 + P)), (2, .int v2), (3, .int v3), (4, .int v4), (7, .int v7)]) (by decide) rfl dX6_firstFree_85 ?_
    refine z_iload_n C rfl 5 rfl dX6_firstFree_87 ?_
    refine z_iconst C (v := -1) (by decide) dX6_firstFree_88 ?_
    refine z_icmp_eq C 98 (by decide) dX6_firstFree_89 (fun hc => ?_) (fun hc => ?_)
    · have h := zif_t hc h
      refine z_lv [2, 3, 4, 5, 6, 0, 7, 1] (lv' := [(0, .ref (B0 + 74)), (1, .ref (B0 + P)), (2, .int v2), (3, .int v3), (4, .int v4), (5, .long x21), (7, .int v7), (8, .int x20)]) rfl ?_
      exact l_X6_firstFree_98 C hP k8 hk8 k51 hk51 v2 v3 v4 x21 v7 x20 I L h
    · have h := zif_f hc h
      refine z_iload C 1 rfl dX6_firstFree_92 ?_
      refine z_iload_n C rfl 5 rfl dX6_firstFree_94 ?_
      refine z_icmp_ge C 110 (by decide) dX6_firstFree_95 (fun hc => ?_) (fun hc => ?_)
      · have h := zif_t hc h
        refine z_lv [2, 3, 4, 5, 6, 0, 7] (lv' := [(0, .ref (B0 + 74)), (1, .ref (B0 + P)), (2, .int v2), (3, .int v3), (4, .int v4), (5, .long x21), (7, .int v7)]) rfl ?_
        exact l_X6_firstFree_110 C hP k8 hk8 k51 hk51 v2 v3 v4 x21 v7 I L h
      · have h := zif_f hc h
        refine z_lv [2, 3, 4, 5, 6, 0, 7, 1] (lv' := [(0, .ref (B0 + 74)), (1, .ref (B0 + P)), (2, .int v2), (3, .int v3), (4, .int v4), (5, .long x21), (7, .int v7), (8, .int x20)]) rfl ?_
        exact l_X6_firstFree_98 C hP k8 hk8 k51 hk51 v2 v3 v4 x21 v7 x20 I L h
set_option maxHeartbeats 4000000 in
set_option maxRecDepth 100000 in
theorem L_X6_firstFree_51 {r : Int32} (C : zC p l e R s m args below meth c s0 a0 d cy B0 yX6_firstFree.cls cX6_firstFree 9 (some .int) bc bs bc bs 2 60 []) {P : Nat} (hP : zpl P) (k8 : Int32 → Int32 → Int32 → zI → zL → Option Int32) (hk8 : ∀ (v2 : Int32) (v3 : Int32) (v4 : Int32) (I : zI) (L : zL), k8 v2 v3 v4 I L = some r → zG p l e R s m args below meth c d cy B0 9 bc bs (zQ below s args d cy B0 bc bs (.inl (some (.int r))) zSH zKn bc bs I L) 8 [(0, .ref (B0 + 74)), (1, .ref (B0 + P)), (2, .int v2), (3, .int v3), (4, .int v4)] [] zSH zKn bc bs I L) (v2 : Int32) (v3 : Int32) (v4 : Int32) (v5 : Int64) (v7 : Int32) (I : zI) (L : zL) (h : zlp7 (f_X6_firstFree_51 k8 P) zF v2 v3 v4 v5 v7 I L = some r) : zG p l e R s m args below meth c d cy B0 9 bc bs (zQ below s args d cy B0 bc bs (.inl (some (.int r))) zSH zKn bc bs I L) 51 [(0, .ref (B0 + 74)), (1, .ref (B0 + P)), (2, .int v2), (3, .int v3), (4, .int v4), (5, .long v5), (7, .int v7)] [] zSH zKn bc bs I L :=
 zlp7_e (fun (v2 : Int32) (v3 : Int32) (v4 : Int32) (v5 : Int64) (v7 : Int32) (I : zI) (L : zL) => zG p l e R s m args below meth c d cy B0 9 bc bs (zQ below s args d cy B0 bc bs (.inl (some (.int r))) zSH zKn bc bs I L) 51 [(0, .ref (B0 + 74)), (1, .ref (B0 + P)), (2, .int v2), (3, .int v3), (4, .int v4), (5, .long v5), (7, .int v7)] [] zSH zKn bc bs I L) (fun k9 hk9 v2 v3 v4 v5 v7 I L h => l_X6_firstFree_51 C hP k8 hk8 k9 hk9 v2 v3 v4 v5 v7 I L h) zF v2 v3 v4 v5 v7 I L h
set_option maxHeartbeats 4000000 in
set_option maxRecDepth 100000 in
theorem l_X6_firstFree_8 {r : Int32} (C : zC p l e R s m args below meth c s0 a0 d cy B0 yX6_firstFree.cls cX6_firstFree 9 (some .int) bc bs bc bs 2 60 []) {P : Nat} (hP : zpl P) (k8 : Int32 → Int32 → Int32 → zI → zL → Option Int32) (hk8 : ∀ (v2 : Int32) (v3 : Int32) (v4 : Int32) (I : zI) (L : zL), k8 v2 v3 v4 I L = some r → zG p l e R s m args below meth c d cy B0 9 bc bs (zQ below s args d cy B0 bc bs (.inl (some (.int r))) zSH zKn bc bs I L) 8 [(0, .ref (B0 + 74)), (1, .ref (B0 + P)), (2, .int v2), (3, .int v3), (4, .int v4)] [] zSH zKn bc bs I L) (v2 : Int32) (v3 : Int32) (v4 : Int32) (I : zI) (L : zL) (h : f_X6_firstFree_8 P k8 v2 v3 v4 I L = some r) : zG p l e R s m args below meth c d cy B0 9 bc bs (zQ below s args d cy B0 bc bs (.inl (some (.int r))) zSH zKn bc bs I L) 8 [(0, .ref (B0 + 74)), (1, .ref (B0 + P)), (2, .int v2), (3, .int v3), (4, .int v4)] [] zSH zKn bc bs I L := by
  unfold f_X6_firstFree_8 at h
  refine z_iload C 4 rfl dX6_firstFree_8 ?_
  refine z_aload_n C rfl 0 rfl dX6_firstFree_10 ?_
  obtain ⟨x4, hg3, h⟩ := zb1_e h
  refine z_callV C zc_6 rfl (by decide) dX6_firstFree_11 yy_X6_highest (c_X6_highest C.2.2.2.2.1  I L hg3) q_1011 q_1013 q_36 (by decide) (by decide) rfl rfl (Nat.le_of_ble_eq_true rfl) ⟨Nat.le_refl _, Nat.le_refl _, Nat.le_refl _, Nat.le_refl _⟩ ?_
  refine z_icmp_gt C 122 (by decide) dX6_firstFree_14 (fun hc => ?_) (fun hc => ?_)
  · have h := zif_t hc h
    refine z_iload_n C rfl 3 rfl dX6_firstFree_122 ?_
    obtain rfl := Option.some.inj h
    exact z_iret C dX6_firstFree_123 .int rfl rfl rfl
  · have h := zif_f hc h
    refine z_aload_n C rfl 0 rfl dX6_firstFree_17 ?_
    refine z_getr C zc_6 dX6_firstFree_18 4 74 76 rfl (by decide) (by decide) q_406 rfl rfl ?_
    refine z_iload C 4 rfl dX6_firstFree_21 ?_
    obtain ⟨hb5, h⟩ := zck_e h
    refine z_laload C dX6_firstFree_23 rfl rfl (by decide) (zbd_in hb5) ?_
    refine z_aload_n C rfl 0 rfl dX6_firstFree_24 ?_
    refine z_getr C zc_6 dX6_firstFree_25 1 74 31 rfl (by decide) (by decide) q_403 rfl rfl ?_
    refine z_getr C zc_2 dX6_firstFree_28 0 31 32 rfl (by decide) (by decide) q_326 rfl rfl ?_
    refine z_aload_n C rfl 1 rfl dX6_firstFree_31 ?_
    refine z_getr C zc_7 dX6_firstFree_32 4 P (P + 1 + 4) (zpl_k hP) (zpl_lt hP) (by decide) q_179 rfl (zpl_r hP 4 (by decide)) ?_
    refine z_iload_n C rfl 2 rfl dX6_firstFree_35 ?_
    obtain ⟨hb6, h⟩ := zck_e h
    refine z_iaload C dX6_firstFree_36 (zpl_ak hP 4 (by decide)) (zpl_an hP 4 (by decide)) (zpl_a hP 4 (by decide)) (zbd_in hb6) ?_
    obtain ⟨x7, ex7, h⟩ := zlt_e h
    refine z_eqi C ex7 ?_
    obtain ⟨hb8, h⟩ := zck_e h
    refine z_aaload C dX6_firstFree_37 (t := 5) rfl (by decide) rfl (by decide) (zbd_in hb8) (z_rowJ (zbd_lt hb8)).1 ?_
    refine z_iload C 4 rfl dX6_firstFree_38 ?_
    obtain ⟨hb9, h⟩ := zck_e h
    refine z_laload C dX6_firstFree_40 (z_rowJ (zbd_lt hb8)).2.1 (z_rowJ (zbd_lt hb8)).2.2.1 (z_rowJ (zbd_lt hb8)).2.2.2 (zbd_in hb9) ?_
    refine z_land C dX6_firstFree_41 ?_
    obtain ⟨x10, ex10, h⟩ := zlt_e h
    refine z_eql C ex10 ?_
    refine z_lstore C (lv' := [(5, .long x10), (0, .ref (B0 + 74)), (1, .ref (B0 + P)), (2, .int v2), (3, .int v3), (4, .int v4)]) (by decide) rfl dX6_firstFree_42 ?_
    refine z_lload C 0 rfl dX6_firstFree_44 ?_
    obtain ⟨x12, hg11, h⟩ := zb1_e h
    refine z_callS C dX6_firstFree_46 yy_J13_bitCount_95d88 (c_J13_bitCount_95d88 C.2.2.2.2.1  x10 I L hg11) q_1023 q_937 (by decide) (by decide) rfl rfl (Nat.le_of_ble_eq_true rfl) ⟨Nat.le_refl _, Nat.le_refl _, Nat.le_refl _, Nat.le_refl _⟩ ?_
    refine z_istore C (lv' := [(7, .int x12), (5, .long x10), (0, .ref (B0 + 74)), (1, .ref (B0 + P)), (2, .int v2), (3, .int v3), (4, .int v4)]) (by decide) rfl dX6_firstFree_49 ?_
    refine z_lv [2, 3, 4, 5, 6, 1, 0] (lv' := [(0, .ref (B0 + 74)), (1, .ref (B0 + P)), (2, .int v2), (3, .int v3), (4, .int v4), (5, .long x10), (7, .int x12)]) rfl ?_
    exact L_X6_firstFree_51 C hP k8 hk8 v2 v3 v4 x10 x12 I L h
set_option maxHeartbeats 4000000 in
set_option maxRecDepth 100000 in
theorem L_X6_firstFree_8 {r : Int32} (C : zC p l e R s m args below meth c s0 a0 d cy B0 yX6_firstFree.cls cX6_firstFree 9 (some .int) bc bs bc bs 2 60 []) {P : Nat} (hP : zpl P) (v2 : Int32) (v3 : Int32) (v4 : Int32) (I : zI) (L : zL) (h : zlp5 (f_X6_firstFree_8 P) zF v2 v3 v4 I L = some r) : zG p l e R s m args below meth c d cy B0 9 bc bs (zQ below s args d cy B0 bc bs (.inl (some (.int r))) zSH zKn bc bs I L) 8 [(0, .ref (B0 + 74)), (1, .ref (B0 + P)), (2, .int v2), (3, .int v3), (4, .int v4)] [] zSH zKn bc bs I L :=
 zlp5_e (fun (v2 : Int32) (v3 : Int32) (v4 : Int32) (I : zI) (L : zL) => zG p l e R s m args below meth c d cy B0 9 bc bs (zQ below s args d cy B0 bc bs (.inl (some (.int r))) zSH zKn bc bs I L) 8 [(0, .ref (B0 + 74)), (1, .ref (B0 + P)), (2, .int v2), (3, .int v3), (4, .int v4)] [] zSH zKn bc bs I L) (fun k9 hk9 v2 v3 v4 I L h => l_X6_firstFree_8 C hP k9 hk9 v2 v3 v4 I L h) zF v2 v3 v4 I L h
set_option maxHeartbeats 4000000 in
set_option maxRecDepth 100000 in
theorem c_X6_firstFree {r : Int32} (hE : zE0 l s0 a0 d cy B0) {P : Nat} (hP : zpl P) (a2 : Int32) (I : zI) (L : zL) (h : f_X6_firstFree P a2 I L = some r) : zM l s0 d cy B0 yX6_firstFree cX6_firstFree 9 (some .int) 2 60 [.ref (B0 + 74), .ref (B0 + P), .int a2] zSH zKn bc bs I L (.inl (some (.int r))) zSH zKn bc bs I L := by
  refine z_meth yy_X6_firstFree hE (Nat.le_of_ble_eq_true rfl) (fun p e R s m args below meth c C => ?_)
  show zG p l e R s m args below meth c d cy B0 9 bc bs (zQ below s args d cy B0 bc bs (.inl (some (.int r))) zSH zKn bc bs I L) 0 [(0, .ref (B0 + 74)), (1, .ref (B0 + P)), (2, .int a2)] [] zSH zKn bc bs I L
  unfold f_X6_firstFree at h
  refine z_iconst C (v := -1) (by decide) dX6_firstFree_0 ?_
  refine z_istore_n C (lv' := [(3, .int (-1 : Int32)), (0, .ref (B0 + 74)), (1, .ref (B0 + P)), (2, .int a2)]) rfl (by decide) rfl dX6_firstFree_1 ?_
  refine z_aload_n C rfl 1 rfl dX6_firstFree_2 ?_
  obtain ⟨x2, hg1, h⟩ := zb1_e h
  refine z_callV C zc_6 rfl (by decide) dX6_firstFree_3 yy_X6_lowest (c_X6_lowest C.2.2.2.2.1  I L hg1) q_1006 q_1008 q_35 (by decide) (by decide) rfl rfl (Nat.le_of_ble_eq_true rfl) ⟨Nat.le_refl _, Nat.le_refl _, Nat.le_refl _, Nat.le_refl _⟩ ?_
  refine z_istore C (lv' := [(4, .int x2), (3, .int (-1 : Int32)), (0, .ref (B0 + 74)), (1, .ref (B0 + P)), (2, .int a2)]) (by decide) rfl dX6_firstFree_6 ?_
  refine z_lv [2, 3, 4, 1, 0] (lv' := [(0, .ref (B0 + 74)), (1, .ref (B0 + P)), (2, .int a2), (3, .int (-1 : Int32)), (4, .int x2)]) rfl ?_
  exact L_X6_firstFree_8 C hP a2 (-1 : Int32) x2 I L h
end Zp05_01_walk
