section Zp05_02_walk
variable {p : Program} {l : Launch} {e : Env} {R : Room} {s : State} {m : MethodId} {args : Array Value} {below : List Frame} {meth : Method} {c : Code} {s0 : State} {a0 : Array Value} {d : va_G} {cy : Nat → ClassId} {B0 : Nat} {bc bs : Nat}
theorem q_950 : (Cond.code ({ cls := "DeviceFind", name := "columnOf", desc := "(I)I" } : Jvm.MethodName) prog_1_method_24_code (1 : Nat) (Option.some Jvm.ClassFile.FieldType.int)) ∈ lw_tbl := List.mem_of_getElem? (i := 950) (by decide +kernel)
theorem yy_X11_columnOf : zY yX11_columnOf cX11_columnOf 1 (some .int) 1 := ⟨q_950, q_75, by decide +kernel, by decide +kernel, by decide +kernel⟩
noncomputable def f_X11_columnOf (a0 : Int32) : Option Int32 :=
  zlt (a0 - a0 / (64 : Int32) * (64 : Int32)) (fun x2 => some x2)
set_option maxHeartbeats 4000000 in
set_option maxRecDepth 100000 in
theorem c_X11_columnOf {r : Int32} (hE : zE0 l s0 a0 d cy B0) (a0 : Int32) (I : zI) (L : zL) (h : f_X11_columnOf a0 = some r) : zM l s0 d cy B0 yX11_columnOf cX11_columnOf 1 (some .int) 0 0 [.int a0] zSH zKn bc bs I L (.inl (some (.int r))) zSH zKn bc bs I L := by
  refine z_meth yy_X11_columnOf hE (Nat.le_of_ble_eq_true rfl) (fun p e R s m args below meth c C => ?_)
  show zG p l e R s m args below meth c d cy B0 1 bc bs (zQ below s args d cy B0 bc bs (.inl (some (.int r))) zSH zKn bc bs I L) 0 [(0, .int a0)] [] zSH zKn bc bs I L
  unfold f_X11_columnOf at h
  refine z_iload_n C rfl 0 rfl dX11_columnOf_0 ?_
  refine z_bipush C (v := 64) (by decide) dX11_columnOf_1 ?_
  refine z_irem C (by decide) dX11_columnOf_3 ?_
  obtain ⟨x2, ex2, h⟩ := zlt_e h
  refine z_eqi C ex2 ?_
  obtain rfl := Option.some.inj h
  exact z_iret C dX11_columnOf_4 .int rfl rfl rfl
theorem q_953 : (Cond.code ({ cls := "DeviceFind", name := "rowOf", desc := "(I)I" } : Jvm.MethodName) prog_1_method_25_code (1 : Nat) (Option.some Jvm.ClassFile.FieldType.int)) ∈ lw_tbl := List.mem_of_getElem? (i := 953) (by decide +kernel)
theorem yy_X11_rowOf : zY yX11_rowOf cX11_rowOf 1 (some .int) 1 := ⟨q_953, q_75, by decide +kernel, by decide +kernel, by decide +kernel⟩
noncomputable def f_X11_rowOf (a0 : Int32) : Option Int32 :=
  zlt (a0 / (64 : Int32)) (fun x2 => some x2)
set_option maxHeartbeats 4000000 in
set_option maxRecDepth 100000 in
theorem c_X11_rowOf {r : Int32} (hE : zE0 l s0 a0 d cy B0) (a0 : Int32) (I : zI) (L : zL) (h : f_X11_rowOf a0 = some r) : zM l s0 d cy B0 yX11_rowOf cX11_rowOf 1 (some .int) 0 0 [.int a0] zSH zKn bc bs I L (.inl (some (.int r))) zSH zKn bc bs I L := by
  refine z_meth yy_X11_rowOf hE (Nat.le_of_ble_eq_true rfl) (fun p e R s m args below meth c C => ?_)
  show zG p l e R s m args below meth c d cy B0 1 bc bs (zQ below s args d cy B0 bc bs (.inl (some (.int r))) zSH zKn bc bs I L) 0 [(0, .int a0)] [] zSH zKn bc bs I L
  unfold f_X11_rowOf at h
  refine z_iload_n C rfl 0 rfl dX11_rowOf_0 ?_
  refine z_bipush C (v := 64) (by decide) dX11_rowOf_1 ?_
  refine z_idiv C (by decide) dX11_rowOf_3 ?_
  obtain ⟨x2, ex2, h⟩ := zlt_e h
  refine z_eqi C ex2 ?_
  obtain rfl := Option.some.inj h
  exact z_iret C dX11_rowOf_4 .int rfl rfl rfl
theorem q_27 : Cond.selects "DeviceFind$Peeler" ⟨"DeviceFind$Peeler", "take", "(II)V"⟩ ⟨"DeviceFind$Peeler", "take", "(II)V"⟩ ∈ lw_tbl := List.mem_of_getElem? (i := 27) (by decide +kernel)
theorem q_942 : (Cond.methodLink "DeviceFind$Peeler" (45 : Nat) ({ cls := "DeviceFind$Peeler", name := "take", desc := "(II)V" } : Jvm.MethodName)) ∈ lw_tbl := List.mem_of_getElem? (i := 942) (by decide +kernel)
theorem q_944 : (Cond.instanceMethod ({ cls := "DeviceFind$Peeler", name := "take", desc := "(II)V" } : Jvm.MethodName)) ∈ lw_tbl := List.mem_of_getElem? (i := 944) (by decide +kernel)
theorem q_957 : (Cond.code ({ cls := "DeviceFind$Peeler", name := "takeBeside", desc := "(II)V" } : Jvm.MethodName) prog_7_method_5_code (3 : Nat) (Option.none : Option Jvm.ClassFile.FieldType)) ∈ lw_tbl := List.mem_of_getElem? (i := 957) (by decide +kernel)
theorem yy_X5_takeBeside : zY yX5_takeBeside cX5_takeBeside 3 none 2 := ⟨q_957, q_84, by decide +kernel, by decide +kernel, by decide +kernel⟩
noncomputable def f_X5_takeBeside (a1 : Int32) (a2 : Int32) (I : zI) (L : zL) : Option (zI × zL) :=
  zb2 (f_X5_take (a1 - (1 : Int32)) a2 I L) (fun I2 L3 => zb2 (f_X5_take (a1 + (1 : Int32)) a2 I2 L3) (fun I5 L6 => zb2 (f_X5_take a1 (a2 - (1 : Int32)) I5 L6) (fun I8 L9 => zb2 (f_X5_take a1 (a2 + (1 : Int32)) I8 L9) (fun I11 L12 => some (I11, L12)))))
set_option maxHeartbeats 4000000 in
set_option maxRecDepth 100000 in
theorem c_X5_takeBeside {r : zI × zL} (hE : zE0 l s0 a0 d cy B0) (a1 : Int32) (a2 : Int32) (I : zI) (L : zL) (h : f_X5_takeBeside a1 a2 I L = some r) : zM l s0 d cy B0 yX5_takeBeside cX5_takeBeside 3 none 2 62 [.ref (B0 + 57), .int a1, .int a2] zSH zKn bc bs I L (.inl none) zSH zKn bc bs r.1 r.2 := by
  refine z_meth yy_X5_takeBeside hE (Nat.le_of_ble_eq_true rfl) (fun p e R s m args below meth c C => ?_)
  show zG p l e R s m args below meth c d cy B0 3 bc bs (zQ below s args d cy B0 bc bs (.inl none) zSH zKn bc bs r.1 r.2) 0 [(0, .ref (B0 + 57)), (1, .int a1), (2, .int a2)] [] zSH zKn bc bs I L
  unfold f_X5_takeBeside at h
  refine z_aload_n C rfl 0 rfl dX5_takeBeside_0 ?_
  refine z_iload_n C rfl 1 rfl dX5_takeBeside_1 ?_
  refine z_iconst C (v := 1) (by decide) dX5_takeBeside_2 ?_
  refine z_isub C dX5_takeBeside_3 ?_
  refine z_iload_n C rfl 2 rfl dX5_takeBeside_4 ?_
  obtain ⟨I2, L3, hg1, h⟩ := zb2_e h
  refine z_callV C zc_5 rfl (by decide) dX5_takeBeside_5 yy_X5_take (c_X5_take C.2.2.2.2.1  (a1 - (1 : Int32)) a2 I L hg1) q_942 q_944 q_27 (by decide) (by decide) rfl rfl (Nat.le_of_ble_eq_true rfl) ⟨Nat.le_refl _, Nat.le_refl _, Nat.le_refl _, Nat.le_refl _⟩ ?_
  refine z_aload_n C rfl 0 rfl dX5_takeBeside_8 ?_
  refine z_iload_n C rfl 1 rfl dX5_takeBeside_9 ?_
  refine z_iconst C (v := 1) (by decide) dX5_takeBeside_10 ?_
  refine z_iadd C dX5_takeBeside_11 ?_
  refine z_iload_n C rfl 2 rfl dX5_takeBeside_12 ?_
  obtain ⟨I5, L6, hg4, h⟩ := zb2_e h
  refine z_callV C zc_5 rfl (by decide) dX5_takeBeside_13 yy_X5_take (c_X5_take C.2.2.2.2.1  (a1 + (1 : Int32)) a2 I2 L3 hg4) q_942 q_944 q_27 (by decide) (by decide) rfl rfl (Nat.le_of_ble_eq_true rfl) ⟨Nat.le_refl _, Nat.le_refl _, Nat.le_refl _, Nat.le_refl _⟩ ?_
  refine z_aload_n C rfl 0 rfl dX5_takeBeside_16 ?_
  refine z_iload_n C rfl 1 rfl dX5_takeBeside_17 ?_
  refine z_iload_n C rfl 2 rfl dX5_takeBeside_18 ?_
  refine z_iconst C (v := 1) (by decide) dX5_takeBeside_19 ?_
  refine z_isub C dX5_takeBeside_20 ?_
  obtain ⟨I8, L9, hg7, h⟩ := zb2_e h
  refine z_callV C zc_5 rfl (by decide) dX5_takeBeside_21 yy_X5_take (c_X5_take C.2.2.2.2.1  a1 (a2 - (1 : Int32)) I5 L6 hg7) q_942 q_944 q_27 (by decide) (by decide) rfl rfl (Nat.le_of_ble_eq_true rfl) ⟨Nat.le_refl _, Nat.le_refl _, Nat.le_refl _, Nat.le_refl _⟩ ?_
  refine z_aload_n C rfl 0 rfl dX5_takeBeside_24 ?_
  refine z_iload_n C rfl 1 rfl dX5_takeBeside_25 ?_
  refine z_iload_n C rfl 2 rfl dX5_takeBeside_26 ?_
  refine z_iconst C (v := 1) (by decide) dX5_takeBeside_27 ?_
  refine z_iadd C dX5_takeBeside_28 ?_
  obtain ⟨I11, L12, hg10, h⟩ := zb2_e h
  refine z_callV C zc_5 rfl (by decide) dX5_takeBeside_29 yy_X5_take (c_X5_take C.2.2.2.2.1  a1 (a2 + (1 : Int32)) I8 L9 hg10) q_942 q_944 q_27 (by decide) (by decide) rfl rfl (Nat.le_of_ble_eq_true rfl) ⟨Nat.le_refl _, Nat.le_refl _, Nat.le_refl _, Nat.le_refl _⟩ ?_
  obtain rfl := Option.some.inj h
  exact z_vret C dX5_takeBeside_32 rfl rfl
theorem q_28 : Cond.selects "DeviceFind$Peeler" ⟨"DeviceFind$Peeler", "takeBeside", "(II)V"⟩ ⟨"DeviceFind$Peeler", "takeBeside", "(II)V"⟩ ∈ lw_tbl := List.mem_of_getElem? (i := 28) (by decide +kernel)
theorem q_932 : (Cond.code ({ cls := "DeviceFind$Peeler", name := "next", desc := "()Z" } : Jvm.MethodName) prog_7_method_3_code (2 : Nat) (Option.some Jvm.ClassFile.FieldType.boolean)) ∈ lw_tbl := List.mem_of_getElem? (i := 932) (by decide +kernel)
theorem q_933 : (Cond.methodLinkNest "DeviceFind$Peeler" (41 : Nat) ({ cls := "DeviceFind", name := "leftmost", desc := "(J)I" } : Jvm.MethodName) "DeviceFind") ∈ lw_tbl := List.mem_of_getElem? (i := 933) (by decide +kernel)
theorem q_934 : (Cond.static ({ cls := "DeviceFind", name := "leftmost", desc := "(J)I" } : Jvm.MethodName)) ∈ lw_tbl := List.mem_of_getElem? (i := 934) (by decide +kernel)
theorem q_948 : (Cond.methodLinkNest "DeviceFind$Peeler" (49 : Nat) ({ cls := "DeviceFind", name := "columnOf", desc := "(I)I" } : Jvm.MethodName) "DeviceFind") ∈ lw_tbl := List.mem_of_getElem? (i := 948) (by decide +kernel)
theorem q_949 : (Cond.static ({ cls := "DeviceFind", name := "columnOf", desc := "(I)I" } : Jvm.MethodName)) ∈ lw_tbl := List.mem_of_getElem? (i := 949) (by decide +kernel)
theorem q_951 : (Cond.methodLinkNest "DeviceFind$Peeler" (53 : Nat) ({ cls := "DeviceFind", name := "rowOf", desc := "(I)I" } : Jvm.MethodName) "DeviceFind") ∈ lw_tbl := List.mem_of_getElem? (i := 951) (by decide +kernel)
theorem q_952 : (Cond.static ({ cls := "DeviceFind", name := "rowOf", desc := "(I)I" } : Jvm.MethodName)) ∈ lw_tbl := List.mem_of_getElem? (i := 952) (by decide +kernel)
theorem q_954 : (Cond.methodLink "DeviceFind$Peeler" (56 : Nat) ({ cls := "DeviceFind$Peeler", name := "takeBeside", desc := "(II)V" } : Jvm.MethodName)) ∈ lw_tbl := List.mem_of_getElem? (i := 954) (by decide +kernel)
theorem q_956 : (Cond.instanceMethod ({ cls := "DeviceFind$Peeler", name := "takeBeside", desc := "(II)V" } : Jvm.MethodName)) ∈ lw_tbl := List.mem_of_getElem? (i := 956) (by decide +kernel)
theorem yy_X5_next : zY yX5_next cX5_next 2 (some .boolean) 0 := ⟨q_932, q_84, by decide +kernel, by decide +kernel, by decide +kernel⟩
noncomputable def f_X5_next_124 (I : zI) (L : zL) : Option (Int32 × zI × zL) :=
  some ((1 : Int32), I, L)
noncomputable def f_X5_next_81 (k81 : Int32 → zI → zL → Option (Int32 × zI × zL)) (v1 : Int32) (I : zI) (L : zL) : Option (Int32 × zI × zL) :=
  if (4096 : Int32) ≤ v1 then (f_X5_next_124 I L) else (if (I 57 2) ≤ v1 then (f_X5_next_124 I L) else (zck (zbd v1 4096) (zb1 (f_X11_columnOf (I 59 v1.toNatClampNeg)) (fun x18 => zck (zbd v1 4096) (zb1 (f_X11_rowOf (I 59 v1.toNatClampNeg)) (fun x21 => zb2 (f_X5_takeBeside x18 x21 I L) (fun I23 L24 => zlt (v1 + 1) (fun x25 => k81 x25 I23 L24))))))))
noncomputable def f_X5_next_40 (I : zI) (L : zL) : Option (Int32 × zI × zL) :=
  zlt (zu I 57 4 (I 57 3)) (fun I8 => if (I8 57 3) < (64 : Int32) then (zlt (I8 57 3) (fun x9 => zck (zbd x9 64) (zb1 (f_X11_leftmost (L 60 x9.toNatClampNeg)) (fun x12 => zb2 (f_X5_take x12 (I8 57 3) I8 L) (fun I14 L15 => zlp3 (f_X5_next_81) zF (0 : Int32) I14 L15))))) else (some ((0 : Int32), I8, L)))
noncomputable def f_X5_next_4 (k4 : zI → zL → Option (Int32 × zI × zL)) (I : zI) (L : zL) : Option (Int32 × zI × zL) :=
  if (64 : Int32) ≤ (I 57 3) then (f_X5_next_40 I L) else (zlt (I 57 3) (fun x4 => zck (zbd x4 64) (if (L 60 x4.toNatClampNeg) = (0 : Int64) then (zlt ((I 57 3) + (1 : Int32)) (fun x6 => zlt (zu I 57 3 x6) (fun I7 => k4 I7 L))) else (f_X5_next_40 I L))))
noncomputable def f_X5_next (I : zI) (L : zL) : Option (Int32 × zI × zL) :=
  zb2 (f_X5_dropShape I L) (fun I2 L3 => zlp2 (f_X5_next_4) zF I2 L3)
set_option maxHeartbeats 4000000 in
set_option maxRecDepth 100000 in
theorem l_X5_next_124 {r : Int32 × zI × zL} (C : zC p l e R s m args below meth c s0 a0 d cy B0 yX5_next.cls cX5_next 2 (some .boolean) bc bs bc bs 3 84 []) (I : zI) (L : zL) (h : f_X5_next_124 I L = some r) : zG p l e R s m args below meth c d cy B0 2 bc bs (zQ below s args d cy B0 bc bs (.inl (some (.int r.1))) zSH zKn bc bs r.2.1 r.2.2) 124 [] [] zSH zKn bc bs I L := by
  unfold f_X5_next_124 at h
  refine z_iconst C (v := 1) (by decide) dX5_next_124 ?_
  obtain rfl := Option.some.inj h
  exact z_iret C dX5_next_125 .boolean rfl rfl rfl
set_option maxHeartbeats 4000000 in
set_option maxRecDepth 100000 in
theorem l_X5_next_81 {r : Int32 × zI × zL} (C : zC p l e R s m args below meth c s0 a0 d cy B0 yX5_next.cls cX5_next 2 (some .boolean) bc bs bc bs 3 84 []) (k81 : Int32 → zI → zL → Option (Int32 × zI × zL)) (hk81 : ∀ (v1 : Int32) (I : zI) (L : zL), k81 v1 I L = some r → zG p l e R s m args below meth c d cy B0 2 bc bs (zQ below s args d cy B0 bc bs (.inl (some (.int r.1))) zSH zKn bc bs r.2.1 r.2.2) 81 [(0, .ref (B0 + 57)), (1, .int v1)] [] zSH zKn bc bs I L) (v1 : Int32) (I : zI) (L : zL) (h : f_X5_next_81 k81 v1 I L = some r) : zG p l e R s m args below meth c d cy B0 2 bc bs (zQ below s args d cy B0 bc bs (.inl (some (.int r.1))) zSH zKn bc bs r.2.1 r.2.2) 81 [(0, .ref (B0 + 57)), (1, .int v1)] [] zSH zKn bc bs I L := by
  unfold f_X5_next_81 at h
  refine z_iload_n C rfl 1 rfl dX5_next_81 ?_
  refine z_sipush C (v := 4096) (by decide) dX5_next_82 ?_
  refine z_icmp_ge C 124 (by decide) dX5_next_85 (fun hc => ?_) (fun hc => ?_)
  · have h := zif_t hc h
    refine z_lv [] (lv' := []) rfl ?_
    exact l_X5_next_124 C  I L h
  · have h := zif_f hc h
    refine z_iload_n C rfl 1 rfl dX5_next_88 ?_
    refine z_aload_n C rfl 0 rfl dX5_next_89 ?_
    refine z_geti C zc_5 dX5_next_90 2 57 rfl (by decide) (by decide) q_341 rfl ?_
    refine z_icmp_ge C 124 (by decide) dX5_next_93 (fun hc => ?_) (fun hc => ?_)
    · have h := zif_t hc h
      refine z_lv [] (lv' := []) rfl ?_
      exact l_X5_next_124 C  I L h
    · have h := zif_f hc h
      refine z_aload_n C rfl 0 rfl dX5_next_96 ?_
      refine z_aload_n C rfl 0 rfl dX5_next_97 ?_
      refine z_getr C zc_5 dX5_next_98 1 57 59 rfl (by decide) (by decide) q_338 rfl rfl ?_
      refine z_iload_n C rfl 1 rfl dX5_next_101 ?_
      obtain ⟨hb16, h⟩ := zck_e h
      refine z_iaload C dX5_next_102 rfl rfl (by decide) (zbd_in hb16) ?_
      obtain ⟨x18, hg17, h⟩ := zb1_e h
      refine z_callSN C dX5_next_103 yy_X11_columnOf (c_X11_columnOf C.2.2.2.2.1  (I 59 v1.toNatClampNeg) I L hg17) q_948 q_949 (by decide) (by decide) rfl rfl (Nat.le_of_ble_eq_true rfl) ⟨Nat.le_refl _, Nat.le_refl _, Nat.le_refl _, Nat.le_refl _⟩ ?_
      refine z_aload_n C rfl 0 rfl dX5_next_106 ?_
      refine z_getr C zc_5 dX5_next_107 1 57 59 rfl (by decide) (by decide) q_338 rfl rfl ?_
      refine z_iload_n C rfl 1 rfl dX5_next_110 ?_
      obtain ⟨hb19, h⟩ := zck_e h
      refine z_iaload C dX5_next_111 rfl rfl (by decide) (zbd_in hb19) ?_
      obtain ⟨x21, hg20, h⟩ := zb1_e h
      refine z_callSN C dX5_next_112 yy_X11_rowOf (c_X11_rowOf C.2.2.2.2.1  (I 59 v1.toNatClampNeg) I L hg20) q_951 q_952 (by decide) (by decide) rfl rfl (Nat.le_of_ble_eq_true rfl) ⟨Nat.le_refl _, Nat.le_refl _, Nat.le_refl _, Nat.le_refl _⟩ ?_
      obtain ⟨I23, L24, hg22, h⟩ := zb2_e h
      refine z_callV C zc_5 rfl (by decide) dX5_next_115 yy_X5_takeBeside (c_X5_takeBeside C.2.2.2.2.1  x18 x21 I L hg22) q_954 q_956 q_28 (by decide) (by decide) rfl rfl (Nat.le_of_ble_eq_true rfl) ⟨Nat.le_refl _, Nat.le_refl _, Nat.le_refl _, Nat.le_refl _⟩ ?_
      obtain ⟨x25, ex25, h⟩ := zlt_e h
      refine z_iinc C (j := 1) (v := x25) (lv' := [(1, .int x25), (0, .ref (B0 + 57))]) rfl (by rw [ex25]; rfl) (by decide) rfl dX5_next_118 ?_
      refine z_goto C 81 (by decide) dX5_next_121 ?_
      refine z_lv [1, 0] (lv' := [(0, .ref (B0 + 57)), (1, .int x25)]) rfl ?_
      exact hk81 x25 I23 L24 h
set_option maxHeartbeats 4000000 in
set_option maxRecDepth 100000 in
theorem L_X5_next_81 {r : Int32 × zI × zL} (C : zC p l e R s m args below meth c s0 a0 d cy B0 yX5_next.cls cX5_next 2 (some .boolean) bc bs bc bs 3 84 []) (v1 : Int32) (I : zI) (L : zL) (h : zlp3 (f_X5_next_81) zF v1 I L = some r) : zG p l e R s m args below meth c d cy B0 2 bc bs (zQ below s args d cy B0 bc bs (.inl (some (.int r.1))) zSH zKn bc bs r.2.1 r.2.2) 81 [(0, .ref (B0 + 57)), (1, .int v1)] [] zSH zKn bc bs I L :=
 zlp3_e (fun (v1 : Int32) (I : zI) (L : zL) => zG p l e R s m args below meth c d cy B0 2 bc bs (zQ below s args d cy B0 bc bs (.inl (some (.int r.1))) zSH zKn bc bs r.2.1 r.2.2) 81 [(0, .ref (B0 + 57)), (1, .int v1)] [] zSH zKn bc bs I L) (fun k9 hk9 v1 I L h => l_X5_next_81 C k9 hk9 v1 I L h) zF v1 I L h
set_option maxHeartbeats 4000000 in
set_option maxRecDepth 100000 in
theorem l_X5_next_40 {r : Int32 × zI × zL} (C : zC p l e R s m args below meth c s0 a0 d cy B0 yX5_next.cls cX5_next 2 (some .boolean) bc bs bc bs 3 84 []) (I : zI) (L : zL) (h : f_X5_next_40 I L = some r) : zG p l e R s m args below meth c d cy B0 2 bc bs (zQ below s args d cy B0 bc bs (.inl (some (.int r.1))) zSH zKn bc bs r.2.1 r.2.2) 40 [(0, .ref (B0 + 57))] [] zSH zKn bc bs I L := by
  unfold f_X5_next_40 at h
  refine z_aload_n C rfl 0 rfl dX5_next_40 ?_
  refine z_aload_n C rfl 0 rfl dX5_next_41 ?_
  refine z_geti C zc_5 dX5_next_42 3 57 rfl (by decide) (by decide) q_344 rfl ?_
  refine z_puti C zc_5 dX5_next_45 4 57 rfl (by decide) (by decide) rfl q_346 rfl rfl rfl ?_
  obtain ⟨I8, eI8, h⟩ := zlt_e h
  refine z_eqI C eI8 ?_
  refine z_aload_n C rfl 0 rfl dX5_next_48 ?_
  refine z_geti C zc_5 dX5_next_49 3 57 rfl (by decide) (by decide) q_344 rfl ?_
  refine z_bipush C (v := 64) (by decide) dX5_next_52 ?_
  refine z_icmp_lt C 59 (by decide) dX5_next_54 (fun hc => ?_) (fun hc => ?_)
  · have h := zif_t hc h
    refine z_aload_n C rfl 0 rfl dX5_next_59 ?_
    refine z_aload_n C rfl 0 rfl dX5_next_60 ?_
    refine z_getr C zc_5 dX5_next_61 5 57 60 rfl (by decide) (by decide) q_348 rfl rfl ?_
    refine z_aload_n C rfl 0 rfl dX5_next_64 ?_
    refine z_geti C zc_5 dX5_next_65 3 57 rfl (by decide) (by decide) q_344 rfl ?_
    obtain ⟨x9, ex9, h⟩ := zlt_e h
    refine z_eqi C ex9 ?_
    obtain ⟨hb10, h⟩ := zck_e h
    refine z_laload C dX5_next_68 rfl rfl (by decide) (zbd_in hb10) ?_
    obtain ⟨x12, hg11, h⟩ := zb1_e h
    refine z_callSN C dX5_next_69 yy_X11_leftmost (c_X11_leftmost C.2.2.2.2.1  (L 60 x9.toNatClampNeg) I8 L hg11) q_933 q_934 (by decide) (by decide) rfl rfl (Nat.le_of_ble_eq_true rfl) ⟨Nat.le_refl _, Nat.le_refl _, Nat.le_refl _, Nat.le_refl _⟩ ?_
    refine z_aload_n C rfl 0 rfl dX5_next_72 ?_
    refine z_geti C zc_5 dX5_next_73 3 57 rfl (by decide) (by decide) q_344 rfl ?_
    obtain ⟨I14, L15, hg13, h⟩ := zb2_e h
    refine z_callV C zc_5 rfl (by decide) dX5_next_76 yy_X5_take (c_X5_take C.2.2.2.2.1  x12 (I8 57 3) I8 L hg13) q_942 q_944 q_27 (by decide) (by decide) rfl rfl (Nat.le_of_ble_eq_true rfl) ⟨Nat.le_refl _, Nat.le_refl _, Nat.le_refl _, Nat.le_refl _⟩ ?_
    refine z_iconst C (v := 0) (by decide) dX5_next_79 ?_
    refine z_istore_n C (lv' := [(1, .int (0 : Int32)), (0, .ref (B0 + 57))]) rfl (by decide) rfl dX5_next_80 ?_
    refine z_lv [1, 0] (lv' := [(0, .ref (B0 + 57)), (1, .int (0 : Int32))]) rfl ?_
    exact L_X5_next_81 C  (0 : Int32) I14 L15 h
  · have h := zif_f hc h
    refine z_iconst C (v := 0) (by decide) dX5_next_57 ?_
    obtain rfl := Option.some.inj h
    exact z_iret C dX5_next_58 .boolean rfl rfl rfl
set_option maxHeartbeats 4000000 in
set_option maxRecDepth 100000 in
theorem l_X5_next_4 {r : Int32 × zI × zL} (C : zC p l e R s m args below meth c s0 a0 d cy B0 yX5_next.cls cX5_next 2 (some .boolean) bc bs bc bs 3 84 []) (k4 : zI → zL → Option (Int32 × zI × zL)) (hk4 : ∀ (I : zI) (L : zL), k4 I L = some r → zG p l e R s m args below meth c d cy B0 2 bc bs (zQ below s args d cy B0 bc bs (.inl (some (.int r.1))) zSH zKn bc bs r.2.1 r.2.2) 4 [(0, .ref (B0 + 57))] [] zSH zKn bc bs I L) (I : zI) (L : zL) (h : f_X5_next_4 k4 I L = some r) : zG p l e R s m args below meth c d cy B0 2 bc bs (zQ below s args d cy B0 bc bs (.inl (some (.int r.1))) zSH zKn bc bs r.2.1 r.2.2) 4 [(0, .ref (B0 + 57))] [] zSH zKn bc bs I L := by
  unfold f_X5_next_4 at h
  refine z_aload_n C rfl 0 rfl dX5_next_4 ?_
  refine z_geti C zc_5 dX5_next_5 3 57 rfl (by decide) (by decide) q_344 rfl ?_
  refine z_bipush C (v := 64) (by decide) dX5_next_8 ?_
  refine z_icmp_ge C 40 (by decide) dX5_next_10 (fun hc => ?_) (fun hc => ?_)
  · have h := zif_t hc h
    exact l_X5_next_40 C  I L h
  · have h := zif_f hc h
    refine z_aload_n C rfl 0 rfl dX5_next_13 ?_
    refine z_getr C zc_5 dX5_next_14 5 57 60 rfl (by decide) (by decide) q_348 rfl rfl ?_
    refine z_aload_n C rfl 0 rfl dX5_next_17 ?_
    refine z_geti C zc_5 dX5_next_18 3 57 rfl (by decide) (by decide) q_344 rfl ?_
    obtain ⟨x4, ex4, h⟩ := zlt_e h
    refine z_eqi C ex4 ?_
    obtain ⟨hb5, h⟩ := zck_e h
    refine z_laload C dX5_next_21 rfl rfl (by decide) (zbd_in hb5) ?_
    refine z_lconst C (v := 0) (by decide) dX5_next_22 ?_
    refine z_lif_ne C 40 (by decide) dX5_next_23 dX5_next_24 (fun hc => ?_) (fun hc => ?_)
    · have h := zif_f hc h
      exact l_X5_next_40 C  I L h
    · have h := zif_t hc h
      refine z_aload_n C rfl 0 rfl dX5_next_27 ?_
      refine z_dup C rfl dX5_next_28 ?_
      refine z_geti C zc_5 dX5_next_29 3 57 rfl (by decide) (by decide) q_344 rfl ?_
      refine z_iconst C (v := 1) (by decide) dX5_next_32 ?_
      refine z_iadd C dX5_next_33 ?_
      obtain ⟨x6, ex6, h⟩ := zlt_e h
      refine z_eqi C ex6 ?_
      refine z_puti C zc_5 dX5_next_34 3 57 rfl (by decide) (by decide) rfl q_344 rfl rfl rfl ?_
      obtain ⟨I7, eI7, h⟩ := zlt_e h
      refine z_eqI C eI7 ?_
      refine z_goto C 4 (by decide) dX5_next_37 ?_
      exact hk4 I7 L h
set_option maxHeartbeats 4000000 in
set_option maxRecDepth 100000 in
theorem L_X5_next_4 {r : Int32 × zI × zL} (C : zC p l e R s m args below meth c s0 a0 d cy B0 yX5_next.cls cX5_next 2 (some .boolean) bc bs bc bs 3 84 []) (I : zI) (L : zL) (h : zlp2 (f_X5_next_4) zF I L = some r) : zG p l e R s m args below meth c d cy B0 2 bc bs (zQ below s args d cy B0 bc bs (.inl (some (.int r.1))) zSH zKn bc bs r.2.1 r.2.2) 4 [(0, .ref (B0 + 57))] [] zSH zKn bc bs I L :=
 zlp2_e (fun (I : zI) (L : zL) => zG p l e R s m args below meth c d cy B0 2 bc bs (zQ below s args d cy B0 bc bs (.inl (some (.int r.1))) zSH zKn bc bs r.2.1 r.2.2) 4 [(0, .ref (B0 + 57))] [] zSH zKn bc bs I L) (fun k9 hk9 I L h => l_X5_next_4 C k9 hk9 I L h) zF I L h
set_option maxHeartbeats 4000000 in
set_option maxRecDepth 100000 in
theorem c_X5_next {r : Int32 × zI × zL} (hE : zE0 l s0 a0 d cy B0) (I : zI) (L : zL) (h : f_X5_next I L = some r) : zM l s0 d cy B0 yX5_next cX5_next 2 (some .boolean) 3 84 [.ref (B0 + 57)] zSH zKn bc bs I L (.inl (some (.int r.1))) zSH zKn bc bs r.2.1 r.2.2 := by
  refine z_meth yy_X5_next hE (Nat.le_of_ble_eq_true rfl) (fun p e R s m args below meth c C => ?_)
  show zG p l e R s m args below meth c d cy B0 2 bc bs (zQ below s args d cy B0 bc bs (.inl (some (.int r.1))) zSH zKn bc bs r.2.1 r.2.2) 0 [(0, .ref (B0 + 57))] [] zSH zKn bc bs I L
  unfold f_X5_next at h
  refine z_aload_n C rfl 0 rfl dX5_next_0 ?_
  obtain ⟨I2, L3, hg1, h⟩ := zb2_e h
  refine z_callV C zc_5 rfl (by decide) dX5_next_1 yy_X5_dropShape (c_X5_dropShape C.2.2.2.2.1  I L hg1) q_925 q_927 q_26 (by decide) (by decide) rfl rfl (Nat.le_of_ble_eq_true rfl) ⟨Nat.le_refl _, Nat.le_refl _, Nat.le_refl _, Nat.le_refl _⟩ ?_
  exact L_X5_next_4 C  I2 L3 h
theorem q_87 : (Cond.initialized "DeviceFind$Place") ∈ lw_tbl := List.mem_of_getElem? (i := 87) (by decide +kernel)
theorem q_345 : (Cond.fieldLink "DeviceFind$Place" (56 : Nat) "DeviceFind$Peeler" "low" "I") ∈ lw_tbl := List.mem_of_getElem? (i := 345) (by decide +kernel)
theorem q_405 : (Cond.fieldLink "DeviceFind$Place" (31 : Nat) "DeviceFind$Place" "peeler" "LDeviceFind$Peeler;") ∈ lw_tbl := List.mem_of_getElem? (i := 405) (by decide +kernel)
theorem q_1009 : (Cond.code ({ cls := "DeviceFind$Place", name := "lowest", desc := "()I" } : Jvm.MethodName) prog_8_method_10_code (1 : Nat) (Option.some Jvm.ClassFile.FieldType.int)) ∈ lw_tbl := List.mem_of_getElem? (i := 1009) (by decide +kernel)
theorem q_1010 : (Cond.methodLink "DeviceFind$Place" (112 : Nat) ({ cls := "java/lang/Math", name := "max", desc := "(II)I" } : Jvm.MethodName)) ∈ lw_tbl := List.mem_of_getElem? (i := 1010) (by decide +kernel)
theorem yy_X6_lowest : zY yX6_lowest cX6_lowest 1 (some .int) 0 := ⟨q_1009, q_87, by decide +kernel, by decide +kernel, by decide +kernel⟩
noncomputable def f_X6_lowest (I : zI) : Option Int32 :=
  zlt ((I 57 3) - (1 : Int32)) (fun x1 => zlt (zmx (0 : Int32) x1) (fun x2 => some x2))
set_option maxHeartbeats 4000000 in
set_option maxRecDepth 100000 in
theorem c_X6_lowest {r : Int32} (hE : zE0 l s0 a0 d cy B0) (I : zI) (L : zL) (h : f_X6_lowest I = some r) : zM l s0 d cy B0 yX6_lowest cX6_lowest 1 (some .int) 1 40 [.ref (B0 + 74)] zSH zKn bc bs I L (.inl (some (.int r))) zSH zKn bc bs I L := by
  refine z_meth yy_X6_lowest hE (Nat.le_of_ble_eq_true rfl) (fun p e R s m args below meth c C => ?_)
  show zG p l e R s m args below meth c d cy B0 1 bc bs (zQ below s args d cy B0 bc bs (.inl (some (.int r))) zSH zKn bc bs I L) 0 [(0, .ref (B0 + 74))] [] zSH zKn bc bs I L
  unfold f_X6_lowest at h
  refine z_iconst C (v := 0) (by decide) dX6_lowest_0 ?_
  refine z_aload_n C rfl 0 rfl dX6_lowest_1 ?_
  refine z_getr C zc_6 dX6_lowest_2 3 74 57 rfl (by decide) (by decide) q_405 rfl rfl ?_
  refine z_geti C zc_5 dX6_lowest_5 3 57 rfl (by decide) (by decide) q_345 rfl ?_
  refine z_iconst C (v := 1) (by decide) dX6_lowest_8 ?_
  refine z_isub C dX6_lowest_9 ?_
  obtain ⟨x1, ex1, h⟩ := zlt_e h
  refine z_eqi C ex1 ?_
  refine z_mmax C dX6_lowest_10 q_1010 q_116 q_76 q_117 (by decide) (Nat.le_of_ble_eq_true rfl) ⟨Nat.le_refl _, Nat.le_refl _⟩ ?_
  obtain ⟨x2, ex2, h⟩ := zlt_e h
  refine z_eqi C ex2 ?_
  obtain rfl := Option.some.inj h
  exact z_iret C dX6_lowest_13 .int rfl rfl rfl
theorem q_113 : (Cond.static ({ cls := "java/lang/Math", name := "min", desc := "(II)I" } : Jvm.MethodName)) ∈ lw_tbl := List.mem_of_getElem? (i := 113) (by decide +kernel)
theorem q_114 : (Cond.code ({ cls := "java/lang/Math", name := "min", desc := "(II)I" } : Jvm.MethodName) prog_20_method_69_code (2 : Nat) (Option.some Jvm.ClassFile.FieldType.int)) ∈ lw_tbl := List.mem_of_getElem? (i := 114) (by decide +kernel)
theorem q_347 : (Cond.fieldLink "DeviceFind$Place" (61 : Nat) "DeviceFind$Peeler" "high" "I") ∈ lw_tbl := List.mem_of_getElem? (i := 347) (by decide +kernel)
theorem q_1014 : (Cond.code ({ cls := "DeviceFind$Place", name := "highest", desc := "()I" } : Jvm.MethodName) prog_8_method_11_code (1 : Nat) (Option.some Jvm.ClassFile.FieldType.int)) ∈ lw_tbl := List.mem_of_getElem? (i := 1014) (by decide +kernel)
theorem q_1015 : (Cond.methodLink "DeviceFind$Place" (117 : Nat) ({ cls := "java/lang/Math", name := "min", desc := "(II)I" } : Jvm.MethodName)) ∈ lw_tbl := List.mem_of_getElem? (i := 1015) (by decide +kernel)
theorem yy_X6_highest : zY yX6_highest cX6_highest 1 (some .int) 0 := ⟨q_1014, q_87, by decide +kernel, by decide +kernel, by decide +kernel⟩
noncomputable def f_X6_highest (I : zI) : Option Int32 :=
  zlt ((I 57 4) + (1 : Int32)) (fun x1 => zlt (zmn (63 : Int32) x1) (fun x2 => some x2))
set_option maxHeartbeats 4000000 in
set_option maxRecDepth 100000 in
theorem c_X6_highest {r : Int32} (hE : zE0 l s0 a0 d cy B0) (I : zI) (L : zL) (h : f_X6_highest I = some r) : zM l s0 d cy B0 yX6_highest cX6_highest 1 (some .int) 1 40 [.ref (B0 + 74)] zSH zKn bc bs I L (.inl (some (.int r))) zSH zKn bc bs I L := by
  refine z_meth yy_X6_highest hE (Nat.le_of_ble_eq_true rfl) (fun p e R s m args below meth c C => ?_)
  show zG p l e R s m args below meth c d cy B0 1 bc bs (zQ below s args d cy B0 bc bs (.inl (some (.int r))) zSH zKn bc bs I L) 0 [(0, .ref (B0 + 74))] [] zSH zKn bc bs I L
  unfold f_X6_highest at h
  refine z_bipush C (v := 63) (by decide) dX6_highest_0 ?_
  refine z_aload_n C rfl 0 rfl dX6_highest_2 ?_
  refine z_getr C zc_6 dX6_highest_3 3 74 57 rfl (by decide) (by decide) q_405 rfl rfl ?_
  refine z_geti C zc_5 dX6_highest_6 4 57 rfl (by decide) (by decide) q_347 rfl ?_
  refine z_iconst C (v := 1) (by decide) dX6_highest_9 ?_
  refine z_iadd C dX6_highest_10 ?_
  obtain ⟨x1, ex1, h⟩ := zlt_e h
  refine z_eqi C ex1 ?_
  refine z_mmin C dX6_highest_11 q_1015 q_113 q_76 q_114 (by decide) (Nat.le_of_ble_eq_true rfl) ⟨Nat.le_refl _, Nat.le_refl _⟩ ?_
  obtain ⟨x2, ex2, h⟩ := zlt_e h
  refine z_eqi C ex2 ?_
  obtain rfl := Option.some.inj h
  exact z_iret C dX6_highest_14 .int rfl rfl rfl
end Zp05_02_walk
