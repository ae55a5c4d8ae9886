section Zp05_16_walk
variable {p : Program} {l : Launch} {e : Env} {R : Room} {s : State} {m : MethodId} {args : Array Value} {below : List Frame} {meth : Method} {c : Code} {s0 : State} {a0 : Array Value} {d : va_G} {cy : Nat → ClassId} {B0 : Nat} {bc bs : Nat}
theorem q_1419 : (Cond.code ({ cls := "DeviceFindModel", name := "is", desc := "(I)Z" } : Jvm.MethodName) prog_14_method_15_code (2 : Nat) (Option.some Jvm.ClassFile.FieldType.boolean)) ∈ lw_tbl := List.mem_of_getElem? (i := 1419) (by decide +kernel)
theorem yy_X12_is : zY yX12_is cX12_is 2 (some .boolean) 1 := ⟨q_1419, q_88, by decide +kernel, by decide +kernel, by decide +kernel⟩
noncomputable def f_X12_is_31 (w0 : Int32) (I : zI) : Option Int32 :=
  zck (zbo w0) (some w0)
noncomputable def f_X12_is_30 (I : zI) : Option Int32 :=
  f_X12_is_31 (0 : Int32) I
noncomputable def f_X12_is (a1 : Int32) (I : zI) : Option Int32 :=
  zlt ((I 97 46) + (1 : Int32)) (fun x1 => if (I 97 47) = x1 then (zlt (I 97 46) (fun x2 => zck (zbd x2 800) (if (I 117 x2.toNatClampNeg) = a1 then (f_X12_is_31 (1 : Int32) I) else (f_X12_is_30 I)))) else (f_X12_is_30 I))
set_option maxHeartbeats 4000000 in
set_option maxRecDepth 100000 in
theorem l_X12_is_31 {r : Int32} (C : zC p l e R s m args below meth c s0 a0 d cy B0 yX12_is.cls cX12_is 2 (some .boolean) bc bs bc bs 0 0 []) (L : zL) (w0 : Int32) (I : zI) (h : f_X12_is_31 w0 I = some r) : zG p l e R s m args below meth c d cy B0 2 bc bs (zQ below s args d cy B0 bc bs (.inl (some (.int r))) zSH zKn bc bs I L) 31 [] [.int w0] zSH zKn bc bs I L := by
  unfold f_X12_is_31 at h
  obtain ⟨hb4, h⟩ := zck_e h
  obtain rfl := Option.some.inj h
  exact z_iret C dX12_is_31 .boolean rfl (zbo_n hb4).1 rfl
set_option maxHeartbeats 4000000 in
set_option maxRecDepth 100000 in
theorem l_X12_is_30 {r : Int32} (C : zC p l e R s m args below meth c s0 a0 d cy B0 yX12_is.cls cX12_is 2 (some .boolean) bc bs bc bs 0 0 []) (L : zL) (I : zI) (h : f_X12_is_30 I = some r) : zG p l e R s m args below meth c d cy B0 2 bc bs (zQ below s args d cy B0 bc bs (.inl (some (.int r))) zSH zKn bc bs I L) 30 [] [] zSH zKn bc bs I L := by
  unfold f_X12_is_30 at h
  refine z_iconst C (v := 0) (by decide) dX12_is_30 ?_
  exact l_X12_is_31 C L (0 : Int32) I h
set_option maxHeartbeats 4000000 in
set_option maxRecDepth 100000 in
theorem c_X12_is {r : Int32} (hE : zE0 l s0 a0 d cy B0) (a1 : Int32) (I : zI) (L : zL) (h : f_X12_is a1 I = some r) : zM l s0 d cy B0 yX12_is cX12_is 2 (some .boolean) 0 0 [.ref (B0 + 97), .int a1] zSH zKn bc bs I L (.inl (some (.int r))) zSH zKn bc bs I L := by
  refine z_meth yy_X12_is hE (Nat.le_of_ble_eq_true rfl) (fun p e R s m args below meth c C => ?_)
  show zG p l e R s m args below meth c d cy B0 2 bc bs (zQ below s args d cy B0 bc bs (.inl (some (.int r))) zSH zKn bc bs I L) 0 [(0, .ref (B0 + 97)), (1, .int a1)] [] zSH zKn bc bs I L
  unfold f_X12_is at h
  refine z_aload_n C rfl 0 rfl dX12_is_0 ?_
  refine z_geti C zc_12 dX12_is_1 47 97 rfl (by decide) (by decide) q_1216 rfl ?_
  refine z_aload_n C rfl 0 rfl dX12_is_4 ?_
  refine z_geti C zc_12 dX12_is_5 46 97 rfl (by decide) (by decide) q_1215 rfl ?_
  refine z_iconst C (v := 1) (by decide) dX12_is_8 ?_
  refine z_iadd C dX12_is_9 ?_
  obtain ⟨x1, ex1, h⟩ := zlt_e h
  refine z_eqi C ex1 ?_
  refine z_icmp_ne C 30 (by decide) dX12_is_10 (fun hc => ?_) (fun hc => ?_)
  · have h := zif_f hc h
    refine z_lv [] (lv' := []) rfl ?_
    exact l_X12_is_30 C L I h
  · have h := zif_t hc h
    refine z_aload_n C rfl 0 rfl dX12_is_13 ?_
    refine z_getr C zc_12 dX12_is_14 28 97 117 rfl (by decide) (by decide) q_1197 rfl rfl ?_
    refine z_aload_n C rfl 0 rfl dX12_is_17 ?_
    refine z_geti C zc_12 dX12_is_18 46 97 rfl (by decide) (by decide) q_1215 rfl ?_
    obtain ⟨x2, ex2, h⟩ := zlt_e h
    refine z_eqi C ex2 ?_
    obtain ⟨hb3, h⟩ := zck_e h
    refine z_iaload C dX12_is_21 rfl rfl (by decide) (zbd_in hb3) ?_
    refine z_iload_n C rfl 1 rfl dX12_is_22 ?_
    refine z_icmp_ne C 30 (by decide) dX12_is_23 (fun hc => ?_) (fun hc => ?_)
    · have h := zif_f hc h
      refine z_lv [] (lv' := []) rfl ?_
      exact l_X12_is_30 C L I h
    · have h := zif_t hc h
      refine z_iconst C (v := 1) (by decide) dX12_is_26 ?_
      refine z_goto C 31 (by decide) dX12_is_27 ?_
      refine z_lv [] (lv' := []) rfl ?_
      exact l_X12_is_31 C L (1 : Int32) I h
theorem q_1394 : (Cond.code ({ cls := "DeviceFindModel", name := "name", desc := "()J" } : Jvm.MethodName) prog_14_method_16_code (4 : Nat) (Option.some Jvm.ClassFile.FieldType.long)) ∈ lw_tbl := List.mem_of_getElem? (i := 1394) (by decide +kernel)
theorem q_1395 : (Cond.constantLong "DeviceFindModel" (165 : Nat) (27 : Int64)) ∈ lw_tbl := List.mem_of_getElem? (i := 1395) (by decide +kernel)
theorem q_1396 : (Cond.constantLong "DeviceFindModel" (167 : Nat) (96 : Int64)) ∈ lw_tbl := List.mem_of_getElem? (i := 1396) (by decide +kernel)
theorem yy_X12_name : zY yX12_name cX12_name 4 (some .long) 0 := ⟨q_1394, q_88, by decide +kernel, by decide +kernel, by decide +kernel⟩
noncomputable def f_X12_name_40 (I : zI) : Option Int64 :=
  some (0 : Int64)
noncomputable def f_X12_name_49 (k49 : Int64 → Int32 → zI → Option Int64) (v1 : Int64) (v3 : Int32) (I : zI) : Option Int64 :=
  if (I 97 47) ≤ v3 then (some v1) else (zck (zbd v3 800) (zlt ((I 117 v3.toNatClampNeg).toInt64) (fun x8 => zlt (((27 : Int64) * v1) + x8) (fun x9 => zlt (x9 - (96 : Int64)) (fun x10 => zlt (v3 + 1) (fun x11 => k49 x10 x11 I))))))
noncomputable def f_X12_name (I : zI) : Option Int64 :=
  if (I 97 46) = (I 97 47) then (f_X12_name_40 I) else (zlt (I 97 46) (fun x1 => zck (zbd x1 800) (zb1 (f_X12_isLetter (I 117 x1.toNatClampNeg)) (fun x4 => if x4 = 0 then (f_X12_name_40 I) else (zlt ((I 97 47) - (I 97 46)) (fun x5 => if x5 ≤ (8 : Int32) then (zlt (I 97 46) (fun x6 => zlp3 (f_X12_name_49) zF (0 : Int64) x6 I)) else (f_X12_name_40 I)))))))
set_option maxHeartbeats 4000000 in
set_option maxRecDepth 100000 in
theorem l_X12_name_40 {r : Int64} (C : zC p l e R s m args below meth c s0 a0 d cy B0 yX12_name.cls cX12_name 4 (some .long) bc bs bc bs 1 20 []) (L : zL) (I : zI) (h : f_X12_name_40 I = some r) : zG p l e R s m args below meth c d cy B0 4 bc bs (zQ below s args d cy B0 bc bs (.inl (some (.long r))) zSH zKn bc bs I L) 40 [] [] zSH zKn bc bs I L := by
  unfold f_X12_name_40 at h
  refine z_lconst C (v := 0) (by decide) dX12_name_40 ?_
  obtain rfl := Option.some.inj h
  exact z_lret C dX12_name_41 rfl rfl
set_option maxHeartbeats 4000000 in
set_option maxRecDepth 100000 in
theorem l_X12_name_49 {r : Int64} (C : zC p l e R s m args below meth c s0 a0 d cy B0 yX12_name.cls cX12_name 4 (some .long) bc bs bc bs 1 20 []) (L : zL) (k49 : Int64 → Int32 → zI → Option Int64) (hk49 : ∀ (v1 : Int64) (v3 : Int32) (I : zI), k49 v1 v3 I = some r → zG p l e R s m args below meth c d cy B0 4 bc bs (zQ below s args d cy B0 bc bs (.inl (some (.long r))) zSH zKn bc bs I L) 49 [(0, .ref (B0 + 97)), (1, .long v1), (3, .int v3)] [] zSH zKn bc bs I L) (v1 : Int64) (v3 : Int32) (I : zI) (h : f_X12_name_49 k49 v1 v3 I = some r) : zG p l e R s m args below meth c d cy B0 4 bc bs (zQ below s args d cy B0 bc bs (.inl (some (.long r))) zSH zKn bc bs I L) 49 [(0, .ref (B0 + 97)), (1, .long v1), (3, .int v3)] [] zSH zKn bc bs I L := by
  unfold f_X12_name_49 at h
  refine z_iload_n C rfl 2 rfl dX12_name_49 ?_
  refine z_aload_n C rfl 0 rfl dX12_name_50 ?_
  refine z_geti C zc_12 dX12_name_51 47 97 rfl (by decide) (by decide) q_1216 rfl ?_
  refine z_icmp_ge C 81 (by decide) dX12_name_54 (fun hc => ?_) (fun hc => ?_)
  · have h := zif_t hc h
    refine z_lload_n C rfl 1 rfl dX12_name_81 ?_
    obtain rfl := Option.some.inj h
    exact z_lret C dX12_name_82 rfl rfl
  · have h := zif_f hc h
    refine z_ldc2 C dX12_name_57 q_1395 ?_
    refine z_lload_n C rfl 1 rfl dX12_name_60 ?_
    refine z_lmul C dX12_name_61 ?_
    refine z_aload_n C rfl 0 rfl dX12_name_62 ?_
    refine z_getr C zc_12 dX12_name_63 28 97 117 rfl (by decide) (by decide) q_1197 rfl rfl ?_
    refine z_iload_n C rfl 2 rfl dX12_name_66 ?_
    obtain ⟨hb7, h⟩ := zck_e h
    refine z_iaload C dX12_name_67 rfl rfl (by decide) (zbd_in hb7) ?_
    refine z_i2l C dX12_name_68 ?_
    obtain ⟨x8, ex8, h⟩ := zlt_e h
    refine z_eql C ex8 ?_
    refine z_ladd C dX12_name_69 ?_
    obtain ⟨x9, ex9, h⟩ := zlt_e h
    refine z_eql C ex9 ?_
    refine z_ldc2 C dX12_name_70 q_1396 ?_
    refine z_lsub C dX12_name_73 ?_
    obtain ⟨x10, ex10, h⟩ := zlt_e h
    refine z_eql C ex10 ?_
    refine z_lstore_n C (lv' := [(1, .long x10), (0, .ref (B0 + 97)), (3, .int v3)]) rfl (by decide) rfl dX12_name_74 ?_
    obtain ⟨x11, ex11, h⟩ := zlt_e h
    refine z_iinc C (j := 2) (v := x11) (lv' := [(3, .int x11), (1, .long x10), (0, .ref (B0 + 97))]) rfl (by rw [ex11]; rfl) (by decide) rfl dX12_name_75 ?_
    refine z_goto C 49 (by decide) dX12_name_78 ?_
    refine z_lv [2, 1, 0] (lv' := [(0, .ref (B0 + 97)), (1, .long x10), (3, .int x11)]) rfl ?_
    exact hk49 x10 x11 I h
set_option maxHeartbeats 4000000 in
set_option maxRecDepth 100000 in
theorem L_X12_name_49 {r : Int64} (C : zC p l e R s m args below meth c s0 a0 d cy B0 yX12_name.cls cX12_name 4 (some .long) bc bs bc bs 1 20 []) (L : zL) (v1 : Int64) (v3 : Int32) (I : zI) (h : zlp3 (f_X12_name_49) zF v1 v3 I = some r) : zG p l e R s m args below meth c d cy B0 4 bc bs (zQ below s args d cy B0 bc bs (.inl (some (.long r))) zSH zKn bc bs I L) 49 [(0, .ref (B0 + 97)), (1, .long v1), (3, .int v3)] [] zSH zKn bc bs I L :=
 zlp3_e (fun (v1 : Int64) (v3 : Int32) (I : zI) => zG p l e R s m args below meth c d cy B0 4 bc bs (zQ below s args d cy B0 bc bs (.inl (some (.long r))) zSH zKn bc bs I L) 49 [(0, .ref (B0 + 97)), (1, .long v1), (3, .int v3)] [] zSH zKn bc bs I L) (fun k9 hk9 v1 v3 I h => l_X12_name_49 C L k9 hk9 v1 v3 I h) zF v1 v3 I h
set_option maxHeartbeats 4000000 in
set_option maxRecDepth 100000 in
theorem c_X12_name {r : Int64} (hE : zE0 l s0 a0 d cy B0) (I : zI) (L : zL) (h : f_X12_name I = some r) : zM l s0 d cy B0 yX12_name cX12_name 4 (some .long) 1 20 [.ref (B0 + 97)] zSH zKn bc bs I L (.inl (some (.long r))) zSH zKn bc bs I L := by
  refine z_meth yy_X12_name hE (Nat.le_of_ble_eq_true rfl) (fun p e R s m args below meth c C => ?_)
  show zG p l e R s m args below meth c d cy B0 4 bc bs (zQ below s args d cy B0 bc bs (.inl (some (.long r))) zSH zKn bc bs I L) 0 [(0, .ref (B0 + 97))] [] zSH zKn bc bs I L
  unfold f_X12_name at h
  refine z_aload_n C rfl 0 rfl dX12_name_0 ?_
  refine z_geti C zc_12 dX12_name_1 46 97 rfl (by decide) (by decide) q_1215 rfl ?_
  refine z_aload_n C rfl 0 rfl dX12_name_4 ?_
  refine z_geti C zc_12 dX12_name_5 47 97 rfl (by decide) (by decide) q_1216 rfl ?_
  refine z_icmp_eq C 40 (by decide) dX12_name_8 (fun hc => ?_) (fun hc => ?_)
  · have h := zif_t hc h
    refine z_lv [] (lv' := []) rfl ?_
    exact l_X12_name_40 C L I h
  · have h := zif_f hc h
    refine z_aload_n C rfl 0 rfl dX12_name_11 ?_
    refine z_getr C zc_12 dX12_name_12 28 97 117 rfl (by decide) (by decide) q_1197 rfl rfl ?_
    refine z_aload_n C rfl 0 rfl dX12_name_15 ?_
    refine z_geti C zc_12 dX12_name_16 46 97 rfl (by decide) (by decide) q_1215 rfl ?_
    obtain ⟨x1, ex1, h⟩ := zlt_e h
    refine z_eqi C ex1 ?_
    obtain ⟨hb2, h⟩ := zck_e h
    refine z_iaload C dX12_name_19 rfl rfl (by decide) (zbd_in hb2) ?_
    obtain ⟨x4, hg3, h⟩ := zb1_e h
    refine z_callS C dX12_name_20 yy_X12_isLetter (c_X12_isLetter C.2.2.2.2.1  (I 117 x1.toNatClampNeg) I L hg3) q_1381 q_1382 (by decide) (by decide) rfl rfl (Nat.le_of_ble_eq_true rfl) ⟨Nat.le_refl _, Nat.le_refl _, Nat.le_refl _, Nat.le_refl _⟩ ?_
    refine z_if_eq C 40 (by decide) dX12_name_23 (fun hc => ?_) (fun hc => ?_)
    · have h := zif_t hc h
      refine z_lv [] (lv' := []) rfl ?_
      exact l_X12_name_40 C L I h
    · have h := zif_f hc h
      refine z_aload_n C rfl 0 rfl dX12_name_26 ?_
      refine z_geti C zc_12 dX12_name_27 47 97 rfl (by decide) (by decide) q_1216 rfl ?_
      refine z_aload_n C rfl 0 rfl dX12_name_30 ?_
      refine z_geti C zc_12 dX12_name_31 46 97 rfl (by decide) (by decide) q_1215 rfl ?_
      refine z_isub C dX12_name_34 ?_
      obtain ⟨x5, ex5, h⟩ := zlt_e h
      refine z_eqi C ex5 ?_
      refine z_bipush C (v := 8) (by decide) dX12_name_35 ?_
      refine z_icmp_le C 42 (by decide) dX12_name_37 (fun hc => ?_) (fun hc => ?_)
      · have h := zif_t hc h
        refine z_lconst C (v := 0) (by decide) dX12_name_42 ?_
        refine z_lstore_n C (lv' := [(1, .long (0 : Int64)), (0, .ref (B0 + 97))]) rfl (by decide) rfl dX12_name_43 ?_
        refine z_aload_n C rfl 1 rfl dX12_name_44 ?_
        refine z_geti C zc_12 dX12_name_45 46 97 rfl (by decide) (by decide) q_1215 rfl ?_
        obtain ⟨x6, ex6, h⟩ := zlt_e h
        refine z_eqi C ex6 ?_
        refine z_istore_n C (lv' := [(3, .int x6), (1, .long (0 : Int64)), (0, .ref (B0 + 97))]) rfl (by decide) rfl dX12_name_48 ?_
        refine z_lv [2, 1, 0] (lv' := [(0, .ref (B0 + 97)), (1, .long (0 : Int64)), (3, .int x6)]) rfl ?_
        exact L_X12_name_49 C L (0 : Int64) x6 I h
      · have h := zif_f hc h
        refine z_lv [] (lv' := []) rfl ?_
        exact l_X12_name_40 C L I h
theorem q_44 : Cond.selects "DeviceFindModel" ⟨"DeviceFindModel", "next", "()V"⟩ ⟨"DeviceFindModel", "next", "()V"⟩ ∈ lw_tbl := List.mem_of_getElem? (i := 44) (by decide +kernel)
theorem q_1218 : (Cond.fieldLink "DeviceFindModel" (169 : Nat) "DeviceFindModel" "right" "Z") ∈ lw_tbl := List.mem_of_getElem? (i := 1218) (by decide +kernel)
theorem q_1377 : (Cond.methodLink "DeviceFindModel" (172 : Nat) ({ cls := "DeviceFindModel", name := "next", desc := "()V" } : Jvm.MethodName)) ∈ lw_tbl := List.mem_of_getElem? (i := 1377) (by decide +kernel)
theorem q_1379 : (Cond.instanceMethod ({ cls := "DeviceFindModel", name := "next", desc := "()V" } : Jvm.MethodName)) ∈ lw_tbl := List.mem_of_getElem? (i := 1379) (by decide +kernel)
theorem q_1407 : (Cond.code ({ cls := "DeviceFindModel", name := "take", desc := "(Z)V" } : Jvm.MethodName) prog_14_method_17_code (2 : Nat) (Option.none : Option Jvm.ClassFile.FieldType)) ∈ lw_tbl := List.mem_of_getElem? (i := 1407) (by decide +kernel)
theorem yy_X12_take : zY yX12_take cX12_take 2 none 1 := ⟨q_1407, q_88, by decide +kernel, by decide +kernel, by decide +kernel⟩
noncomputable def f_X12_take_31 (I : zI) : Option zI :=
  some I
noncomputable def f_X12_take_17 (w1 : Int32) (I : zI) : Option zI :=
  zck (zbo w1) (zlt (zu I 97 49 w1) (fun I1 => if (I1 97 49) = 0 then (f_X12_take_31 I1) else (zb1 (f_X12_next I1) (fun I4 => f_X12_take_31 I4))))
noncomputable def f_X12_take_16 (I : zI) : Option zI :=
  f_X12_take_17 (0 : Int32) I
noncomputable def f_X12_take (a1 : Int32) (I : zI) : Option zI :=
  if (I 97 49) = 0 then (f_X12_take_16 I) else (if a1 = 0 then (f_X12_take_16 I) else (f_X12_take_17 (1 : Int32) I))
set_option maxHeartbeats 4000000 in
set_option maxRecDepth 100000 in
theorem l_X12_take_31 {r : zI} (C : zC p l e R s m args below meth c s0 a0 d cy B0 yX12_take.cls cX12_take 2 none bc bs bc bs 2 42 []) (L : zL) (I : zI) (h : f_X12_take_31 I = some r) : zG p l e R s m args below meth c d cy B0 2 bc bs (zQ below s args d cy B0 bc bs (.inl none) zSH zKn bc bs r L) 31 [] [] zSH zKn bc bs I L := by
  unfold f_X12_take_31 at h
  obtain rfl := Option.some.inj h
  exact z_vret C dX12_take_31 rfl rfl
set_option maxHeartbeats 4000000 in
set_option maxRecDepth 100000 in
theorem l_X12_take_17 {r : zI} (C : zC p l e R s m args below meth c s0 a0 d cy B0 yX12_take.cls cX12_take 2 none bc bs bc bs 2 42 []) (L : zL) (w1 : Int32) (I : zI) (h : f_X12_take_17 w1 I = some r) : zG p l e R s m args below meth c d cy B0 2 bc bs (zQ below s args d cy B0 bc bs (.inl none) zSH zKn bc bs r L) 17 [(0, .ref (B0 + 97))] [.int w1, .ref (B0 + 97)] zSH zKn bc bs I L := by
  unfold f_X12_take_17 at h
  obtain ⟨hb2, h⟩ := zck_e h
  refine z_puti C zc_12 dX12_take_17 49 97 rfl (by decide) (by decide) rfl q_1218 (zbo_n hb2).1 (zbo_n hb2).2 rfl ?_
  obtain ⟨I1, eI1, h⟩ := zlt_e h
  refine z_eqI C eI1 ?_
  refine z_aload_n C rfl 0 rfl dX12_take_20 ?_
  refine z_geti C zc_12 dX12_take_21 49 97 rfl (by decide) (by decide) q_1218 rfl ?_
  refine z_if_eq C 31 (by decide) dX12_take_24 (fun hc => ?_) (fun hc => ?_)
  · have h := zif_t hc h
    refine z_lv [] (lv' := []) rfl ?_
    exact l_X12_take_31 C L I1 h
  · have h := zif_f hc h
    refine z_aload_n C rfl 0 rfl dX12_take_27 ?_
    obtain ⟨I4, hg3, h⟩ := zb1_e h
    refine z_callV C zc_12 rfl (by decide) dX12_take_28 yy_X12_next (c_X12_next C.2.2.2.2.1  I1 L hg3) q_1377 q_1379 q_44 (by decide) (by decide) rfl rfl (Nat.le_of_ble_eq_true rfl) ⟨Nat.le_refl _, Nat.le_refl _, Nat.le_refl _, Nat.le_refl _⟩ ?_
    refine z_lv [] (lv' := []) rfl ?_
    exact l_X12_take_31 C L I4 h
set_option maxHeartbeats 4000000 in
set_option maxRecDepth 100000 in
theorem l_X12_take_16 {r : zI} (C : zC p l e R s m args below meth c s0 a0 d cy B0 yX12_take.cls cX12_take 2 none bc bs bc bs 2 42 []) (L : zL) (I : zI) (h : f_X12_take_16 I = some r) : zG p l e R s m args below meth c d cy B0 2 bc bs (zQ below s args d cy B0 bc bs (.inl none) zSH zKn bc bs r L) 16 [(0, .ref (B0 + 97))] [.ref (B0 + 97)] zSH zKn bc bs I L := by
  unfold f_X12_take_16 at h
  refine z_iconst C (v := 0) (by decide) dX12_take_16 ?_
  exact l_X12_take_17 C L (0 : Int32) I h
set_option maxHeartbeats 4000000 in
set_option maxRecDepth 100000 in
theorem c_X12_take {r : zI} (hE : zE0 l s0 a0 d cy B0) (a1 : Int32) (I : zI) (L : zL) (h : f_X12_take a1 I = some r) : zM l s0 d cy B0 yX12_take cX12_take 2 none 2 42 [.ref (B0 + 97), .int a1] zSH zKn bc bs I L (.inl none) zSH zKn bc bs r L := by
  refine z_meth yy_X12_take hE (Nat.le_of_ble_eq_true rfl) (fun p e R s m args below meth c C => ?_)
  show zG p l e R s m args below meth c d cy B0 2 bc bs (zQ below s args d cy B0 bc bs (.inl none) zSH zKn bc bs r L) 0 [(0, .ref (B0 + 97)), (1, .int a1)] [] zSH zKn bc bs I L
  unfold f_X12_take at h
  refine z_aload_n C rfl 0 rfl dX12_take_0 ?_
  refine z_aload_n C rfl 0 rfl dX12_take_1 ?_
  refine z_geti C zc_12 dX12_take_2 49 97 rfl (by decide) (by decide) q_1218 rfl ?_
  refine z_if_eq C 16 (by decide) dX12_take_5 (fun hc => ?_) (fun hc => ?_)
  · have h := zif_t hc h
    refine z_lv [0] (lv' := [(0, .ref (B0 + 97))]) rfl ?_
    exact l_X12_take_16 C L I h
  · have h := zif_f hc h
    refine z_iload_n C rfl 1 rfl dX12_take_8 ?_
    refine z_if_eq C 16 (by decide) dX12_take_9 (fun hc => ?_) (fun hc => ?_)
    · have h := zif_t hc h
      refine z_lv [0] (lv' := [(0, .ref (B0 + 97))]) rfl ?_
      exact l_X12_take_16 C L I h
    · have h := zif_f hc h
      refine z_iconst C (v := 1) (by decide) dX12_take_12 ?_
      refine z_goto C 17 (by decide) dX12_take_13 ?_
      refine z_lv [0] (lv' := [(0, .ref (B0 + 97))]) rfl ?_
      exact l_X12_take_17 C L (1 : Int32) I h
theorem q_1399 : (Cond.code ({ cls := "DeviceFindModel", name := "word", desc := "(IIIII)J" } : Jvm.MethodName) prog_14_method_18_code (7 : Nat) (Option.some Jvm.ClassFile.FieldType.long)) ∈ lw_tbl := List.mem_of_getElem? (i := 1399) (by decide +kernel)
theorem yy_X12_word : zY yX12_word cX12_word 7 (some .long) 5 := ⟨q_1399, q_88, by decide +kernel, by decide +kernel, by decide +kernel⟩
noncomputable def f_X12_word_95 (w0 : Int64) : Option Int64 :=
  some w0
noncomputable def f_X12_word_69 (v4 : Int32) (w0 : Int64) : Option Int64 :=
  if v4 ≤ 0 then (f_X12_word_95 w0) else (zlt (((27 : Int64) * w0) + v4.toInt64) (fun x6 => f_X12_word_95 (x6 - (96 : Int64))))
noncomputable def f_X12_word_45 (v3 : Int32) (v4 : Int32) (w0 : Int64) : Option Int64 :=
  if v3 ≤ 0 then (f_X12_word_69 v4 w0) else (zlt (((27 : Int64) * w0) + v3.toInt64) (fun x5 => f_X12_word_69 v4 (x5 - (96 : Int64))))
noncomputable def f_X12_word (a0 : Int32) (a1 : Int32) (a2 : Int32) (a3 : Int32) (a4 : Int32) : Option Int64 :=
  zlt (a0.toInt64 - (96 : Int64)) (fun x1 => zlt (((27 : Int64) * x1) + a1.toInt64) (fun x2 => zlt (x2 - (96 : Int64)) (fun x3 => if a2 ≤ 0 then (f_X12_word_45 a3 a4 x3) else (zlt (((27 : Int64) * x3) + a2.toInt64) (fun x4 => f_X12_word_45 a3 a4 (x4 - (96 : Int64)))))))
set_option maxHeartbeats 4000000 in
set_option maxRecDepth 100000 in
theorem l_X12_word_95 {r : Int64} (C : zC p l e R s m args below meth c s0 a0 d cy B0 yX12_word.cls cX12_word 7 (some .long) bc bs bc bs 0 0 []) (I : zI) (L : zL) (w0 : Int64) (h : f_X12_word_95 w0 = some r) : zG p l e R s m args below meth c d cy B0 7 bc bs (zQ below s args d cy B0 bc bs (.inl (some (.long r))) zSH zKn bc bs I L) 95 [] [.long w0] zSH zKn bc bs I L := by
  unfold f_X12_word_95 at h
  obtain rfl := Option.some.inj h
  exact z_lret C dX12_word_95 rfl rfl
set_option maxHeartbeats 4000000 in
set_option maxRecDepth 100000 in
theorem l_X12_word_69 {r : Int64} (C : zC p l e R s m args below meth c s0 a0 d cy B0 yX12_word.cls cX12_word 7 (some .long) bc bs bc bs 0 0 []) (I : zI) (L : zL) (v4 : Int32) (w0 : Int64) (h : f_X12_word_69 v4 w0 = some r) : zG p l e R s m args below meth c d cy B0 7 bc bs (zQ below s args d cy B0 bc bs (.inl (some (.long r))) zSH zKn bc bs I L) 69 [(4, .int v4)] [.long w0] zSH zKn bc bs I L := by
  unfold f_X12_word_69 at h
  refine z_lstore C (lv' := [(5, .long w0), (4, .int v4)]) (by decide) rfl dX12_word_69 ?_
  refine z_iload C 1 rfl dX12_word_71 ?_
  refine z_if_le C 93 (by decide) dX12_word_73 (fun hc => ?_) (fun hc => ?_)
  · have h := zif_t hc h
    refine z_lload C 0 rfl dX12_word_93 ?_
    refine z_lv [] (lv' := []) rfl ?_
    exact l_X12_word_95 C I L w0 h
  · have h := zif_f hc h
    refine z_ldc2 C dX12_word_76 q_1395 ?_
    refine z_lload C 0 rfl dX12_word_79 ?_
    refine z_lmul C dX12_word_81 ?_
    refine z_iload C 1 rfl dX12_word_82 ?_
    refine z_i2l C dX12_word_84 ?_
    refine z_ladd C dX12_word_85 ?_
    obtain ⟨x6, ex6, h⟩ := zlt_e h
    refine z_eql C ex6 ?_
    refine z_ldc2 C dX12_word_86 q_1396 ?_
    refine z_lsub C dX12_word_89 ?_
    refine z_goto C 95 (by decide) dX12_word_90 ?_
    refine z_lv [] (lv' := []) rfl ?_
    exact l_X12_word_95 C I L (x6 - (96 : Int64)) h
set_option maxHeartbeats 4000000 in
set_option maxRecDepth 100000 in
theorem l_X12_word_45 {r : Int64} (C : zC p l e R s m args below meth c s0 a0 d cy B0 yX12_word.cls cX12_word 7 (some .long) bc bs bc bs 0 0 []) (I : zI) (L : zL) (v3 : Int32) (v4 : Int32) (w0 : Int64) (h : f_X12_word_45 v3 v4 w0 = some r) : zG p l e R s m args below meth c d cy B0 7 bc bs (zQ below s args d cy B0 bc bs (.inl (some (.long r))) zSH zKn bc bs I L) 45 [(3, .int v3), (4, .int v4)] [.long w0] zSH zKn bc bs I L := by
  unfold f_X12_word_45 at h
  refine z_lstore C (lv' := [(5, .long w0), (3, .int v3), (4, .int v4)]) (by decide) rfl dX12_word_45 ?_
  refine z_iload_n C rfl 1 rfl dX12_word_47 ?_
  refine z_if_le C 67 (by decide) dX12_word_48 (fun hc => ?_) (fun hc => ?_)
  · have h := zif_t hc h
    refine z_lload C 0 rfl dX12_word_67 ?_
    refine z_lv [2] (lv' := [(4, .int v4)]) rfl ?_
    exact l_X12_word_69 C I L v4 w0 h
  · have h := zif_f hc h
    refine z_ldc2 C dX12_word_51 q_1395 ?_
    refine z_lload C 0 rfl dX12_word_54 ?_
    refine z_lmul C dX12_word_56 ?_
    refine z_iload_n C rfl 1 rfl dX12_word_57 ?_
    refine z_i2l C dX12_word_58 ?_
    refine z_ladd C dX12_word_59 ?_
    obtain ⟨x5, ex5, h⟩ := zlt_e h
    refine z_eql C ex5 ?_
    refine z_ldc2 C dX12_word_60 q_1396 ?_
    refine z_lsub C dX12_word_63 ?_
    refine z_goto C 69 (by decide) dX12_word_64 ?_
    refine z_lv [2] (lv' := [(4, .int v4)]) rfl ?_
    exact l_X12_word_69 C I L v4 (x5 - (96 : Int64)) h
set_option maxHeartbeats 4000000 in
set_option maxRecDepth 100000 in
theorem c_X12_word {r : Int64} (hE : zE0 l s0 a0 d cy B0) (a0 : Int32) (a1 : Int32) (a2 : Int32) (a3 : Int32) (a4 : Int32) (I : zI) (L : zL) (h : f_X12_word a0 a1 a2 a3 a4 = some r) : zM l s0 d cy B0 yX12_word cX12_word 7 (some .long) 0 0 [.int a0, .int a1, .int a2, .int a3, .int a4] zSH zKn bc bs I L (.inl (some (.long r))) zSH zKn bc bs I L := by
  refine z_meth yy_X12_word hE (Nat.le_of_ble_eq_true rfl) (fun p e R s m args below meth c C => ?_)
  show zG p l e R s m args below meth c d cy B0 7 bc bs (zQ below s args d cy B0 bc bs (.inl (some (.long r))) zSH zKn bc bs I L) 0 [(0, .int a0), (1, .int a1), (2, .int a2), (3, .int a3), (4, .int a4)] [] zSH zKn bc bs I L
  unfold f_X12_word at h
  refine z_iload_n C rfl 0 rfl dX12_word_0 ?_
  refine z_i2l C dX12_word_1 ?_
  refine z_ldc2 C dX12_word_2 q_1396 ?_
  refine z_lsub C dX12_word_5 ?_
  obtain ⟨x1, ex1, h⟩ := zlt_e h
  refine z_eql C ex1 ?_
  refine z_lstore C (lv' := [(5, .long x1), (0, .int a0), (1, .int a1), (2, .int a2), (3, .int a3), (4, .int a4)]) (by decide) rfl dX12_word_6 ?_
  refine z_ldc2 C dX12_word_8 q_1395 ?_
  refine z_lload C 0 rfl dX12_word_11 ?_
  refine z_lmul C dX12_word_13 ?_
  refine z_iload_n C rfl 2 rfl dX12_word_14 ?_
  refine z_i2l C dX12_word_15 ?_
  refine z_ladd C dX12_word_16 ?_
  obtain ⟨x2, ex2, h⟩ := zlt_e h
  refine z_eql C ex2 ?_
  refine z_ldc2 C dX12_word_17 q_1396 ?_
  refine z_lsub C dX12_word_20 ?_
  obtain ⟨x3, ex3, h⟩ := zlt_e h
  refine z_eql C ex3 ?_
  refine z_lstore C (lv' := [(5, .long x3), (0, .int a0), (1, .int a1), (2, .int a2), (3, .int a3), (4, .int a4)]) (by decide) rfl dX12_word_21 ?_
  refine z_iload_n C rfl 3 rfl dX12_word_23 ?_
  refine z_if_le C 43 (by decide) dX12_word_24 (fun hc => ?_) (fun hc => ?_)
  · have h := zif_t hc h
    refine z_lload C 0 rfl dX12_word_43 ?_
    refine z_lv [4, 5] (lv' := [(3, .int a3), (4, .int a4)]) rfl ?_
    exact l_X12_word_45 C I L a3 a4 x3 h
  · have h := zif_f hc h
    refine z_ldc2 C dX12_word_27 q_1395 ?_
    refine z_lload C 0 rfl dX12_word_30 ?_
    refine z_lmul C dX12_word_32 ?_
    refine z_iload_n C rfl 3 rfl dX12_word_33 ?_
    refine z_i2l C dX12_word_34 ?_
    refine z_ladd C dX12_word_35 ?_
    obtain ⟨x4, ex4, h⟩ := zlt_e h
    refine z_eql C ex4 ?_
    refine z_ldc2 C dX12_word_36 q_1396 ?_
    refine z_lsub C dX12_word_39 ?_
    refine z_goto C 45 (by decide) dX12_word_40 ?_
    refine z_lv [4, 5] (lv' := [(3, .int a3), (4, .int a4)]) rfl ?_
    exact l_X12_word_45 C I L a3 a4 (x4 - (96 : Int64)) h
theorem q_46 : Cond.selects "DeviceFindModel" ⟨"DeviceFindModel", "name", "()J"⟩ ⟨"DeviceFindModel", "name", "()J"⟩ ∈ lw_tbl := List.mem_of_getElem? (i := 46) (by decide +kernel)
theorem q_1185 : (Cond.fieldLink "DeviceFindModel" (31 : Nat) "DeviceFindModel" "names" "[J") ∈ lw_tbl := List.mem_of_getElem? (i := 1185) (by decide +kernel)
theorem q_1219 : (Cond.fieldLink "DeviceFindModel" (179 : Nat) "DeviceFindModel" "newLayers" "I") ∈ lw_tbl := List.mem_of_getElem? (i := 1219) (by decide +kernel)
theorem q_1391 : (Cond.methodLink "DeviceFindModel" (175 : Nat) ({ cls := "DeviceFindModel", name := "name", desc := "()J" } : Jvm.MethodName)) ∈ lw_tbl := List.mem_of_getElem? (i := 1391) (by decide +kernel)
theorem q_1393 : (Cond.instanceMethod ({ cls := "DeviceFindModel", name := "name", desc := "()J" } : Jvm.MethodName)) ∈ lw_tbl := List.mem_of_getElem? (i := 1393) (by decide +kernel)
theorem q_1415 : (Cond.code ({ cls := "DeviceFindModel", name := "layerAt", desc := "()I" } : Jvm.MethodName) prog_14_method_19_code (5 : Nat) (Option.some Jvm.ClassFile.FieldType.int)) ∈ lw_tbl := List.mem_of_getElem? (i := 1415) (by decide +kernel)
theorem yy_X12_layerAt : zY yX12_layerAt cX12_layerAt 5 (some .int) 0 := ⟨q_1415, q_88, by decide +kernel, by decide +kernel, by decide +kernel⟩
noncomputable def f_X12_layerAt_46 (k10 : Int64 → Int32 → Int32 → zI → zL → Option Int32) (v1 : Int64) (v4 : Int32) (w0 : Int32) (I : zI) (L : zL) : Option Int32 :=
  zlt (v4 + 1) (fun x5 => k10 v1 w0 x5 I L)
noncomputable def f_X12_layerAt_53 (v3 : Int32) (I : zI) (L : zL) : Option Int32 :=
  some v3
noncomputable def f_X12_layerAt_10 (k10 : Int64 → Int32 → Int32 → zI → zL → Option Int32) (v1 : Int64) (v3 : Int32) (v4 : Int32) (I : zI) (L : zL) : Option Int32 :=
  if (I 97 50) ≤ v4 then (f_X12_layerAt_53 v3 I L) else (if v1 ≤ (0 : Int64) then (f_X12_layerAt_53 v3 I L) else (zlt ((24 : Int32) + v4) (fun x3 => zck (zbd x3 48) (if (L 105 x3.toNatClampNeg) = v1 then (f_X12_layerAt_46 k10 v1 v4 v4 I L) else (f_X12_layerAt_46 k10 v1 v4 v3 I L)))))
noncomputable def f_X12_layerAt (I : zI) (L : zL) : Option Int32 :=
  zb1 (f_X12_name I) (fun x2 => zlp5 (f_X12_layerAt_10) zF x2 (-1 : Int32) (0 : Int32) I L)
set_option maxHeartbeats 4000000 in
set_option maxRecDepth 100000 in
theorem l_X12_layerAt_46 {r : Int32} (C : zC p l e R s m args below meth c s0 a0 d cy B0 yX12_layerAt.cls cX12_layerAt 5 (some .int) bc bs bc bs 2 43 []) (k10 : Int64 → Int32 → Int32 → zI → zL → Option Int32) (hk10 : ∀ (v1 : Int64) (v3 : Int32) (v4 : Int32) (I : zI) (L : zL), k10 v1 v3 v4 I L = some r → zG p l e R s m args below meth c d cy B0 5 bc bs (zQ below s args d cy B0 bc bs (.inl (some (.int r))) zSH zKn bc bs I L) 10 [(0, .ref (B0 + 97)), (1, .long v1), (3, .int v3), (4, .int v4)] [] zSH zKn bc bs I L) (v1 : Int64) (v4 : Int32) (w0 : Int32) (I : zI) (L : zL) (h : f_X12_layerAt_46 k10 v1 v4 w0 I L = some r) : zG p l e R s m args below meth c d cy B0 5 bc bs (zQ below s args d cy B0 bc bs (.inl (some (.int r))) zSH zKn bc bs I L) 46 [(0, .ref (B0 + 97)), (1, .long v1), (4, .int v4)] [.int w0] zSH zKn bc bs I L := by
  unfold f_X12_layerAt_46 at h
  refine z_istore_n C (lv' := [(3, .int w0), (0, .ref (B0 + 97)), (1, .long v1), (4, .int v4)]) rfl (by decide) rfl dX12_layerAt_46 ?_
  obtain ⟨x5, ex5, h⟩ := zlt_e h
  refine z_iinc C (j := 3) (v := x5) (lv' := [(4, .int x5), (3, .int w0), (0, .ref (B0 + 97)), (1, .long v1)]) rfl (by rw [ex5]; rfl) (by decide) rfl dX12_layerAt_47 ?_
  refine z_goto C 10 (by decide) dX12_layerAt_50 ?_
  refine z_lv [2, 3, 1, 0] (lv' := [(0, .ref (B0 + 97)), (1, .long v1), (3, .int w0), (4, .int x5)]) rfl ?_
  exact hk10 v1 w0 x5 I L h
set_option maxHeartbeats 4000000 in
set_option maxRecDepth 100000 in
theorem l_X12_layerAt_53 {r : Int32} (C : zC p l e R s m args below meth c s0 a0 d cy B0 yX12_layerAt.cls cX12_layerAt 5 (some .int) bc bs bc bs 2 43 []) (v3 : Int32) (I : zI) (L : zL) (h : f_X12_layerAt_53 v3 I L = some r) : zG p l e R s m args below meth c d cy B0 5 bc bs (zQ below s args d cy B0 bc bs (.inl (some (.int r))) zSH zKn bc bs I L) 53 [(3, .int v3)] [] zSH zKn bc bs I L := by
  unfold f_X12_layerAt_53 at h
  refine z_iload_n C rfl 0 rfl dX12_layerAt_53 ?_
  obtain rfl := Option.some.inj h
  exact z_iret C dX12_layerAt_54 .int rfl rfl rfl
set_option maxHeartbeats 4000000 in
set_option maxRecDepth 100000 in
theorem l_X12_layerAt_10 {r : Int32} (C : zC p l e R s m args below meth c s0 a0 d cy B0 yX12_layerAt.cls cX12_layerAt 5 (some .int) bc bs bc bs 2 43 []) (k10 : Int64 → Int32 → Int32 → zI → zL → Option Int32) (hk10 : ∀ (v1 : Int64) (v3 : Int32) (v4 : Int32) (I : zI) (L : zL), k10 v1 v3 v4 I L = some r → zG p l e R s m args below meth c d cy B0 5 bc bs (zQ below s args d cy B0 bc bs (.inl (some (.int r))) zSH zKn bc bs I L) 10 [(0, .ref (B0 + 97)), (1, .long v1), (3, .int v3), (4, .int v4)] [] zSH zKn bc bs I L) (v1 : Int64) (v3 : Int32) (v4 : Int32) (I : zI) (L : zL) (h : f_X12_layerAt_10 k10 v1 v3 v4 I L = some r) : zG p l e R s m args below meth c d cy B0 5 bc bs (zQ below s args d cy B0 bc bs (.inl (some (.int r))) zSH zKn bc bs I L) 10 [(0, .ref (B0 + 97)), (1, .long v1), (3, .int v3), (4, .int v4)] [] zSH zKn bc bs I L := by
  unfold f_X12_layerAt_10 at h
  refine z_iload C 3 rfl dX12_layerAt_10 ?_
  refine z_aload_n C rfl 0 rfl dX12_layerAt_12 ?_
  refine z_geti C zc_12 dX12_layerAt_13 50 97 rfl (by decide) (by decide) q_1219 rfl ?_
  refine z_icmp_ge C 53 (by decide) dX12_layerAt_16 (fun hc => ?_) (fun hc => ?_)
  · have h := zif_t hc h
    refine z_lv [2] (lv' := [(3, .int v3)]) rfl ?_
    exact l_X12_layerAt_53 C  v3 I L h
  · have h := zif_f hc h
    refine z_lload_n C rfl 1 rfl dX12_layerAt_19 ?_
    refine z_lconst C (v := 0) (by decide) dX12_layerAt_20 ?_
    refine z_lif_le C 53 (by decide) dX12_layerAt_21 dX12_layerAt_22 (fun hc => ?_) (fun hc => ?_)
    · have h := zif_t hc h
      refine z_lv [2] (lv' := [(3, .int v3)]) rfl ?_
      exact l_X12_layerAt_53 C  v3 I L h
    · have h := zif_f hc h
      refine z_aload_n C rfl 0 rfl dX12_layerAt_25 ?_
      refine z_getr C zc_12 dX12_layerAt_26 16 97 105 rfl (by decide) (by decide) q_1185 rfl rfl ?_
      refine z_bipush C (v := 24) (by decide) dX12_layerAt_29 ?_
      refine z_iload C 3 rfl dX12_layerAt_31 ?_
      refine z_iadd C dX12_layerAt_33 ?_
      obtain ⟨x3, ex3, h⟩ := zlt_e h
      refine z_eqi C ex3 ?_
      obtain ⟨hb4, h⟩ := zck_e h
      refine z_laload C dX12_layerAt_34 rfl rfl (by decide) (zbd_in hb4) ?_
      refine z_lload_n C rfl 1 rfl dX12_layerAt_35 ?_
      refine z_lif_ne C 45 (by decide) dX12_layerAt_36 dX12_layerAt_37 (fun hc => ?_) (fun hc => ?_)
      · have h := zif_f hc h
        refine z_iload_n C rfl 2 rfl dX12_layerAt_45 ?_
        refine z_lv [0, 1, 3] (lv' := [(0, .ref (B0 + 97)), (1, .long v1), (4, .int v4)]) rfl ?_
        exact l_X12_layerAt_46 C k10 hk10 v1 v4 v3 I L h
      · have h := zif_t hc h
        refine z_iload C 3 rfl dX12_layerAt_40 ?_
        refine z_goto C 46 (by decide) dX12_layerAt_42 ?_
        refine z_lv [0, 1, 3] (lv' := [(0, .ref (B0 + 97)), (1, .long v1), (4, .int v4)]) rfl ?_
        exact l_X12_layerAt_46 C k10 hk10 v1 v4 v4 I L h
set_option maxHeartbeats 4000000 in
set_option maxRecDepth 100000 in
theorem L_X12_layerAt_10 {r : Int32} (C : zC p l e R s m args below meth c s0 a0 d cy B0 yX12_layerAt.cls cX12_layerAt 5 (some .int) bc bs bc bs 2 43 []) (v1 : Int64) (v3 : Int32) (v4 : Int32) (I : zI) (L : zL) (h : zlp5 (f_X12_layerAt_10) zF v1 v3 v4 I L = some r) : zG p l e R s m args below meth c d cy B0 5 bc bs (zQ below s args d cy B0 bc bs (.inl (some (.int r))) zSH zKn bc bs I L) 10 [(0, .ref (B0 + 97)), (1, .long v1), (3, .int v3), (4, .int v4)] [] zSH zKn bc bs I L :=
 zlp5_e (fun (v1 : Int64) (v3 : Int32) (v4 : Int32) (I : zI) (L : zL) => zG p l e R s m args below meth c d cy B0 5 bc bs (zQ below s args d cy B0 bc bs (.inl (some (.int r))) zSH zKn bc bs I L) 10 [(0, .ref (B0 + 97)), (1, .long v1), (3, .int v3), (4, .int v4)] [] zSH zKn bc bs I L) (fun k9 hk9 v1 v3 v4 I L h => l_X12_layerAt_10 C k9 hk9 v1 v3 v4 I L h) zF v1 v3 v4 I L h
set_option maxHeartbeats 4000000 in
set_option maxRecDepth 100000 in
theorem c_X12_layerAt {r : Int32} (hE : zE0 l s0 a0 d cy B0) (I : zI) (L : zL) (h : f_X12_layerAt I L = some r) : zM l s0 d cy B0 yX12_layerAt cX12_layerAt 5 (some .int) 2 43 [.ref (B0 + 97)] zSH zKn bc bs I L (.inl (some (.int r))) zSH zKn bc bs I L := by
  refine z_meth yy_X12_layerAt hE (Nat.le_of_ble_eq_true rfl) (fun p e R s m args below meth c C => ?_)
  show zG p l e R s m args below meth c d cy B0 5 bc bs (zQ below s args d cy B0 bc bs (.inl (some (.int r))) zSH zKn bc bs I L) 0 [(0, .ref (B0 + 97))] [] zSH zKn bc bs I L
  unfold f_X12_layerAt at h
  refine z_aload_n C rfl 0 rfl dX12_layerAt_0 ?_
  obtain ⟨x2, hg1, h⟩ := zb1_e h
  refine z_callV C zc_12 rfl (by decide) dX12_layerAt_1 yy_X12_name (c_X12_name C.2.2.2.2.1  I L hg1) q_1391 q_1393 q_46 (by decide) (by decide) rfl rfl (Nat.le_of_ble_eq_true rfl) ⟨Nat.le_refl _, Nat.le_refl _, Nat.le_refl _, Nat.le_refl _⟩ ?_
  refine z_lstore_n C (lv' := [(1, .long x2), (0, .ref (B0 + 97))]) rfl (by decide) rfl dX12_layerAt_4 ?_
  refine z_iconst C (v := -1) (by decide) dX12_layerAt_5 ?_
  refine z_istore_n C (lv' := [(3, .int (-1 : Int32)), (1, .long x2), (0, .ref (B0 + 97))]) rfl (by decide) rfl dX12_layerAt_6 ?_
  refine z_iconst C (v := 0) (by decide) dX12_layerAt_7 ?_
  refine z_istore C (lv' := [(4, .int (0 : Int32)), (3, .int (-1 : Int32)), (1, .long x2), (0, .ref (B0 + 97))]) (by decide) rfl dX12_layerAt_8 ?_
  refine z_lv [3, 2, 1, 0] (lv' := [(0, .ref (B0 + 97)), (1, .long x2), (3, .int (-1 : Int32)), (4, .int (0 : Int32))]) rfl ?_
  exact L_X12_layerAt_10 C  x2 (-1 : Int32) (0 : Int32) I L h
theorem q_48 : Cond.selects "DeviceFindModel" ⟨"DeviceFindModel", "take", "(Z)V"⟩ ⟨"DeviceFindModel", "take", "(Z)V"⟩ ∈ lw_tbl := List.mem_of_getElem? (i := 48) (by decide +kernel)
theorem q_50 : Cond.selects "DeviceFindModel" ⟨"DeviceFindModel", "layerAt", "()I"⟩ ⟨"DeviceFindModel", "layerAt", "()I"⟩ ∈ lw_tbl := List.mem_of_getElem? (i := 50) (by decide +kernel)
theorem q_1404 : (Cond.methodLink "DeviceFindModel" (186 : Nat) ({ cls := "DeviceFindModel", name := "take", desc := "(Z)V" } : Jvm.MethodName)) ∈ lw_tbl := List.mem_of_getElem? (i := 1404) (by decide +kernel)
theorem q_1406 : (Cond.instanceMethod ({ cls := "DeviceFindModel", name := "take", desc := "(Z)V" } : Jvm.MethodName)) ∈ lw_tbl := List.mem_of_getElem? (i := 1406) (by decide +kernel)
theorem q_1412 : (Cond.methodLink "DeviceFindModel" (182 : Nat) ({ cls := "DeviceFindModel", name := "layerAt", desc := "()I" } : Jvm.MethodName)) ∈ lw_tbl := List.mem_of_getElem? (i := 1412) (by decide +kernel)
theorem q_1414 : (Cond.instanceMethod ({ cls := "DeviceFindModel", name := "layerAt", desc := "()I" } : Jvm.MethodName)) ∈ lw_tbl := List.mem_of_getElem? (i := 1414) (by decide +kernel)
theorem q_1427 : (Cond.code ({ cls := "DeviceFindModel", name := "takeLayer", desc := "()I" } : Jvm.MethodName) prog_14_method_20_code (2 : Nat) (Option.some Jvm.ClassFile.FieldType.int)) ∈ lw_tbl := List.mem_of_getElem? (i := 1427) (by decide +kernel)
theorem yy_X12_takeLayer : zY yX12_takeLayer cX12_takeLayer 2 (some .int) 0 := ⟨q_1427, q_88, by decide +kernel, by decide +kernel, by decide +kernel⟩
noncomputable def f_X12_takeLayer_16 (v1 : Int32) (w1 : Int32) (I : zI) (L : zL) : Option (Int32 × zI) :=
  zb1 (f_X12_take w1 I) (fun I4 => some (v1, I4))
noncomputable def f_X12_takeLayer (I : zI) (L : zL) : Option (Int32 × zI) :=
  zb1 (f_X12_layerAt I L) (fun x2 => if x2 = (-1 : Int32) then (f_X12_takeLayer_16 x2 (0 : Int32) I L) else (f_X12_takeLayer_16 x2 (1 : Int32) I L))
set_option maxHeartbeats 4000000 in
set_option maxRecDepth 100000 in
theorem l_X12_takeLayer_16 {r : Int32 × zI} (C : zC p l e R s m args below meth c s0 a0 d cy B0 yX12_takeLayer.cls cX12_takeLayer 2 (some .int) bc bs bc bs 3 67 []) (v1 : Int32) (w1 : Int32) (I : zI) (L : zL) (h : f_X12_takeLayer_16 v1 w1 I L = some r) : zG p l e R s m args below meth c d cy B0 2 bc bs (zQ below s args d cy B0 bc bs (.inl (some (.int r.1))) zSH zKn bc bs r.2 L) 16 [(1, .int v1)] [.int w1, .ref (B0 + 97)] zSH zKn bc bs I L := by
  unfold f_X12_takeLayer_16 at h
  obtain ⟨I4, hg3, h⟩ := zb1_e h
  refine z_callV C zc_12 rfl (by decide) dX12_takeLayer_16 yy_X12_take (c_X12_take C.2.2.2.2.1  w1 I L hg3) q_1404 q_1406 q_48 (by decide) (by decide) rfl rfl (Nat.le_of_ble_eq_true rfl) ⟨Nat.le_refl _, Nat.le_refl _, Nat.le_refl _, Nat.le_refl _⟩ ?_
  refine z_iload_n C rfl 0 rfl dX12_takeLayer_19 ?_
  obtain rfl := Option.some.inj h
  exact z_iret C dX12_takeLayer_20 .int rfl rfl rfl
set_option maxHeartbeats 4000000 in
set_option maxRecDepth 100000 in
theorem c_X12_takeLayer {r : Int32 × zI} (hE : zE0 l s0 a0 d cy B0) (I : zI) (L : zL) (h : f_X12_takeLayer I L = some r) : zM l s0 d cy B0 yX12_takeLayer cX12_takeLayer 2 (some .int) 3 67 [.ref (B0 + 97)] zSH zKn bc bs I L (.inl (some (.int r.1))) zSH zKn bc bs r.2 L := by
  refine z_meth yy_X12_takeLayer hE (Nat.le_of_ble_eq_true rfl) (fun p e R s m args below meth c C => ?_)
  show zG p l e R s m args below meth c d cy B0 2 bc bs (zQ below s args d cy B0 bc bs (.inl (some (.int r.1))) zSH zKn bc bs r.2 L) 0 [(0, .ref (B0 + 97))] [] zSH zKn bc bs I L
  unfold f_X12_takeLayer at h
  refine z_aload_n C rfl 0 rfl dX12_takeLayer_0 ?_
  obtain ⟨x2, hg1, h⟩ := zb1_e h
  refine z_callV C zc_12 rfl (by decide) dX12_takeLayer_1 yy_X12_layerAt (c_X12_layerAt C.2.2.2.2.1  I L hg1) q_1412 q_1414 q_50 (by decide) (by decide) rfl rfl (Nat.le_of_ble_eq_true rfl) ⟨Nat.le_refl _, Nat.le_refl _, Nat.le_refl _, Nat.le_refl _⟩ ?_
  refine z_istore_n C (lv' := [(1, .int x2), (0, .ref (B0 + 97))]) rfl (by decide) rfl dX12_takeLayer_4 ?_
  refine z_aload_n C rfl 1 rfl dX12_takeLayer_5 ?_
  refine z_iload_n C rfl 0 rfl dX12_takeLayer_6 ?_
  refine z_iconst C (v := -1) (by decide) dX12_takeLayer_7 ?_
  refine z_icmp_eq C 15 (by decide) dX12_takeLayer_8 (fun hc => ?_) (fun hc => ?_)
  · have h := zif_t hc h
    refine z_iconst C (v := 0) (by decide) dX12_takeLayer_15 ?_
    refine z_lv [0] (lv' := [(1, .int x2)]) rfl ?_
    exact l_X12_takeLayer_16 C  x2 (0 : Int32) I L h
  · have h := zif_f hc h
    refine z_iconst C (v := 1) (by decide) dX12_takeLayer_11 ?_
    refine z_goto C 16 (by decide) dX12_takeLayer_12 ?_
    refine z_lv [0] (lv' := [(1, .int x2)]) rfl ?_
    exact l_X12_takeLayer_16 C  x2 (1 : Int32) I L h
theorem q_1189 : (Cond.fieldLink "DeviceFindModel" (44 : Nat) "DeviceFindModel" "wireOf" "[I") ∈ lw_tbl := List.mem_of_getElem? (i := 1189) (by decide +kernel)
theorem q_1220 : (Cond.fieldLink "DeviceFindModel" (190 : Nat) "DeviceFindModel" "newWires" "I") ∈ lw_tbl := List.mem_of_getElem? (i := 1220) (by decide +kernel)
theorem q_1439 : (Cond.code ({ cls := "DeviceFindModel", name := "takeWire", desc := "()I" } : Jvm.MethodName) prog_14_method_21_code (4 : Nat) (Option.some Jvm.ClassFile.FieldType.int)) ∈ lw_tbl := List.mem_of_getElem? (i := 1439) (by decide +kernel)
theorem yy_X12_takeWire : zY yX12_takeWire cX12_takeWire 4 (some .int) 0 := ⟨q_1439, q_88, by decide +kernel, by decide +kernel, by decide +kernel⟩
noncomputable def f_X12_takeWire_40 (k9 : Int32 → Int32 → Int32 → zI → zL → Option (Int32 × zI)) (v1 : Int32) (v3 : Int32) (w0 : Int32) (I : zI) (L : zL) : Option (Int32 × zI) :=
  zlt (v3 + 1) (fun x7 => k9 v1 w0 x7 I L)
noncomputable def f_X12_takeWire_39 (k9 : Int32 → Int32 → Int32 → zI → zL → Option (Int32 × zI)) (v1 : Int32) (v2 : Int32) (v3 : Int32) (I : zI) (L : zL) : Option (Int32 × zI) :=
  f_X12_takeWire_40 k9 v1 v3 v2 I L
noncomputable def f_X12_takeWire_58 (v2 : Int32) (w1 : Int32) (I : zI) (L : zL) : Option (Int32 × zI) :=
  zb1 (f_X12_take w1 I) (fun I6 => some (v2, I6))
noncomputable def f_X12_takeWire_9 (k9 : Int32 → Int32 → Int32 → zI → zL → Option (Int32 × zI)) (v1 : Int32) (v2 : Int32) (v3 : Int32) (I : zI) (L : zL) : Option (Int32 × zI) :=
  if (I 97 51) ≤ v3 then (if v2 = (-1 : Int32) then (f_X12_takeWire_58 v2 (0 : Int32) I L) else (f_X12_takeWire_58 v2 (1 : Int32) I L)) else (if v1 = (-1 : Int32) then (f_X12_takeWire_39 k9 v1 v2 v3 I L) else (zlt ((8 : Int32) + v3) (fun x3 => zck (zbd x3 16) (if (I 109 x3.toNatClampNeg) = v1 then (f_X12_takeWire_40 k9 v1 v3 v3 I L) else (f_X12_takeWire_39 k9 v1 v2 v3 I L)))))
noncomputable def f_X12_takeWire (I : zI) (L : zL) : Option (Int32 × zI) :=
  zb1 (f_X12_layerAt I L) (fun x2 => zlp5 (f_X12_takeWire_9) zF x2 (-1 : Int32) (0 : Int32) I L)
set_option maxHeartbeats 4000000 in
set_option maxRecDepth 100000 in
theorem l_X12_takeWire_40 {r : Int32 × zI} (C : zC p l e R s m args below meth c s0 a0 d cy B0 yX12_takeWire.cls cX12_takeWire 4 (some .int) bc bs bc bs 3 67 []) (k9 : Int32 → Int32 → Int32 → zI → zL → Option (Int32 × zI)) (hk9 : ∀ (v1 : Int32) (v2 : Int32) (v3 : Int32) (I : zI) (L : zL), k9 v1 v2 v3 I L = some r → zG p l e R s m args below meth c d cy B0 4 bc bs (zQ below s args d cy B0 bc bs (.inl (some (.int r.1))) zSH zKn bc bs r.2 L) 9 [(0, .ref (B0 + 97)), (1, .int v1), (2, .int v2), (3, .int v3)] [] zSH zKn bc bs I L) (v1 : Int32) (v3 : Int32) (w0 : Int32) (I : zI) (L : zL) (h : f_X12_takeWire_40 k9 v1 v3 w0 I L = some r) : zG p l e R s m args below meth c d cy B0 4 bc bs (zQ below s args d cy B0 bc bs (.inl (some (.int r.1))) zSH zKn bc bs r.2 L) 40 [(0, .ref (B0 + 97)), (1, .int v1), (3, .int v3)] [.int w0] zSH zKn bc bs I L := by
  unfold f_X12_takeWire_40 at h
  refine z_istore_n C (lv' := [(2, .int w0), (0, .ref (B0 + 97)), (1, .int v1), (3, .int v3)]) rfl (by decide) rfl dX12_takeWire_40 ?_
  obtain ⟨x7, ex7, h⟩ := zlt_e h
  refine z_iinc C (j := 3) (v := x7) (lv' := [(3, .int x7), (2, .int w0), (0, .ref (B0 + 97)), (1, .int v1)]) rfl (by rw [ex7]; rfl) (by decide) rfl dX12_takeWire_41 ?_
  refine z_goto C 9 (by decide) dX12_takeWire_44 ?_
  refine z_lv [2, 3, 1, 0] (lv' := [(0, .ref (B0 + 97)), (1, .int v1), (2, .int w0), (3, .int x7)]) rfl ?_
  exact hk9 v1 w0 x7 I L h
set_option maxHeartbeats 4000000 in
set_option maxRecDepth 100000 in
theorem l_X12_takeWire_39 {r : Int32 × zI} (C : zC p l e R s m args below meth c s0 a0 d cy B0 yX12_takeWire.cls cX12_takeWire 4 (some .int) bc bs bc bs 3 67 []) (k9 : Int32 → Int32 → Int32 → zI → zL → Option (Int32 × zI)) (hk9 : ∀ (v1 : Int32) (v2 : Int32) (v3 : Int32) (I : zI) (L : zL), k9 v1 v2 v3 I L = some r → zG p l e R s m args below meth c d cy B0 4 bc bs (zQ below s args d cy B0 bc bs (.inl (some (.int r.1))) zSH zKn bc bs r.2 L) 9 [(0, .ref (B0 + 97)), (1, .int v1), (2, .int v2), (3, .int v3)] [] zSH zKn bc bs I L) (v1 : Int32) (v2 : Int32) (v3 : Int32) (I : zI) (L : zL) (h : f_X12_takeWire_39 k9 v1 v2 v3 I L = some r) : zG p l e R s m args below meth c d cy B0 4 bc bs (zQ below s args d cy B0 bc bs (.inl (some (.int r.1))) zSH zKn bc bs r.2 L) 39 [(0, .ref (B0 + 97)), (1, .int v1), (2, .int v2), (3, .int v3)] [] zSH zKn bc bs I L := by
  unfold f_X12_takeWire_39 at h
  refine z_iload_n C rfl 2 rfl dX12_takeWire_39 ?_
  refine z_lv [0, 1, 3] (lv' := [(0, .ref (B0 + 97)), (1, .int v1), (3, .int v3)]) rfl ?_
  exact l_X12_takeWire_40 C k9 hk9 v1 v3 v2 I L h
set_option maxHeartbeats 4000000 in
set_option maxRecDepth 100000 in
theorem l_X12_takeWire_58 {r : Int32 × zI} (C : zC p l e R s m args below meth c s0 a0 d cy B0 yX12_takeWire.cls cX12_takeWire 4 (some .int) bc bs bc bs 3 67 []) (v2 : Int32) (w1 : Int32) (I : zI) (L : zL) (h : f_X12_takeWire_58 v2 w1 I L = some r) : zG p l e R s m args below meth c d cy B0 4 bc bs (zQ below s args d cy B0 bc bs (.inl (some (.int r.1))) zSH zKn bc bs r.2 L) 58 [(2, .int v2)] [.int w1, .ref (B0 + 97)] zSH zKn bc bs I L := by
  unfold f_X12_takeWire_58 at h
  obtain ⟨I6, hg5, h⟩ := zb1_e h
  refine z_callV C zc_12 rfl (by decide) dX12_takeWire_58 yy_X12_take (c_X12_take C.2.2.2.2.1  w1 I L hg5) q_1404 q_1406 q_48 (by decide) (by decide) rfl rfl (Nat.le_of_ble_eq_true rfl) ⟨Nat.le_refl _, Nat.le_refl _, Nat.le_refl _, Nat.le_refl _⟩ ?_
  refine z_iload_n C rfl 0 rfl dX12_takeWire_61 ?_
  obtain rfl := Option.some.inj h
  exact z_iret C dX12_takeWire_62 .int rfl rfl rfl
set_option maxHeartbeats 4000000 in
set_option maxRecDepth 100000 in
theorem l_X12_takeWire_9 {r : Int32 × zI} (C : zC p l e R s m args below meth c s0 a0 d cy B0 yX12_takeWire.cls cX12_takeWire 4 (some .int) bc bs bc bs 3 67 []) (k9 : Int32 → Int32 → Int32 → zI → zL → Option (Int32 × zI)) (hk9 : ∀ (v1 : Int32) (v2 : Int32) (v3 : Int32) (I : zI) (L : zL), k9 v1 v2 v3 I L = some r → zG p l e R s m args below meth c d cy B0 4 bc bs (zQ below s args d cy B0 bc bs (.inl (some (.int r.1))) zSH zKn bc bs r.2 L) 9 [(0, .ref (B0 + 97)), (1, .int v1), (2, .int v2), (3, .int v3)] [] zSH zKn bc bs I L) (v1 : Int32) (v2 : Int32) (v3 : Int32) (I : zI) (L : zL) (h : f_X12_takeWire_9 k9 v1 v2 v3 I L = some r) : zG p l e R s m args below meth c d cy B0 4 bc bs (zQ below s args d cy B0 bc bs (.inl (some (.int r.1))) zSH zKn bc bs r.2 L) 9 [(0, .ref (B0 + 97)), (1, .int v1), (2, .int v2), (3, .int v3)] [] zSH zKn bc bs I L := by
  unfold f_X12_takeWire_9 at h
  refine z_iload_n C rfl 3 rfl dX12_takeWire_9 ?_
  refine z_aload_n C rfl 0 rfl dX12_takeWire_10 ?_
  refine z_geti C zc_12 dX12_takeWire_11 51 97 rfl (by decide) (by decide) q_1220 rfl ?_
  refine z_icmp_ge C 47 (by decide) dX12_takeWire_14 (fun hc => ?_) (fun hc => ?_)
  · have h := zif_t hc h
    refine z_aload_n C rfl 0 rfl dX12_takeWire_47 ?_
    refine z_iload_n C rfl 2 rfl dX12_takeWire_48 ?_
    refine z_iconst C (v := -1) (by decide) dX12_takeWire_49 ?_
    refine z_icmp_eq C 57 (by decide) dX12_takeWire_50 (fun hc => ?_) (fun hc => ?_)
    · have h := zif_t hc h
      refine z_iconst C (v := 0) (by decide) dX12_takeWire_57 ?_
      refine z_lv [2] (lv' := [(2, .int v2)]) rfl ?_
      exact l_X12_takeWire_58 C  v2 (0 : Int32) I L h
    · have h := zif_f hc h
      refine z_iconst C (v := 1) (by decide) dX12_takeWire_53 ?_
      refine z_goto C 58 (by decide) dX12_takeWire_54 ?_
      refine z_lv [2] (lv' := [(2, .int v2)]) rfl ?_
      exact l_X12_takeWire_58 C  v2 (1 : Int32) I L h
  · have h := zif_f hc h
    refine z_iload_n C rfl 1 rfl dX12_takeWire_17 ?_
    refine z_iconst C (v := -1) (by decide) dX12_takeWire_18 ?_
    refine z_icmp_eq C 39 (by decide) dX12_takeWire_19 (fun hc => ?_) (fun hc => ?_)
    · have h := zif_t hc h
      exact l_X12_takeWire_39 C k9 hk9 v1 v2 v3 I L h
    · have h := zif_f hc h
      refine z_aload_n C rfl 0 rfl dX12_takeWire_22 ?_
      refine z_getr C zc_12 dX12_takeWire_23 20 97 109 rfl (by decide) (by decide) q_1189 rfl rfl ?_
      refine z_bipush C (v := 8) (by decide) dX12_takeWire_26 ?_
      refine z_iload_n C rfl 3 rfl dX12_takeWire_28 ?_
      refine z_iadd C dX12_takeWire_29 ?_
      obtain ⟨x3, ex3, h⟩ := zlt_e h
      refine z_eqi C ex3 ?_
      obtain ⟨hb4, h⟩ := zck_e h
      refine z_iaload C dX12_takeWire_30 rfl rfl (by decide) (zbd_in hb4) ?_
      refine z_iload_n C rfl 1 rfl dX12_takeWire_31 ?_
      refine z_icmp_ne C 39 (by decide) dX12_takeWire_32 (fun hc => ?_) (fun hc => ?_)
      · have h := zif_f hc h
        exact l_X12_takeWire_39 C k9 hk9 v1 v2 v3 I L h
      · have h := zif_t hc h
        refine z_iload_n C rfl 3 rfl dX12_takeWire_35 ?_
        refine z_goto C 40 (by decide) dX12_takeWire_36 ?_
        refine z_lv [0, 1, 3] (lv' := [(0, .ref (B0 + 97)), (1, .int v1), (3, .int v3)]) rfl ?_
        exact l_X12_takeWire_40 C k9 hk9 v1 v3 v3 I L h
set_option maxHeartbeats 4000000 in
set_option maxRecDepth 100000 in
theorem L_X12_takeWire_9 {r : Int32 × zI} (C : zC p l e R s m args below meth c s0 a0 d cy B0 yX12_takeWire.cls cX12_takeWire 4 (some .int) bc bs bc bs 3 67 []) (v1 : Int32) (v2 : Int32) (v3 : Int32) (I : zI) (L : zL) (h : zlp5 (f_X12_takeWire_9) zF v1 v2 v3 I L = some r) : zG p l e R s m args below meth c d cy B0 4 bc bs (zQ below s args d cy B0 bc bs (.inl (some (.int r.1))) zSH zKn bc bs r.2 L) 9 [(0, .ref (B0 + 97)), (1, .int v1), (2, .int v2), (3, .int v3)] [] zSH zKn bc bs I L :=
 zlp5_e (fun (v1 : Int32) (v2 : Int32) (v3 : Int32) (I : zI) (L : zL) => zG p l e R s m args below meth c d cy B0 4 bc bs (zQ below s args d cy B0 bc bs (.inl (some (.int r.1))) zSH zKn bc bs r.2 L) 9 [(0, .ref (B0 + 97)), (1, .int v1), (2, .int v2), (3, .int v3)] [] zSH zKn bc bs I L) (fun k9 hk9 v1 v2 v3 I L h => l_X12_takeWire_9 C k9 hk9 v1 v2 v3 I L h) zF v1 v2 v3 I L h
set_option maxHeartbeats 4000000 in
set_option maxRecDepth 100000 in
theorem c_X12_takeWire {r : Int32 × zI} (hE : zE0 l s0 a0 d cy B0) (I : zI) (L : zL) (h : f_X12_takeWire I L = some r) : zM l s0 d cy B0 yX12_takeWire cX12_takeWire 4 (some .int) 3 67 [.ref (B0 + 97)] zSH zKn bc bs I L (.inl (some (.int r.1))) zSH zKn bc bs r.2 L := by
  refine z_meth yy_X12_takeWire hE (Nat.le_of_ble_eq_true rfl) (fun p e R s m args below meth c C => ?_)
  show zG p l e R s m args below meth c d cy B0 4 bc bs (zQ below s args d cy B0 bc bs (.inl (some (.int r.1))) zSH zKn bc bs r.2 L) 0 [(0, .ref (B0 + 97))] [] zSH zKn bc bs I L
  unfold f_X12_takeWire at h
  refine z_aload_n C rfl 0 rfl dX12_takeWire_0 ?_
  obtain ⟨x2, hg1, h⟩ := zb1_e h
  refine z_callV C zc_12 rfl (by decide) dX12_takeWire_1 yy_X12_layerAt (c_X12_layerAt C.2.2.2.2.1  I L hg1) q_1412 q_1414 q_50 (by decide) (by decide) rfl rfl (Nat.le_of_ble_eq_true rfl) ⟨Nat.le_refl _, Nat.le_refl _, Nat.le_refl _, Nat.le_refl _⟩ ?_
  refine z_istore_n C (lv' := [(1, .int x2), (0, .ref (B0 + 97))]) rfl (by decide) rfl dX12_takeWire_4 ?_
  refine z_iconst C (v := -1) (by decide) dX12_takeWire_5 ?_
  refine z_istore_n C (lv' := [(2, .int (-1 : Int32)), (1, .int x2), (0, .ref (B0 + 97))]) rfl (by decide) rfl dX12_takeWire_6 ?_
  refine z_iconst C (v := 0) (by decide) dX12_takeWire_7 ?_
  refine z_istore_n C (lv' := [(3, .int (0 : Int32)), (2, .int (-1 : Int32)), (1, .int x2), (0, .ref (B0 + 97))]) rfl (by decide) rfl dX12_takeWire_8 ?_
  refine z_lv [3, 2, 1, 0] (lv' := [(0, .ref (B0 + 97)), (1, .int x2), (2, .int (-1 : Int32)), (3, .int (0 : Int32))]) rfl ?_
  exact L_X12_takeWire_9 C  x2 (-1 : Int32) (0 : Int32) I L h
theorem q_51 : Cond.selects "DeviceFindModel" ⟨"DeviceFindModel", "is", "(I)Z"⟩ ⟨"DeviceFindModel", "is", "(I)Z"⟩ ∈ lw_tbl := List.mem_of_getElem? (i := 51) (by decide +kernel)
theorem q_1411 : (Cond.code ({ cls := "DeviceFindModel", name := "takeNew", desc := "()V" } : Jvm.MethodName) prog_14_method_22_code (3 : Nat) (Option.none : Option Jvm.ClassFile.FieldType)) ∈ lw_tbl := List.mem_of_getElem? (i := 1411) (by decide +kernel)
theorem q_1416 : (Cond.methodLink "DeviceFindModel" (193 : Nat) ({ cls := "DeviceFindModel", name := "is", desc := "(I)Z" } : Jvm.MethodName)) ∈ lw_tbl := List.mem_of_getElem? (i := 1416) (by decide +kernel)
theorem q_1418 : (Cond.instanceMethod ({ cls := "DeviceFindModel", name := "is", desc := "(I)Z" } : Jvm.MethodName)) ∈ lw_tbl := List.mem_of_getElem? (i := 1418) (by decide +kernel)
theorem yy_X12_takeNew : zY yX12_takeNew cX12_takeNew 3 none 0 := ⟨q_1411, q_88, by decide +kernel, by decide +kernel, by decide +kernel⟩
noncomputable def f_X12_takeNew_48 (I : zI) (L : zL) : Option (zI × zL) :=
  zb1 (f_X12_is (61 : Int32) I) (fun x11 => zb1 (f_X12_take x11 I) (fun I13 => some (I13, L)))
noncomputable def f_X12_takeNew_25 (v1 : Int64) (w1 : Int32) (I : zI) (L : zL) : Option (zI × zL) :=
  zb1 (f_X12_take w1 I) (fun I6 => if (I6 97 49) = 0 then (f_X12_takeNew_48 I6 L) else (zlt ((24 : Int32) + (I6 97 50)) (fun x7 => zck (zbd x7 48) (zlt (zul L 105 x7.toNatClampNeg v1) (fun L9 => f_X12_takeNew_48 I6 L9)))))
noncomputable def f_X12_takeNew_24 (v1 : Int64) (I : zI) (L : zL) : Option (zI × zL) :=
  f_X12_takeNew_25 v1 (0 : Int32) I L
noncomputable def f_X12_takeNew (I : zI) (L : zL) : Option (zI × zL) :=
  zb1 (f_X12_name I) (fun x2 => if x2 ≤ (0 : Int64) then (f_X12_takeNew_24 x2 I L) else (zb1 (f_X12_layerAt I L) (fun x4 => if x4 = (-1 : Int32) then (f_X12_takeNew_25 x2 (1 : Int32) I L) else (f_X12_takeNew_24 x2 I L))))
set_option maxHeartbeats 4000000 in
set_option maxRecDepth 100000 in
theorem l_X12_takeNew_48 {r : zI × zL} (C : zC p l e R s m args below meth c s0 a0 d cy B0 yX12_takeNew.cls cX12_takeNew 3 none bc bs bc bs 3 67 []) (I : zI) (L : zL) (h : f_X12_takeNew_48 I L = some r) : zG p l e R s m args below meth c d cy B0 3 bc bs (zQ below s args d cy B0 bc bs (.inl none) zSH zKn bc bs r.1 r.2) 48 [(0, .ref (B0 + 97))] [] zSH zKn bc bs I L := by
  unfold f_X12_takeNew_48 at h
  refine z_aload_n C rfl 0 rfl dX12_takeNew_48 ?_
  refine z_aload_n C rfl 0 rfl dX12_takeNew_49 ?_
  refine z_bipush C (v := 61) (by decide) dX12_takeNew_50 ?_
  obtain ⟨x11, hg10, h⟩ := zb1_e h
  refine z_callV C zc_12 rfl (by decide) dX12_takeNew_52 yy_X12_is (c_X12_is C.2.2.2.2.1  (61 : Int32) I L hg10) q_1416 q_1418 q_51 (by decide) (by decide) rfl rfl (Nat.le_of_ble_eq_true rfl) ⟨Nat.le_refl _, Nat.le_refl _, Nat.le_refl _, Nat.le_refl _⟩ ?_
  obtain ⟨I13, hg12, h⟩ := zb1_e h
  refine z_callV C zc_12 rfl (by decide) dX12_takeNew_55 yy_X12_take (c_X12_take C.2.2.2.2.1  x11 I L hg12) q_1404 q_1406 q_48 (by decide) (by decide) rfl rfl (Nat.le_of_ble_eq_true rfl) ⟨Nat.le_refl _, Nat.le_refl _, Nat.le_refl _, Nat.le_refl _⟩ ?_
  obtain rfl := Option.some.inj h
  exact z_vret C dX12_takeNew_58 rfl rfl
set_option maxHeartbeats 4000000 in
set_option maxRecDepth 100000 in
theorem l_X12_takeNew_25 {r : zI × zL} (C : zC p l e R s m args below meth c s0 a0 d cy B0 yX12_takeNew.cls cX12_takeNew 3 none bc bs bc bs 3 67 []) (v1 : Int64) (w1 : Int32) (I : zI) (L : zL) (h : f_X12_takeNew_25 v1 w1 I L = some r) : zG p l e R s m args below meth c d cy B0 3 bc bs (zQ below s args d cy B0 bc bs (.inl none) zSH zKn bc bs r.1 r.2) 25 [(0, .ref (B0 + 97)), (1, .long v1)] [.int w1, .ref (B0 + 97)] zSH zKn bc bs I L := by
  unfold f_X12_takeNew_25 at h
  obtain ⟨I6, hg5, h⟩ := zb1_e h
  refine z_callV C zc_12 rfl (by decide) dX12_takeNew_25 yy_X12_take (c_X12_take C.2.2.2.2.1  w1 I L hg5) q_1404 q_1406 q_48 (by decide) (by decide) rfl rfl (Nat.le_of_ble_eq_true rfl) ⟨Nat.le_refl _, Nat.le_refl _, Nat.le_refl _, Nat.le_refl _⟩ ?_
  refine z_aload_n C rfl 0 rfl dX12_takeNew_28 ?_
  refine z_geti C zc_12 dX12_takeNew_29 49 97 rfl (by decide) (by decide) q_1218 rfl ?_
  refine z_if_eq C 48 (by decide) dX12_takeNew_32 (fun hc => ?_) (fun hc => ?_)
  · have h := zif_t hc h
    refine z_lv [0] (lv' := [(0, .ref (B0 + 97))]) rfl ?_
    exact l_X12_takeNew_48 C  I6 L h
  · have h := zif_f hc h
    refine z_aload_n C rfl 0 rfl dX12_takeNew_35 ?_
    refine z_getr C zc_12 dX12_takeNew_36 16 97 105 rfl (by decide) (by decide) q_1185 rfl rfl ?_
    refine z_bipush C (v := 24) (by decide) dX12_takeNew_39 ?_
    refine z_aload_n C rfl 0 rfl dX12_takeNew_41 ?_
    refine z_geti C zc_12 dX12_takeNew_42 50 97 rfl (by decide) (by decide) q_1219 rfl ?_
    refine z_iadd C dX12_takeNew_45 ?_
    obtain ⟨x7, ex7, h⟩ := zlt_e h
    refine z_eqi C ex7 ?_
    refine z_lload_n C rfl 1 rfl dX12_takeNew_46 ?_
    obtain ⟨hb8, h⟩ := zck_e h
    refine z_lastore C dX12_takeNew_47 rfl rfl (by decide) (zbd_in hb8) ?_
    obtain ⟨L9, eL9, h⟩ := zlt_e h
    refine z_eqL C eL9 ?_
    refine z_lv [0] (lv' := [(0, .ref (B0 + 97))]) rfl ?_
    exact l_X12_takeNew_48 C  I6 L9 h
set_option maxHeartbeats 4000000 in
set_option maxRecDepth 100000 in
theorem l_X12_takeNew_24 {r : zI × zL} (C : zC p l e R s m args below meth c s0 a0 d cy B0 yX12_takeNew.cls cX12_takeNew 3 none bc bs bc bs 3 67 []) (v1 : Int64) (I : zI) (L : zL) (h : f_X12_takeNew_24 v1 I L = some r) : zG p l e R s m args below meth c d cy B0 3 bc bs (zQ below s args d cy B0 bc bs (.inl none) zSH zKn bc bs r.1 r.2) 24 [(0, .ref (B0 + 97)), (1, .long v1)] [.ref (B0 + 97)] zSH zKn bc bs I L := by
  unfold f_X12_takeNew_24 at h
  refine z_iconst C (v := 0) (by decide) dX12_takeNew_24 ?_
  exact l_X12_takeNew_25 C  v1 (0 : Int32) I L h
set_option maxHeartbeats 4000000 in
set_option maxRecDepth 100000 in
theorem c_X12_takeNew {r : zI × zL} (hE : zE0 l s0 a0 d cy B0) (I : zI) (L : zL) (h : f_X12_takeNew I L = some r) : zM l s0 d cy B0 yX12_takeNew cX12_takeNew 3 none 3 67 [.ref (B0 + 97)] zSH zKn bc bs I L (.inl none) zSH zKn bc bs r.1 r.2 := by
  refine z_meth yy_X12_takeNew hE (Nat.le_of_ble_eq_true rfl) (fun p e R s m args below meth c C => ?_)
  show zG p l e R s m args below meth c d cy B0 3 bc bs (zQ below s args d cy B0 bc bs (.inl none) zSH zKn bc bs r.1 r.2) 0 [(0, .ref (B0 + 97))] [] zSH zKn bc bs I L
  unfold f_X12_takeNew at h
  refine z_aload_n C rfl 0 rfl dX12_takeNew_0 ?_
  obtain ⟨x2, hg1, h⟩ := zb1_e h
  refine z_callV C zc_12 rfl (by decide) dX12_takeNew_1 yy_X12_name (c_X12_name C.2.2.2.2.1  I L hg1) q_1391 q_1393 q_46 (by decide) (by decide) rfl rfl (Nat.le_of_ble_eq_true rfl) ⟨Nat.le_refl _, Nat.le_refl _, Nat.le_refl _, Nat.le_refl _⟩ ?_
  refine z_lstore_n C (lv' := [(1, .long x2), (0, .ref (B0 + 97))]) rfl (by decide) rfl dX12_takeNew_4 ?_
  refine z_aload_n C rfl 1 rfl dX12_takeNew_5 ?_
  refine z_lload_n C rfl 0 rfl dX12_takeNew_6 ?_
  refine z_lconst C (v := 0) (by decide) dX12_takeNew_7 ?_
  refine z_lif_le C 24 (by decide) dX12_takeNew_8 dX12_takeNew_9 (fun hc => ?_) (fun hc => ?_)
  · have h := zif_t hc h
    refine z_lv [1, 0] (lv' := [(0, .ref (B0 + 97)), (1, .long x2)]) rfl ?_
    exact l_X12_takeNew_24 C  x2 I L h
  · have h := zif_f hc h
    refine z_aload_n C rfl 1 rfl dX12_takeNew_12 ?_
    obtain ⟨x4, hg3, h⟩ := zb1_e h
    refine z_callV C zc_12 rfl (by decide) dX12_takeNew_13 yy_X12_layerAt (c_X12_layerAt C.2.2.2.2.1  I L hg3) q_1412 q_1414 q_50 (by decide) (by decide) rfl rfl (Nat.le_of_ble_eq_true rfl) ⟨Nat.le_refl _, Nat.le_refl _, Nat.le_refl _, Nat.le_refl _⟩ ?_
    refine z_iconst C (v := -1) (by decide) dX12_takeNew_16 ?_
    refine z_icmp_ne C 24 (by decide) dX12_takeNew_17 (fun hc => ?_) (fun hc => ?_)
    · have h := zif_f hc h
      refine z_lv [1, 0] (lv' := [(0, .ref (B0 + 97)), (1, .long x2)]) rfl ?_
      exact l_X12_takeNew_24 C  x2 I L h
    · have h := zif_t hc h
      refine z_iconst C (v := 1) (by decide) dX12_takeNew_20 ?_
      refine z_goto C 25 (by decide) dX12_takeNew_21 ?_
      refine z_lv [1, 0] (lv' := [(0, .ref (B0 + 97)), (1, .long x2)]) rfl ?_
      exact l_X12_takeNew_25 C  x2 (1 : Int32) I L h
theorem q_49 : Cond.selects "DeviceFindModel" ⟨"DeviceFindModel", "takeNew", "()V"⟩ ⟨"DeviceFindModel", "takeNew", "()V"⟩ ∈ lw_tbl := List.mem_of_getElem? (i := 49) (by decide +kernel)
theorem q_1186 : (Cond.fieldLink "DeviceFindModel" (35 : Nat) "DeviceFindModel" "how" "[I") ∈ lw_tbl := List.mem_of_getElem? (i := 1186) (by decide +kernel)
theorem q_1187 : (Cond.fieldLink "DeviceFindModel" (38 : Nat) "DeviceFindModel" "one" "[I") ∈ lw_tbl := List.mem_of_getElem? (i := 1187) (by decide +kernel)
theorem q_1403 : (Cond.code ({ cls := "DeviceFindModel", name := "readInput", desc := "()V" } : Jvm.MethodName) prog_14_method_23_code (4 : Nat) (Option.none : Option Jvm.ClassFile.FieldType)) ∈ lw_tbl := List.mem_of_getElem? (i := 1403) (by decide +kernel)
theorem q_1408 : (Cond.methodLink "DeviceFindModel" (196 : Nat) ({ cls := "DeviceFindModel", name := "takeNew", desc := "()V" } : Jvm.MethodName)) ∈ lw_tbl := List.mem_of_getElem? (i := 1408) (by decide +kernel)
theorem q_1410 : (Cond.instanceMethod ({ cls := "DeviceFindModel", name := "takeNew", desc := "()V" } : Jvm.MethodName)) ∈ lw_tbl := List.mem_of_getElem? (i := 1410) (by decide +kernel)
theorem yy_X12_readInput : zY yX12_readInput cX12_readInput 4 none 0 := ⟨q_1403, q_88, by decide +kernel, by decide +kernel, by decide +kernel⟩
noncomputable def f_X12_readInput_182 (I : zI) (L : zL) : Option (zI × zL) :=
  some (I, L)
noncomputable def f_X12_readInput_126 (v2 : Int32) (w1 : Int32) (I : zI) (L : zL) : Option (zI × zL) :=
  zb1 (f_X12_take w1 I) (fun I17 => zb1 (f_X12_is (59 : Int32) I17) (fun x19 => zb1 (f_X12_take x19 I17) (fun I21 => if (I21 97 49) = 0 then (f_X12_readInput_182 I21 L) else (zlt ((24 : Int32) + (I21 97 50)) (fun x22 => zck (zbd x22 48) (zlt (zu I21 106 x22.toNatClampNeg (0 : Int32)) (fun I24 => zlt ((24 : Int32) + (I24 97 50)) (fun x25 => zck (zbd x25 48) (zlt (zu I24 107 x25.toNatClampNeg v2) (fun I27 => zlt ((I27 97 50) + (1 : Int32)) (fun x28 => zlt (zu I27 97 50 x28) (fun I29 => f_X12_readInput_182 I29 L))))))))))))
noncomputable def f_X12_readInput_125 (v2 : Int32) (I : zI) (L : zL) : Option (zI × zL) :=
  f_X12_readInput_126 v2 (0 : Int32) I L
noncomputable def f_X12_readInput_108 (v1 : Int32) (v2 : Int32) (I : zI) (L : zL) : Option (zI × zL) :=
  if v1 = 0 then (f_X12_readInput_125 v2 I L) else (if (I 97 1) ≤ v2 then (f_X12_readInput_125 v2 I L) else (f_X12_readInput_126 v2 (1 : Int32) I L))
noncomputable def f_X12_readInput_75 (k75 : Int32 → Int32 → Int32 → zI → zL → Option (zI × zL)) (v1 : Int32) (v2 : Int32) (v3 : Int32) (I : zI) (L : zL) : Option (zI × zL) :=
  if (I 97 47) ≤ v3 then (f_X12_readInput_108 v1 v2 I L) else (if v1 = 0 then (f_X12_readInput_108 v1 v2 I L) else (zck (zbd v3 800) (zlt (((10 : Int32) * v2) + (I 117 v3.toNatClampNeg)) (fun x13 => zlt (x13 - (48 : Int32)) (fun x14 => zlt (v3 + 1) (fun x15 => k75 v1 x14 x15 I L))))))
noncomputable def f_X12_readInput_67 (w0 : Int32) (I : zI) (L : zL) : Option (zI × zL) :=
  zlt (I 97 46) (fun x11 => zlp5 (f_X12_readInput_75) zF w0 (0 : Int32) x11 I L)
noncomputable def f_X12_readInput_66 (I : zI) (L : zL) : Option (zI × zL) :=
  f_X12_readInput_67 (0 : Int32) I L
noncomputable def f_X12_readInput_15 (w1 : Int32) (I : zI) (L : zL) : Option (zI × zL) :=
  zb1 (f_X12_take w1 I) (fun I2 => zb2 (f_X12_takeNew I2 L) (fun I4 L5 => if (I4 97 47) ≤ (I4 97 46) then (f_X12_readInput_66 I4 L5) else (zlt (I4 97 46) (fun x6 => zck (zbd x6 800) (zb1 (f_X12_isDigit (I4 117 x6.toNatClampNeg)) (fun x9 => if x9 = 0 then (f_X12_readInput_66 I4 L5) else (zlt ((I4 97 47) - (I4 97 46)) (fun x10 => if (6 : Int32) < x10 then (f_X12_readInput_66 I4 L5) else (f_X12_readInput_67 (1 : Int32) I4 L5)))))))))
noncomputable def f_X12_readInput (I : zI) (L : zL) : Option (zI × zL) :=
  if (24 : Int32) ≤ (I 97 50) then (f_X12_readInput_15 (0 : Int32) I L) else (f_X12_readInput_15 (1 : Int32) I L)
set_option maxHeartbeats 4000000 in
set_option maxRecDepth 100000 in
theorem l_X12_readInput_182 {r : zI × zL} (C : zC p l e R s m args below meth c s0 a0 d cy B0 yX12_readInput.cls cX12_readInput 4 none bc bs bc bs 4 89 []) (I : zI) (L : zL) (h : f_X12_readInput_182 I L = some r) : zG p l e R s m args below meth c d cy B0 4 bc bs (zQ below s args d cy B0 bc bs (.inl none) zSH zKn bc bs r.1 r.2) 182 [] [] zSH zKn bc bs I L := by
  unfold f_X12_readInput_182 at h
  obtain rfl := Option.some.inj h
  exact z_vret C dX12_readInput_182 rfl rfl
set_option maxHeartbeats 4000000 in
set_option maxRecDepth 100000 in
theorem l_X12_readInput_126 {r : zI × zL} (C : zC p l e R s m args below meth c s0 a0 d cy B0 yX12_readInput.cls cX12_readInput 4 none bc bs bc bs 4 89 []) (v2 : Int32) (w1 : Int32) (I : zI) (L : zL) (h : f_X12_readInput_126 v2 w1 I L = some r) : zG p l e R s m args below meth c d cy B0 4 bc bs (zQ below s args d cy B0 bc bs (.inl none) zSH zKn bc bs r.1 r.2) 126 [(0, .ref (B0 + 97)), (2, .int v2)] [.int w1, .ref (B0 + 97)] zSH zKn bc bs I L := by
  unfold f_X12_readInput_126 at h
  obtain ⟨I17, hg16, h⟩ := zb1_e h
  refine z_callV C zc_12 rfl (by decide) dX12_readInput_126 yy_X12_take (c_X12_take C.2.2.2.2.1  w1 I L hg16) q_1404 q_1406 q_48 (by decide) (by decide) rfl rfl (Nat.le_of_ble_eq_true rfl) ⟨Nat.le_refl _, Nat.le_refl _, Nat.le_refl _, Nat.le_refl _⟩ ?_
  refine z_aload_n C rfl 0 rfl dX12_readInput_129 ?_
  refine z_aload_n C rfl 0 rfl dX12_readInput_130 ?_
  refine z_bipush C (v := 59) (by decide) dX12_readInput_131 ?_
  obtain ⟨x19, hg18, h⟩ := zb1_e h
  refine z_callV C zc_12 rfl (by decide) dX12_readInput_133 yy_X12_is (c_X12_is C.2.2.2.2.1  (59 : Int32) I17 L hg18) q_1416 q_1418 q_51 (by decide) (by decide) rfl rfl (Nat.le_of_ble_eq_true rfl) ⟨Nat.le_refl _, Nat.le_refl _, Nat.le_refl _, Nat.le_refl _⟩ ?_
  obtain ⟨I21, hg20, h⟩ := zb1_e h
  refine z_callV C zc_12 rfl (by decide) dX12_readInput_136 yy_X12_take (c_X12_take C.2.2.2.2.1  x19 I17 L hg20) q_1404 q_1406 q_48 (by decide) (by decide) rfl rfl (Nat.le_of_ble_eq_true rfl) ⟨Nat.le_refl _, Nat.le_refl _, Nat.le_refl _, Nat.le_refl _⟩ ?_
  refine z_aload_n C rfl 0 rfl dX12_readInput_139 ?_
  refine z_geti C zc_12 dX12_readInput_140 49 97 rfl (by decide) (by decide) q_1218 rfl ?_
  refine z_if_eq C 182 (by decide) dX12_readInput_143 (fun hc => ?_) (fun hc => ?_)
  · have h := zif_t hc h
    refine z_lv [] (lv' := []) rfl ?_
    exact l_X12_readInput_182 C  I21 L h
  · have h := zif_f hc h
    refine z_aload_n C rfl 0 rfl dX12_readInput_146 ?_
    refine z_getr C zc_12 dX12_readInput_147 17 97 106 rfl (by decide) (by decide) q_1186 rfl rfl ?_
    refine z_bipush C (v := 24) (by decide) dX12_readInput_150 ?_
    refine z_aload_n C rfl 0 rfl dX12_readInput_152 ?_
    refine z_geti C zc_12 dX12_readInput_153 50 97 rfl (by decide) (by decide) q_1219 rfl ?_
    refine z_iadd C dX12_readInput_156 ?_
    obtain ⟨x22, ex22, h⟩ := zlt_e h
    refine z_eqi C ex22 ?_
    refine z_iconst C (v := 0) (by decide) dX12_readInput_157 ?_
    obtain ⟨hb23, h⟩ := zck_e h
    refine z_iastore C dX12_readInput_158 rfl rfl (by decide) (zbd_in hb23) ?_
    obtain ⟨I24, eI24, h⟩ := zlt_e h
    refine z_eqI C eI24 ?_
    refine z_aload_n C rfl 0 rfl dX12_readInput_159 ?_
    refine z_getr C zc_12 dX12_readInput_160 18 97 107 rfl (by decide) (by decide) q_1187 rfl rfl ?_
    refine z_bipush C (v := 24) (by decide) dX12_readInput_163 ?_
    refine z_aload_n C rfl 0 rfl dX12_readInput_165 ?_
    refine z_geti C zc_12 dX12_readInput_166 50 97 rfl (by decide) (by decide) q_1219 rfl ?_
    refine z_iadd C dX12_readInput_169 ?_
    obtain ⟨x25, ex25, h⟩ := zlt_e h
    refine z_eqi C ex25 ?_
    refine z_iload_n C rfl 1 rfl dX12_readInput_170 ?_
    obtain ⟨hb26, h⟩ := zck_e h
    refine z_iastore C dX12_readInput_171 rfl rfl (by decide) (zbd_in hb26) ?_
    obtain ⟨I27, eI27, h⟩ := zlt_e h
    refine z_eqI C eI27 ?_
    refine z_aload_n C rfl 0 rfl dX12_readInput_172 ?_
    refine z_dup C rfl dX12_readInput_173 ?_
    refine z_geti C zc_12 dX12_readInput_174 50 97 rfl (by decide) (by decide) q_1219 rfl ?_
    refine z_iconst C (v := 1) (by decide) dX12_readInput_177 ?_
    refine z_iadd C dX12_readInput_178 ?_
    obtain ⟨x28, ex28, h⟩ := zlt_e h
    refine z_eqi C ex28 ?_
    refine z_puti C zc_12 dX12_readInput_179 50 97 rfl (by decide) (by decide) rfl q_1219 rfl rfl rfl ?_
    obtain ⟨I29, eI29, h⟩ := zlt_e h
    refine z_eqI C eI29 ?_
    refine z_lv [] (lv' := []) rfl ?_
    exact l_X12_readInput_182 C  I29 L h
set_option maxHeartbeats 4000000 in
set_option maxRecDepth 100000 in
theorem l_X12_readInput_125 {r : zI × zL} (C : zC p l e R s m args below meth c s0 a0 d cy B0 yX12_readInput.cls cX12_readInput 4 none bc bs bc bs 4 89 []) (v2 : Int32) (I : zI) (L : zL) (h : f_X12_readInput_125 v2 I L = some r) : zG p l e R s m args below meth c d cy B0 4 bc bs (zQ below s args d cy B0 bc bs (.inl none) zSH zKn bc bs r.1 r.2) 125 [(0, .ref (B0 + 97)), (2, .int v2)] [.ref (B0 + 97)] zSH zKn bc bs I L := by
  unfold f_X12_readInput_125 at h
  refine z_iconst C (v := 0) (by decide) dX12_readInput_125 ?_
  exact l_X12_readInput_126 C  v2 (0 : Int32) I L h
set_option maxHeartbeats 4000000 in
set_option maxRecDepth 100000 in
theorem l_X12_readInput_108 {r : zI × zL} (C : zC p l e R s m args below meth c s0 a0 d cy B0 yX12_readInput.cls cX12_readInput 4 none bc bs bc bs 4 89 []) (v1 : Int32) (v2 : Int32) (I : zI) (L : zL) (h : f_X12_readInput_108 v1 v2 I L = some r) : zG p l e R s m args below meth c d cy B0 4 bc bs (zQ below s args d cy B0 bc bs (.inl none) zSH zKn bc bs r.1 r.2) 108 [(0, .ref (B0 + 97)), (1, .int v1), (2, .int v2)] [] zSH zKn bc bs I L := by
  unfold f_X12_readInput_108 at h
  refine z_aload_n C rfl 0 rfl dX12_readInput_108 ?_
  refine z_iload_n C rfl 1 rfl dX12_readInput_109 ?_
  refine z_if_eq C 125 (by decide) dX12_readInput_110 (fun hc => ?_) (fun hc => ?_)
  · have h := zif_t hc h
    refine z_lv [0, 2] (lv' := [(0, .ref (B0 + 97)), (2, .int v2)]) rfl ?_
    exact l_X12_readInput_125 C  v2 I L h
  · have h := zif_f hc h
    refine z_iload_n C rfl 2 rfl dX12_readInput_113 ?_
    refine z_aload_n C rfl 0 rfl dX12_readInput_114 ?_
    refine z_geti C zc_12 dX12_readInput_115 1 97 rfl (by decide) (by decide) q_1170 rfl ?_
    refine z_icmp_ge C 125 (by decide) dX12_readInput_118 (fun hc => ?_) (fun hc => ?_)
    · have h := zif_t hc h
      refine z_lv [0, 2] (lv' := [(0, .ref (B0 + 97)), (2, .int v2)]) rfl ?_
      exact l_X12_readInput_125 C  v2 I L h
    · have h := zif_f hc h
      refine z_iconst C (v := 1) (by decide) dX12_readInput_121 ?_
      refine z_goto C 126 (by decide) dX12_readInput_122 ?_
      refine z_lv [0, 2] (lv' := [(0, .ref (B0 + 97)), (2, .int v2)]) rfl ?_
      exact l_X12_readInput_126 C  v2 (1 : Int32) I L h
set_option maxHeartbeats 4000000 in
set_option maxRecDepth 100000 in
theorem l_X12_readInput_75 {r : zI × zL} (C : zC p l e R s m args below meth c s0 a0 d cy B0 yX12_readInput.cls cX12_readInput 4 none bc bs bc bs 4 89 []) (k75 : Int32 → Int32 → Int32 → zI → zL → Option (zI × zL)) (hk75 : ∀ (v1 : Int32) (v2 : Int32) (v3 : Int32) (I : zI) (L : zL), k75 v1 v2 v3 I L = some r → zG p l e R s m args below meth c d cy B0 4 bc bs (zQ below s args d cy B0 bc bs (.inl none) zSH zKn bc bs r.1 r.2) 75 [(0, .ref (B0 + 97)), (1, .int v1), (2, .int v2), (3, .int v3)] [] zSH zKn bc bs I L) (v1 : Int32) (v2 : Int32) (v3 : Int32) (I : zI) (L : zL) (h : f_X12_readInput_75 k75 v1 v2 v3 I L = some r) : zG p l e R s m args below meth c d cy B0 4 bc bs (zQ below s args d cy B0 bc bs (.inl none) zSH zKn bc bs r.1 r.2) 75 [(0, .ref (B0 + 97)), (1, .int v1), (2, .int v2), (3, .int v3)] [] zSH zKn bc bs I L := by
  unfold f_X12_readInput_75 at h
  refine z_iload_n C rfl 3 rfl dX12_readInput_75 ?_
  refine z_aload_n C rfl 0 rfl dX12_readInput_76 ?_
  refine z_geti C zc_12 dX12_readInput_77 47 97 rfl (by decide) (by decide) q_1216 rfl ?_
  refine z_icmp_ge C 108 (by decide) dX12_readInput_80 (fun hc => ?_) (fun hc => ?_)
  · have h := zif_t hc h
    refine z_lv [0, 1, 2] (lv' := [(0, .ref (B0 + 97)), (1, .int v1), (2, .int v2)]) rfl ?_
    exact l_X12_readInput_108 C  v1 v2 I L h
  · have h := zif_f hc h
    refine z_iload_n C rfl 1 rfl dX12_readInput_83 ?_
    refine z_if_eq C 108 (by decide) dX12_readInput_84 (fun hc => ?_) (fun hc => ?_)
    · have h := zif_t hc h
      refine z_lv [0, 1, 2] (lv' := [(0, .ref (B0 + 97)), (1, .int v1), (2, .int v2)]) rfl ?_
      exact l_X12_readInput_108 C  v1 v2 I L h
    · have h := zif_f hc h
      refine z_bipush C (v := 10) (by decide) dX12_readInput_87 ?_
      refine z_iload_n C rfl 2 rfl dX12_readInput_89 ?_
      refine z_imul C dX12_readInput_90 ?_
      refine z_aload_n C rfl 0 rfl dX12_readInput_91 ?_
      refine z_getr C zc_12 dX12_readInput_92 28 97 117 rfl (by decide) (by decide) q_1197 rfl rfl ?_
      refine z_iload_n C rfl 3 rfl dX12_readInput_95 ?_
      obtain ⟨hb12, h⟩ := zck_e h
      refine z_iaload C dX12_readInput_96 rfl rfl (by decide) (zbd_in hb12) ?_
      refine z_iadd C dX12_readInput_97 ?_
      obtain ⟨x13, ex13, h⟩ := zlt_e h
      refine z_eqi C ex13 ?_
      refine z_bipush C (v := 48) (by decide) dX12_readInput_98 ?_
      refine z_isub C dX12_readInput_100 ?_
      obtain ⟨x14, ex14, h⟩ := zlt_e h
      refine z_eqi C ex14 ?_
      refine z_istore_n C (lv' := [(2, .int x14), (0, .ref (B0 + 97)), (1, .int v1), (3, .int v3)]) rfl (by decide) rfl dX12_readInput_101 ?_
      obtain ⟨x15, ex15, h⟩ := zlt_e h
      refine z_iinc C (j := 3) (v := x15) (lv' := [(3, .int x15), (2, .int x14), (0, .ref (B0 + 97)), (1, .int v1)]) rfl (by rw [ex15]; rfl) (by decide) rfl dX12_readInput_102 ?_
      refine z_goto C 75 (by decide) dX12_readInput_105 ?_
      refine z_lv [2, 3, 1, 0] (lv' := [(0, .ref (B0 + 97)), (1, .int v1), (2, .int x14), (3, .int x15)]) rfl ?_
      exact hk75 v1 x14 x15 I L h
set_option maxHeartbeats 4000000 in
set_option maxRecDepth 100000 in
theorem L_X12_readInput_75 {r : zI × zL} (C : zC p l e R s m args below meth c s0 a0 d cy B0 yX12_readInput.cls cX12_readInput 4 none bc bs bc bs 4 89 []) (v1 : Int32) (v2 : Int32) (v3 : Int32) (I : zI) (L : zL) (h : zlp5 (f_X12_readInput_75) zF v1 v2 v3 I L = some r) : zG p l e R s m args below meth c d cy B0 4 bc bs (zQ below s args d cy B0 bc bs (.inl none) zSH zKn bc bs r.1 r.2) 75 [(0, .ref (B0 + 97)), (1, .int v1), (2, .int v2), (3, .int v3)] [] zSH zKn bc bs I L :=
 zlp5_e (fun (v1 : Int32) (v2 : Int32) (v3 : Int32) (I : zI) (L : zL) => zG p l e R s m args below meth c d cy B0 4 bc bs (zQ below s args d cy B0 bc bs (.inl none) zSH zKn bc bs r.1 r.2) 75 [(0, .ref (B0 + 97)), (1, .int v1), (2, .int v2), (3, .int v3)] [] zSH zKn bc bs I L) (fun k9 hk9 v1 v2 v3 I L h => l_X12_readInput_75 C k9 hk9 v1 v2 v3 I L h) zF v1 v2 v3 I L h
set_option maxHeartbeats 4000000 in
set_option maxRecDepth 100000 in
theorem l_X12_readInput_67 {r : zI × zL} (C : zC p l e R s m args below meth c s0 a0 d cy B0 yX12_readInput.cls cX12_readInput 4 none bc bs bc bs 4 89 []) (w0 : Int32) (I : zI) (L : zL) (h : f_X12_readInput_67 w0 I L = some r) : zG p l e R s m args below meth c d cy B0 4 bc bs (zQ below s args d cy B0 bc bs (.inl none) zSH zKn bc bs r.1 r.2) 67 [(0, .ref (B0 + 97))] [.int w0] zSH zKn bc bs I L := by
  unfold f_X12_readInput_67 at h
  refine z_istore_n C (lv' := [(1, .int w0), (0, .ref (B0 + 97))]) rfl (by decide) rfl dX12_readInput_67 ?_
  refine z_iconst C (v := 0) (by decide) dX12_readInput_68 ?_
  refine z_istore_n C (lv' := [(2, .int (0 : Int32)), (1, .int w0), (0, .ref (B0 + 97))]) rfl (by decide) rfl dX12_readInput_69 ?_
  refine z_aload_n C rfl 2 rfl dX12_readInput_70 ?_
  refine z_geti C zc_12 dX12_readInput_71 46 97 rfl (by decide) (by decide) q_1215 rfl ?_
  obtain ⟨x11, ex11, h⟩ := zlt_e h
  refine z_eqi C ex11 ?_
  refine z_istore_n C (lv' := [(3, .int x11), (2, .int (0 : Int32)), (1, .int w0), (0, .ref (B0 + 97))]) rfl (by decide) rfl dX12_readInput_74 ?_
  refine z_lv [3, 2, 1, 0] (lv' := [(0, .ref (B0 + 97)), (1, .int w0), (2, .int (0 : Int32)), (3, .int x11)]) rfl ?_
  exact L_X12_readInput_75 C  w0 (0 : Int32) x11 I L h
set_option maxHeartbeats 4000000 in
set_option maxRecDepth 100000 in
theorem l_X12_readInput_66 {r : zI × zL} (C : zC p l e R s m args below meth c s0 a0 d cy B0 yX12_readInput.cls cX12_readInput 4 none bc bs bc bs 4 89 []) (I : zI) (L : zL) (h : f_X12_readInput_66 I L = some r) : zG p l e R s m args below meth c d cy B0 4 bc bs (zQ below s args d cy B0 bc bs (.inl none) zSH zKn bc bs r.1 r.2) 66 [(0, .ref (B0 + 97))] [] zSH zKn bc bs I L := by
  unfold f_X12_readInput_66 at h
  refine z_iconst C (v := 0) (by decide) dX12_readInput_66 ?_
  exact l_X12_readInput_67 C  (0 : Int32) I L h
set_option maxHeartbeats 4000000 in
set_option maxRecDepth 100000 in
theorem l_X12_readInput_15 {r : zI × zL} (C : zC p l e R s m args below meth c s0 a0 d cy B0 yX12_readInput.cls cX12_readInput 4 none bc bs bc bs 4 89 []) (w1 : Int32) (I : zI) (L : zL) (h : f_X12_readInput_15 w1 I L = some r) : zG p l e R s m args below meth c d cy B0 4 bc bs (zQ below s args d cy B0 bc bs (.inl none) zSH zKn bc bs r.1 r.2) 15 [(0, .ref (B0 + 97))] [.int w1, .ref (B0 + 97)] zSH zKn bc bs I L := by
  unfold f_X12_readInput_15 at h
  obtain ⟨I2, hg1, h⟩ := zb1_e h
  refine z_callV C zc_12 rfl (by decide) dX12_readInput_15 yy_X12_take (c_X12_take C.2.2.2.2.1  w1 I L hg1) q_1404 q_1406 q_48 (by decide) (by decide) rfl rfl (Nat.le_of_ble_eq_true rfl) ⟨Nat.le_refl _, Nat.le_refl _, Nat.le_refl _, Nat.le_refl _⟩ ?_
  refine z_aload_n C rfl 0 rfl dX12_readInput_18 ?_
  obtain ⟨I4, L5, hg3, h⟩ := zb2_e h
  refine z_callV C zc_12 rfl (by decide) dX12_readInput_19 yy_X12_takeNew (c_X12_takeNew C.2.2.2.2.1  I2 L hg3) q_1408 q_1410 q_49 (by decide) (by decide) rfl rfl (Nat.le_of_ble_eq_true rfl) ⟨Nat.le_refl _, Nat.le_refl _, Nat.le_refl _, Nat.le_refl _⟩ ?_
  refine z_aload_n C rfl 0 rfl dX12_readInput_22 ?_
  refine z_geti C zc_12 dX12_readInput_23 46 97 rfl (by decide) (by decide) q_1215 rfl ?_
  refine z_aload_n C rfl 0 rfl dX12_readInput_26 ?_
  refine z_geti C zc_12 dX12_readInput_27 47 97 rfl (by decide) (by decide) q_1216 rfl ?_
  refine z_icmp_ge C 66 (by decide) dX12_readInput_30 (fun hc => ?_) (fun hc => ?_)
  · have h := zif_t hc h
    exact l_X12_readInput_66 C  I4 L5 h
  · have h := zif_f hc h
    refine z_aload_n C rfl 0 rfl dX12_readInput_33 ?_
    refine z_getr C zc_12 dX12_readInput_34 28 97 117 rfl (by decide) (by decide) q_1197 rfl rfl ?_
    refine z_aload_n C rfl 0 rfl dX12_readInput_37 ?_
    refine z_geti C zc_12 dX12_readInput_38 46 97 rfl (by decide) (by decide) q_1215 rfl ?_
    obtain ⟨x6, ex6, h⟩ := zlt_e h
    refine z_eqi C ex6 ?_
    obtain ⟨hb7, h⟩ := zck_e h
    refine z_iaload C dX12_readInput_41 rfl rfl (by decide) (zbd_in hb7) ?_
    obtain ⟨x9, hg8, h⟩ := zb1_e h
    refine z_callS C dX12_readInput_42 yy_X12_isDigit (c_X12_isDigit C.2.2.2.2.1  (I4 117 x6.toNatClampNeg) I4 L5 hg8) q_1384 q_1385 (by decide) (by decide) rfl rfl (Nat.le_of_ble_eq_true rfl) ⟨Nat.le_refl _, Nat.le_refl _, Nat.le_refl _, Nat.le_refl _⟩ ?_
    refine z_if_eq C 66 (by decide) dX12_readInput_45 (fun hc => ?_) (fun hc => ?_)
    · have h := zif_t hc h
      exact l_X12_readInput_66 C  I4 L5 h
    · have h := zif_f hc h
      refine z_aload_n C rfl 0 rfl dX12_readInput_48 ?_
      refine z_geti C zc_12 dX12_readInput_49 47 97 rfl (by decide) (by decide) q_1216 rfl ?_
      refine z_aload_n C rfl 0 rfl dX12_readInput_52 ?_
      refine z_geti C zc_12 dX12_readInput_53 46 97 rfl (by decide) (by decide) q_1215 rfl ?_
      refine z_isub C dX12_readInput_56 ?_
      obtain ⟨x10, ex10, h⟩ := zlt_e h
      refine z_eqi C ex10 ?_
      refine z_bipush C (v := 6) (by decide) dX12_readInput_57 ?_
      refine z_icmp_gt C 66 (by decide) dX12_readInput_59 (fun hc => ?_) (fun hc => ?_)
      · have h := zif_t hc h
        exact l_X12_readInput_66 C  I4 L5 h
      · have h := zif_f hc h
        refine z_iconst C (v := 1) (by decide) dX12_readInput_62 ?_
        refine z_goto C 67 (by decide) dX12_readInput_63 ?_
        exact l_X12_readInput_67 C  (1 : Int32) I4 L5 h
set_option maxHeartbeats 4000000 in
set_option maxRecDepth 100000 in
theorem c_X12_readInput {r : zI × zL} (hE : zE0 l s0 a0 d cy B0) (I : zI) (L : zL) (h : f_X12_readInput I L = some r) : zM l s0 d cy B0 yX12_readInput cX12_readInput 4 none 4 89 [.ref (B0 + 97)] zSH zKn bc bs I L (.inl none) zSH zKn bc bs r.1 r.2 := by
  refine z_meth yy_X12_readInput hE (Nat.le_of_ble_eq_true rfl) (fun p e R s m args below meth c C => ?_)
  show zG p l e R s m args below meth c d cy B0 4 bc bs (zQ below s args d cy B0 bc bs (.inl none) zSH zKn bc bs r.1 r.2) 0 [(0, .ref (B0 + 97))] [] zSH zKn bc bs I L
  unfold f_X12_readInput at h
  refine z_aload_n C rfl 0 rfl dX12_readInput_0 ?_
  refine z_aload_n C rfl 0 rfl dX12_readInput_1 ?_
  refine z_geti C zc_12 dX12_readInput_2 50 97 rfl (by decide) (by decide) q_1219 rfl ?_
  refine z_bipush C (v := 24) (by decide) dX12_readInput_5 ?_
  refine z_icmp_ge C 14 (by decide) dX12_readInput_7 (fun hc => ?_) (fun hc => ?_)
  · have h := zif_t hc h
    refine z_iconst C (v := 0) (by decide) dX12_readInput_14 ?_
    exact l_X12_readInput_15 C  (0 : Int32) I L h
  · have h := zif_f hc h
    refine z_iconst C (v := 1) (by decide) dX12_readInput_10 ?_
    refine z_goto C 15 (by decide) dX12_readInput_11 ?_
    exact l_X12_readInput_15 C  (1 : Int32) I L h
theorem q_53 : Cond.selects "DeviceFindModel" ⟨"DeviceFindModel", "takeLayer", "()I"⟩ ⟨"DeviceFindModel", "takeLayer", "()I"⟩ ∈ lw_tbl := List.mem_of_getElem? (i := 53) (by decide +kernel)
theorem q_1188 : (Cond.fieldLink "DeviceFindModel" (41 : Nat) "DeviceFindModel" "two" "[I") ∈ lw_tbl := List.mem_of_getElem? (i := 1188) (by decide +kernel)
theorem q_1397 : (Cond.methodLink "DeviceFindModel" (202 : Nat) ({ cls := "DeviceFindModel", name := "word", desc := "(IIIII)J" } : Jvm.MethodName)) ∈ lw_tbl := List.mem_of_getElem? (i := 1397) (by decide +kernel)
theorem q_1398 : (Cond.static ({ cls := "DeviceFindModel", name := "word", desc := "(IIIII)J" } : Jvm.MethodName)) ∈ lw_tbl := List.mem_of_getElem? (i := 1398) (by decide +kernel)
theorem q_1423 : (Cond.code ({ cls := "DeviceFindModel", name := "readMake", desc := "()V" } : Jvm.MethodName) prog_14_method_24_code (6 : Nat) (Option.none : Option Jvm.ClassFile.FieldType)) ∈ lw_tbl := List.mem_of_getElem? (i := 1423) (by decide +kernel)
theorem q_1424 : (Cond.methodLink "DeviceFindModel" (199 : Nat) ({ cls := "DeviceFindModel", name := "takeLayer", desc := "()I" } : Jvm.MethodName)) ∈ lw_tbl := List.mem_of_getElem? (i := 1424) (by decide +kernel)
theorem q_1426 : (Cond.instanceMethod ({ cls := "DeviceFindModel", name := "takeLayer", desc := "()I" } : Jvm.MethodName)) ∈ lw_tbl := List.mem_of_getElem? (i := 1426) (by decide +kernel)
theorem yy_X12_readMake : zY yX12_readMake cX12_readMake 6 none 0 := ⟨q_1423, q_88, by decide +kernel, by decide +kernel, by decide +kernel⟩
noncomputable def f_X12_readMake_183 (I : zI) (L : zL) : Option (zI × zL) :=
  some (I, L)
noncomputable def f_X12_readMake_106 (v1 : Int32) (v4 : Int32) (w1 : Int32) (I : zI) (L : zL) : Option (zI × zL) :=
  zb1 (f_X12_take w1 I) (fun I18 => zb2 (f_X12_takeLayer I18 L) (fun x20 I21 => zb1 (f_X12_is (59 : Int32) I21) (fun x23 => zb1 (f_X12_take x23 I21) (fun I25 => if (I25 97 49) = 0 then (f_X12_readMake_183 I25 L) else (zlt ((24 : Int32) + (I25 97 50)) (fun x26 => zck (zbd x26 48) (zlt (zu I25 106 x26.toNatClampNeg v4) (fun I28 => zlt ((24 : Int32) + (I28 97 50)) (fun x29 => zck (zbd x29 48) (zlt (zu I28 107 x29.toNatClampNeg v1) (fun I31 => zlt ((24 : Int32) + (I31 97 50)) (fun x32 => zck (zbd x32 48) (zlt (zu I31 108 x32.toNatClampNeg x20) (fun I34 => zlt ((I34 97 50) + (1 : Int32)) (fun x35 => zlt (zu I34 97 50 x35) (fun I36 => f_X12_readMake_183 I36 L))))))))))))))))
noncomputable def f_X12_readMake_93 (v1 : Int32) (w0 : Int32) (I : zI) (L : zL) : Option (zI × zL) :=
  if w0 ≤ 0 then (f_X12_readMake_106 v1 w0 (0 : Int32) I L) else (f_X12_readMake_106 v1 w0 (1 : Int32) I L)
noncomputable def f_X12_readMake_15 (w1 : Int32) (I : zI) (L : zL) : Option (zI × zL) :=
  zb1 (f_X12_take w1 I) (fun I2 => zb2 (f_X12_takeNew I2 L) (fun I4 L5 => zb2 (f_X12_takeLayer I4 L5) (fun x7 I8 => zb1 (f_X12_name I8) (fun x10 => zb1 (f_X12_word (97 : Int32) (110 : Int32) (100 : Int32) (0 : Int32) (0 : Int32)) (fun x12 => if x10 = x12 then (f_X12_readMake_93 x7 (1 : Int32) I8 L5) else (zb1 (f_X12_word (111 : Int32) (114 : Int32) (0 : Int32) (0 : Int32) (0 : Int32)) (fun x14 => if x10 = x14 then (f_X12_readMake_93 x7 (2 : Int32) I8 L5) else (zb1 (f_X12_word (108 : Int32) (101 : Int32) (115 : Int32) (115 : Int32) (0 : Int32)) (fun x16 => if x10 = x16 then (f_X12_readMake_93 x7 (3 : Int32) I8 L5) else (f_X12_readMake_93 x7 (0 : Int32) I8 L5))))))))))
noncomputable def f_X12_readMake (I : zI) (L : zL) : Option (zI × zL) :=
  if (24 : Int32) ≤ (I 97 50) then (f_X12_readMake_15 (0 : Int32) I L) else (f_X12_readMake_15 (1 : Int32) I L)
set_option maxHeartbeats 4000000 in
set_option maxRecDepth 100000 in
theorem l_X12_readMake_183 {r : zI × zL} (C : zC p l e R s m args below meth c s0 a0 d cy B0 yX12_readMake.cls cX12_readMake 6 none bc bs bc bs 4 89 []) (I : zI) (L : zL) (h : f_X12_readMake_183 I L = some r) : zG p l e R s m args below meth c d cy B0 6 bc bs (zQ below s args d cy B0 bc bs (.inl none) zSH zKn bc bs r.1 r.2) 183 [] [] zSH zKn bc bs I L := by
  unfold f_X12_readMake_183 at h
  obtain rfl := Option.some.inj h
  exact z_vret C dX12_readMake_183 rfl rfl
set_option maxHeartbeats 4000000 in
set_option maxRecDepth 100000 in
theorem l_X12_readMake_106 {r : zI × zL} (C : zC p l e R s m args below meth c s0 a0 d cy B0 yX12_readMake.cls cX12_readMake 6 none bc bs bc bs 4 89 []) (v1 : Int32) (v4 : Int32) (w1 : Int32) (I : zI) (L : zL) (h : f_X12_readMake_106 v1 v4 w1 I L = some r) : zG p l e R s m args below meth c d cy B0 6 bc bs (zQ below s args d cy B0 bc bs (.inl none) zSH zKn bc bs r.1 r.2) 106 [(0, .ref (B0 + 97)), (1, .int v1), (4, .int v4)] [.int w1, .ref (B0 + 97)] zSH zKn bc bs I L := by
  unfold f_X12_readMake_106 at h
  obtain ⟨I18, hg17, h⟩ := zb1_e h
  refine z_callV C zc_12 rfl (by decide) dX12_readMake_106 yy_X12_take (c_X12_take C.2.2.2.2.1  w1 I L hg17) q_1404 q_1406 q_48 (by decide) (by decide) rfl rfl (Nat.le_of_ble_eq_true rfl) ⟨Nat.le_refl _, Nat.le_refl _, Nat.le_refl _, Nat.le_refl _⟩ ?_
  refine z_aload_n C rfl 0 rfl dX12_readMake_109 ?_
  obtain ⟨x20, I21, hg19, h⟩ := zb2_e h
  refine z_callV C zc_12 rfl (by decide) dX12_readMake_110 yy_X12_takeLayer (c_X12_takeLayer C.2.2.2.2.1  I18 L hg19) q_1424 q_1426 q_53 (by decide) (by decide) rfl rfl (Nat.le_of_ble_eq_true rfl) ⟨Nat.le_refl _, Nat.le_refl _, Nat.le_refl _, Nat.le_refl _⟩ ?_
  refine z_istore C (lv' := [(5, .int x20), (0, .ref (B0 + 97)), (1, .int v1), (4, .int v4)]) (by decide) rfl dX12_readMake_113 ?_
  refine z_aload_n C rfl 1 rfl dX12_readMake_115 ?_
  refine z_aload_n C rfl 1 rfl dX12_readMake_116 ?_
  refine z_bipush C (v := 59) (by decide) dX12_readMake_117 ?_
  obtain ⟨x23, hg22, h⟩ := zb1_e h
  refine z_callV C zc_12 rfl (by decide) dX12_readMake_119 yy_X12_is (c_X12_is C.2.2.2.2.1  (59 : Int32) I21 L hg22) q_1416 q_1418 q_51 (by decide) (by decide) rfl rfl (Nat.le_of_ble_eq_true rfl) ⟨Nat.le_refl _, Nat.le_refl _, Nat.le_refl _, Nat.le_refl _⟩ ?_
  obtain ⟨I25, hg24, h⟩ := zb1_e h
  refine z_callV C zc_12 rfl (by decide) dX12_readMake_122 yy_X12_take (c_X12_take C.2.2.2.2.1  x23 I21 L hg24) q_1404 q_1406 q_48 (by decide) (by decide) rfl rfl (Nat.le_of_ble_eq_true rfl) ⟨Nat.le_refl _, Nat.le_refl _, Nat.le_refl _, Nat.le_refl _⟩ ?_
  refine z_aload_n C rfl 1 rfl dX12_readMake_125 ?_
  refine z_geti C zc_12 dX12_readMake_126 49 97 rfl (by decide) (by decide) q_1218 rfl ?_
  refine z_if_eq C 183 (by decide) dX12_readMake_129 (fun hc => ?_) (fun hc => ?_)
  · have h := zif_t hc h
    refine z_lv [] (lv' := []) rfl ?_
    exact l_X12_readMake_183 C  I25 L h
  · have h := zif_f hc h
    refine z_aload_n C rfl 1 rfl dX12_readMake_132 ?_
    refine z_getr C zc_12 dX12_readMake_133 17 97 106 rfl (by decide) (by decide) q_1186 rfl rfl ?_
    refine z_bipush C (v := 24) (by decide) dX12_readMake_136 ?_
    refine z_aload_n C rfl 1 rfl dX12_readMake_138 ?_
    refine z_geti C zc_12 dX12_readMake_139 50 97 rfl (by decide) (by decide) q_1219 rfl ?_
    refine z_iadd C dX12_readMake_142 ?_
    obtain ⟨x26, ex26, h⟩ := zlt_e h
    refine z_eqi C ex26 ?_
    refine z_iload C 3 rfl dX12_readMake_143 ?_
    obtain ⟨hb27, h⟩ := zck_e h
    refine z_iastore C dX12_readMake_145 rfl rfl (by decide) (zbd_in hb27) ?_
    obtain ⟨I28, eI28, h⟩ := zlt_e h
    refine z_eqI C eI28 ?_
    refine z_aload_n C rfl 1 rfl dX12_readMake_146 ?_
    refine z_getr C zc_12 dX12_readMake_147 18 97 107 rfl (by decide) (by decide) q_1187 rfl rfl ?_
    refine z_bipush C (v := 24) (by decide) dX12_readMake_150 ?_
    refine z_aload_n C rfl 1 rfl dX12_readMake_152 ?_
    refine z_geti C zc_12 dX12_readMake_153 50 97 rfl (by decide) (by decide) q_1219 rfl ?_
    refine z_iadd C dX12_readMake_156 ?_
    obtain ⟨x29, ex29, h⟩ := zlt_e h
    refine z_eqi C ex29 ?_
    refine z_iload_n C rfl 2 rfl dX12_readMake_157 ?_
    obtain ⟨hb30, h⟩ := zck_e h
    refine z_iastore C dX12_readMake_158 rfl rfl (by decide) (zbd_in hb30) ?_
    obtain ⟨I31, eI31, h⟩ := zlt_e h
    refine z_eqI C eI31 ?_
    refine z_aload_n C rfl 1 rfl dX12_readMake_159 ?_
    refine z_getr C zc_12 dX12_readMake_160 19 97 108 rfl (by decide) (by decide) q_1188 rfl rfl ?_
    refine z_bipush C (v := 24) (by decide) dX12_readMake_163 ?_
    refine z_aload_n C rfl 1 rfl dX12_readMake_165 ?_
    refine z_geti C zc_12 dX12_readMake_166 50 97 rfl (by decide) (by decide) q_1219 rfl ?_
    refine z_iadd C dX12_readMake_169 ?_
    obtain ⟨x32, ex32, h⟩ := zlt_e h
    refine z_eqi C ex32 ?_
    refine z_iload C 0 rfl dX12_readMake_170 ?_
    obtain ⟨hb33, h⟩ := zck_e h
    refine z_iastore C dX12_readMake_172 rfl rfl (by decide) (zbd_in hb33) ?_
    obtain ⟨I34, eI34, h⟩ := zlt_e h
    refine z_eqI C eI34 ?_
    refine z_aload_n C rfl 1 rfl dX12_readMake_173 ?_
    refine z_dup C rfl dX12_readMake_174 ?_
    refine z_geti C zc_12 dX12_readMake_175 50 97 rfl (by decide) (by decide) q_1219 rfl ?_
    refine z_iconst C (v := 1) (by decide) dX12_readMake_178 ?_
    refine z_iadd C dX12_readMake_179 ?_
    obtain ⟨x35, ex35, h⟩ := zlt_e h
    refine z_eqi C ex35 ?_
    refine z_puti C zc_12 dX12_readMake_180 50 97 rfl (by decide) (by decide) rfl q_1219 rfl rfl rfl ?_
    obtain ⟨I36, eI36, h⟩ := zlt_e h
    refine z_eqI C eI36 ?_
    refine z_lv [] (lv' := []) rfl ?_
    exact l_X12_readMake_183 C  I36 L h
set_option maxHeartbeats 4000000 in
set_option maxRecDepth 100000 in
theorem l_X12_readMake_93 {r : zI × zL} (C : zC p l e R s m args below meth c s0 a0 d cy B0 yX12_readMake.cls cX12_readMake 6 none bc bs bc bs 4 89 []) (v1 : Int32) (w0 : Int32) (I : zI) (L : zL) (h : f_X12_readMake_93 v1 w0 I L = some r) : zG p l e R s m args below meth c d cy B0 6 bc bs (zQ below s args d cy B0 bc bs (.inl none) zSH zKn bc bs r.1 r.2) 93 [(0, .ref (B0 + 97)), (1, .int v1)] [.int w0] zSH zKn bc bs I L := by
  unfold f_X12_readMake_93 at h
  refine z_istore C (lv' := [(4, .int w0), (0, .ref (B0 + 97)), (1, .int v1)]) (by decide) rfl dX12_readMake_93 ?_
  refine z_aload_n C rfl 1 rfl dX12_readMake_95 ?_
  refine z_iload C 0 rfl dX12_readMake_96 ?_
  refine z_if_le C 105 (by decide) dX12_readMake_98 (fun hc => ?_) (fun hc => ?_)
  · have h := zif_t hc h
    refine z_iconst C (v := 0) (by decide) dX12_readMake_105 ?_
    refine z_lv [1, 2, 0] (lv' := [(0, .ref (B0 + 97)), (1, .int v1), (4, .int w0)]) rfl ?_
    exact l_X12_readMake_106 C  v1 w0 (0 : Int32) I L h
  · have h := zif_f hc h
    refine z_iconst C (v := 1) (by decide) dX12_readMake_101 ?_
    refine z_goto C 106 (by decide) dX12_readMake_102 ?_
    refine z_lv [1, 2, 0] (lv' := [(0, .ref (B0 + 97)), (1, .int v1), (4, .int w0)]) rfl ?_
    exact l_X12_readMake_106 C  v1 w0 (1 : Int32) I L h
set_option maxHeartbeats 4000000 in
set_option maxRecDepth 100000 in
theorem l_X12_readMake_15 {r : zI × zL} (C : zC p l e R s m args below meth c s0 a0 d cy B0 yX12_readMake.cls cX12_readMake 6 none bc bs bc bs 4 89 []) (w1 : Int32) (I : zI) (L : zL) (h : f_X12_readMake_15 w1 I L = some r) : zG p l e R s m args below meth c d cy B0 6 bc bs (zQ below s args d cy B0 bc bs (.inl none) zSH zKn bc bs r.1 r.2) 15 [(0, .ref (B0 + 97))] [.int w1, .ref (B0 + 97)] zSH zKn bc bs I L := by
  unfold f_X12_readMake_15 at h
  obtain ⟨I2, hg1, h⟩ := zb1_e h
  refine z_callV C zc_12 rfl (by decide) dX12_readMake_15 yy_X12_take (c_X12_take C.2.2.2.2.1  w1 I L hg1) q_1404 q_1406 q_48 (by decide) (by decide) rfl rfl (Nat.le_of_ble_eq_true rfl) ⟨Nat.le_refl _, Nat.le_refl _, Nat.le_refl _, Nat.le_refl _⟩ ?_
  refine z_aload_n C rfl 0 rfl dX12_readMake_18 ?_
  obtain ⟨I4, L5, hg3, h⟩ := zb2_e h
  refine z_callV C zc_12 rfl (by decide) dX12_readMake_19 yy_X12_takeNew (c_X12_takeNew C.2.2.2.2.1  I2 L hg3) q_1408 q_1410 q_49 (by decide) (by decide) rfl rfl (Nat.le_of_ble_eq_true rfl) ⟨Nat.le_refl _, Nat.le_refl _, Nat.le_refl _, Nat.le_refl _⟩ ?_
  refine z_aload_n C rfl 0 rfl dX12_readMake_22 ?_
  obtain ⟨x7, I8, hg6, h⟩ := zb2_e h
  refine z_callV C zc_12 rfl (by decide) dX12_readMake_23 yy_X12_takeLayer (c_X12_takeLayer C.2.2.2.2.1  I4 L5 hg6) q_1424 q_1426 q_53 (by decide) (by decide) rfl rfl (Nat.le_of_ble_eq_true rfl) ⟨Nat.le_refl _, Nat.le_refl _, Nat.le_refl _, Nat.le_refl _⟩ ?_
  refine z_istore_n C (lv' := [(1, .int x7), (0, .ref (B0 + 97))]) rfl (by decide) rfl dX12_readMake_26 ?_
  refine z_aload_n C rfl 1 rfl dX12_readMake_27 ?_
  obtain ⟨x10, hg9, h⟩ := zb1_e h
  refine z_callV C zc_12 rfl (by decide) dX12_readMake_28 yy_X12_name (c_X12_name C.2.2.2.2.1  I8 L5 hg9) q_1391 q_1393 q_46 (by decide) (by decide) rfl rfl (Nat.le_of_ble_eq_true rfl) ⟨Nat.le_refl _, Nat.le_refl _, Nat.le_refl _, Nat.le_refl _⟩ ?_
  refine z_lstore_n C (lv' := [(2, .long x10), (1, .int x7), (0, .ref (B0 + 97))]) rfl (by decide) rfl dX12_readMake_31 ?_
  refine z_lload_n C rfl 0 rfl dX12_readMake_32 ?_
  refine z_bipush C (v := 97) (by decide) dX12_readMake_33 ?_
  refine z_bipush C (v := 110) (by decide) dX12_readMake_35 ?_
  refine z_bipush C (v := 100) (by decide) dX12_readMake_37 ?_
  refine z_iconst C (v := 0) (by decide) dX12_readMake_39 ?_
  refine z_iconst C (v := 0) (by decide) dX12_readMake_40 ?_
  obtain ⟨x12, hg11, h⟩ := zb1_e h
  refine z_callS C dX12_readMake_41 yy_X12_word (c_X12_word C.2.2.2.2.1  (97 : Int32) (110 : Int32) (100 : Int32) (0 : Int32) (0 : Int32) I8 L5 hg11) q_1397 q_1398 (by decide) (by decide) rfl rfl (Nat.le_of_ble_eq_true rfl) ⟨Nat.le_refl _, Nat.le_refl _, Nat.le_refl _, Nat.le_refl _⟩ ?_
  refine z_lif_ne C 52 (by decide) dX12_readMake_44 dX12_readMake_45 (fun hc => ?_) (fun hc => ?_)
  · have h := zif_f hc h
    refine z_lload_n C rfl 0 rfl dX12_readMake_52 ?_
    refine z_bipush C (v := 111) (by decide) dX12_readMake_53 ?_
    refine z_bipush C (v := 114) (by decide) dX12_readMake_55 ?_
    refine z_iconst C (v := 0) (by decide) dX12_readMake_57 ?_
    refine z_iconst C (v := 0) (by decide) dX12_readMake_58 ?_
    refine z_iconst C (v := 0) (by decide) dX12_readMake_59 ?_
    obtain ⟨x14, hg13, h⟩ := zb1_e h
    refine z_callS C dX12_readMake_60 yy_X12_word (c_X12_word C.2.2.2.2.1  (111 : Int32) (114 : Int32) (0 : Int32) (0 : Int32) (0 : Int32) I8 L5 hg13) q_1397 q_1398 (by decide) (by decide) rfl rfl (Nat.le_of_ble_eq_true rfl) ⟨Nat.le_refl _, Nat.le_refl _, Nat.le_refl _, Nat.le_refl _⟩ ?_
    refine z_lif_ne C 71 (by decide) dX12_readMake_63 dX12_readMake_64 (fun hc => ?_) (fun hc => ?_)
    · have h := zif_f hc h
      refine z_lload_n C rfl 0 rfl dX12_readMake_71 ?_
      refine z_bipush C (v := 108) (by decide) dX12_readMake_72 ?_
      refine z_bipush C (v := 101) (by decide) dX12_readMake_74 ?_
      refine z_bipush C (v := 115) (by decide) dX12_readMake_76 ?_
      refine z_bipush C (v := 115) (by decide) dX12_readMake_78 ?_
      refine z_iconst C (v := 0) (by decide) dX12_readMake_80 ?_
      obtain ⟨x16, hg15, h⟩ := zb1_e h
      refine z_callS C dX12_readMake_81 yy_X12_word (c_X12_word C.2.2.2.2.1  (108 : Int32) (101 : Int32) (115 : Int32) (115 : Int32) (0 : Int32) I8 L5 hg15) q_1397 q_1398 (by decide) (by decide) rfl rfl (Nat.le_of_ble_eq_true rfl) ⟨Nat.le_refl _, Nat.le_refl _, Nat.le_refl _, Nat.le_refl _⟩ ?_
      refine z_lif_ne C 92 (by decide) dX12_readMake_84 dX12_readMake_85 (fun hc => ?_) (fun hc => ?_)
      · have h := zif_f hc h
        refine z_iconst C (v := 0) (by decide) dX12_readMake_92 ?_
        refine z_lv [2, 1] (lv' := [(0, .ref (B0 + 97)), (1, .int x7)]) rfl ?_
        exact l_X12_readMake_93 C  x7 (0 : Int32) I8 L5 h
      · have h := zif_t hc h
        refine z_iconst C (v := 3) (by decide) dX12_readMake_88 ?_
        refine z_goto C 93 (by decide) dX12_readMake_89 ?_
        refine z_lv [2, 1] (lv' := [(0, .ref (B0 + 97)), (1, .int x7)]) rfl ?_
        exact l_X12_readMake_93 C  x7 (3 : Int32) I8 L5 h
    · have h := zif_t hc h
      refine z_iconst C (v := 2) (by decide) dX12_readMake_67 ?_
      refine z_goto C 93 (by decide) dX12_readMake_68 ?_
      refine z_lv [2, 1] (lv' := [(0, .ref (B0 + 97)), (1, .int x7)]) rfl ?_
      exact l_X12_readMake_93 C  x7 (2 : Int32) I8 L5 h
  · have h := zif_t hc h
    refine z_iconst C (v := 1) (by decide) dX12_readMake_48 ?_
    refine z_goto C 93 (by decide) dX12_readMake_49 ?_
    refine z_lv [2, 1] (lv' := [(0, .ref (B0 + 97)), (1, .int x7)]) rfl ?_
    exact l_X12_readMake_93 C  x7 (1 : Int32) I8 L5 h
set_option maxHeartbeats 4000000 in
set_option maxRecDepth 100000 in
theorem c_X12_readMake {r : zI × zL} (hE : zE0 l s0 a0 d cy B0) (I : zI) (L : zL) (h : f_X12_readMake I L = some r) : zM l s0 d cy B0 yX12_readMake cX12_readMake 6 none 4 89 [.ref (B0 + 97)] zSH zKn bc bs I L (.inl none) zSH zKn bc bs r.1 r.2 := by
  refine z_meth yy_X12_readMake hE (Nat.le_of_ble_eq_true rfl) (fun p e R s m args below meth c C => ?_)
  show zG p l e R s m args below meth c d cy B0 6 bc bs (zQ below s args d cy B0 bc bs (.inl none) zSH zKn bc bs r.1 r.2) 0 [(0, .ref (B0 + 97))] [] zSH zKn bc bs I L
  unfold f_X12_readMake at h
  refine z_aload_n C rfl 0 rfl dX12_readMake_0 ?_
  refine z_aload_n C rfl 0 rfl dX12_readMake_1 ?_
  refine z_geti C zc_12 dX12_readMake_2 50 97 rfl (by decide) (by decide) q_1219 rfl ?_
  refine z_bipush C (v := 24) (by decide) dX12_readMake_5 ?_
  refine z_icmp_ge C 14 (by decide) dX12_readMake_7 (fun hc => ?_) (fun hc => ?_)
  · have h := zif_t hc h
    refine z_iconst C (v := 0) (by decide) dX12_readMake_14 ?_
    exact l_X12_readMake_15 C  (0 : Int32) I L h
  · have h := zif_f hc h
    refine z_iconst C (v := 1) (by decide) dX12_readMake_10 ?_
    refine z_goto C 15 (by decide) dX12_readMake_11 ?_
    exact l_X12_readMake_15 C  (1 : Int32) I L h
end Zp05_16_walk
