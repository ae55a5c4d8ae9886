section Zp05_03_walk
variable {p : Program} {l : Launch} {e : Env} {R : Room} {s : State} {m : MethodId} {args : Array Value} {below : List Frame} {meth : Method} {c : Code} {s0 : State} {a0 : Array Value} {d : va_G} {cy : Nat → ClassId} {B0 : Nat} {bc bs : Nat}
theorem q_1018 : (Cond.code ({ cls := "DeviceFind", name := "rowAt", desc := "([JI)J" } : Jvm.MethodName) prog_1_method_27_code (2 : Nat) (Option.some Jvm.ClassFile.FieldType.long)) ∈ lw_tbl := List.mem_of_getElem? (i := 1018) (by decide +kernel)
theorem yy_X11_rowAt : zY yX11_rowAt cX11_rowAt 2 (some .long) 2 := ⟨q_1018, q_75, by decide +kernel, by decide +kernel, by decide +kernel⟩
noncomputable def f_X11_rowAt_17 (r0 : Nat) (w0 : Int64) (L : zL) : Option Int64 :=
  some w0
noncomputable def f_X11_rowAt_10 (r0 : Nat) (L : zL) : Option Int64 :=
  f_X11_rowAt_17 r0 (0 : Int64) L
noncomputable def f_X11_rowAt (r0 : Nat) (a1 : Int32) (L : zL) : Option Int64 :=
  if a1 < 0 then (f_X11_rowAt_10 r0 L) else (if a1 < (64 : Int32) then (zck (zbd a1 64) (f_X11_rowAt_17 r0 (L r0 a1.toNatClampNeg) L)) else (f_X11_rowAt_10 r0 L))
set_option maxHeartbeats 4000000 in
set_option maxRecDepth 100000 in
theorem l_X11_rowAt_17 {r : Int64} (C : zC p l e R s m args below meth c s0 a0 d cy B0 yX11_rowAt.cls cX11_rowAt 2 (some .long) bc bs bc bs 0 0 []) {r0 : Nat} (hr0 : zar 15 64 r0) (I : zI) (w0 : Int64) (L : zL) (h : f_X11_rowAt_17 r0 w0 L = some r) : zG p l e R s m args below meth c d cy B0 2 bc bs (zQ below s args d cy B0 bc bs (.inl (some (.long r))) zSH zKn bc bs I L) 17 [] [.long w0] zSH zKn bc bs I L := by
  unfold f_X11_rowAt_17 at h
  obtain rfl := Option.some.inj h
  exact z_lret C dX11_rowAt_17 rfl rfl
set_option maxHeartbeats 4000000 in
set_option maxRecDepth 100000 in
theorem l_X11_rowAt_10 {r : Int64} (C : zC p l e R s m args below meth c s0 a0 d cy B0 yX11_rowAt.cls cX11_rowAt 2 (some .long) bc bs bc bs 0 0 []) {r0 : Nat} (hr0 : zar 15 64 r0) (I : zI) (L : zL) (h : f_X11_rowAt_10 r0 L = some r) : zG p l e R s m args below meth c d cy B0 2 bc bs (zQ below s args d cy B0 bc bs (.inl (some (.long r))) zSH zKn bc bs I L) 10 [] [] zSH zKn bc bs I L := by
  unfold f_X11_rowAt_10 at h
  refine z_lconst C (v := 0) (by decide) dX11_rowAt_10 ?_
  refine z_goto C 17 (by decide) dX11_rowAt_11 ?_
  exact l_X11_rowAt_17 C hr0 I (0 : Int64) L h
set_option maxHeartbeats 4000000 in
set_option maxRecDepth 100000 in
theorem c_X11_rowAt {r : Int64} (hE : zE0 l s0 a0 d cy B0) {r0 : Nat} (hr0 : zar 15 64 r0) (a1 : Int32) (I : zI) (L : zL) (h : f_X11_rowAt r0 a1 L = some r) : zM l s0 d cy B0 yX11_rowAt cX11_rowAt 2 (some .long) 0 0 [.ref (B0 + r0), .int a1] zSH zKn bc bs I L (.inl (some (.long r))) zSH zKn bc bs I L := by
  refine z_meth yy_X11_rowAt hE (Nat.le_of_ble_eq_true rfl) (fun p e R s m args below meth c C => ?_)
  show zG p l e R s m args below meth c d cy B0 2 bc bs (zQ below s args d cy B0 bc bs (.inl (some (.long r))) zSH zKn bc bs I L) 0 [(0, .ref (B0 + r0)), (1, .int a1)] [] zSH zKn bc bs I L
  unfold f_X11_rowAt at h
  refine z_iload_n C rfl 1 rfl dX11_rowAt_0 ?_
  refine z_if_lt C 10 (by decide) dX11_rowAt_1 (fun hc => ?_) (fun hc => ?_)
  · have h := zif_t hc h
    refine z_lv [] (lv' := []) rfl ?_
    exact l_X11_rowAt_10 C hr0 I L h
  · have h := zif_f hc h
    refine z_iload_n C rfl 1 rfl dX11_rowAt_4 ?_
    refine z_bipush C (v := 64) (by decide) dX11_rowAt_5 ?_
    refine z_icmp_lt C 14 (by decide) dX11_rowAt_7 (fun hc => ?_) (fun hc => ?_)
    · have h := zif_t hc h
      refine z_aload_n C rfl 0 rfl dX11_rowAt_14 ?_
      refine z_iload_n C rfl 1 rfl dX11_rowAt_15 ?_
      obtain ⟨hb1, h⟩ := zck_e h
      refine z_laload C dX11_rowAt_16 hr0.1 hr0.2.1 hr0.2.2 (zbd_in hb1) ?_
      refine z_lv [] (lv' := []) rfl ?_
      exact l_X11_rowAt_17 C hr0 I (L r0 a1.toNatClampNeg) L h
    · have h := zif_f hc h
      refine z_lv [] (lv' := []) rfl ?_
      exact l_X11_rowAt_10 C hr0 I L h
theorem q_35 : Cond.selects "DeviceFind$Place" ⟨"DeviceFind$Place", "lowest", "()I"⟩ ⟨"DeviceFind$Place", "lowest", "()I"⟩ ∈ lw_tbl := List.mem_of_getElem? (i := 35) (by decide +kernel)
theorem q_36 : Cond.selects "DeviceFind$Place" ⟨"DeviceFind$Place", "highest", "()I"⟩ ⟨"DeviceFind$Place", "highest", "()I"⟩ ∈ lw_tbl := List.mem_of_getElem? (i := 36) (by decide +kernel)
theorem q_337 : (Cond.fieldLink "DeviceFind$Place" (64 : Nat) "DeviceFind$Peeler" "rows" "[J") ∈ lw_tbl := List.mem_of_getElem? (i := 337) (by decide +kernel)
theorem q_406 : (Cond.fieldLink "DeviceFind$Place" (15 : Nat) "DeviceFind$Place" "halo" "[J") ∈ lw_tbl := List.mem_of_getElem? (i := 406) (by decide +kernel)
theorem q_1005 : (Cond.code ({ cls := "DeviceFind$Place", name := "layHalo", desc := "()V" } : Jvm.MethodName) prog_8_method_7_code (4 : Nat) (Option.none : Option Jvm.ClassFile.FieldType)) ∈ lw_tbl := List.mem_of_getElem? (i := 1005) (by decide +kernel)
theorem q_1006 : (Cond.methodLink "DeviceFind$Place" (79 : Nat) ({ cls := "DeviceFind$Place", name := "lowest", desc := "()I" } : Jvm.MethodName)) ∈ lw_tbl := List.mem_of_getElem? (i := 1006) (by decide +kernel)
theorem q_1008 : (Cond.instanceMethod ({ cls := "DeviceFind$Place", name := "lowest", desc := "()I" } : Jvm.MethodName)) ∈ lw_tbl := List.mem_of_getElem? (i := 1008) (by decide +kernel)
theorem q_1011 : (Cond.methodLink "DeviceFind$Place" (83 : Nat) ({ cls := "DeviceFind$Place", name := "highest", desc := "()I" } : Jvm.MethodName)) ∈ lw_tbl := List.mem_of_getElem? (i := 1011) (by decide +kernel)
theorem q_1013 : (Cond.instanceMethod ({ cls := "DeviceFind$Place", name := "highest", desc := "()I" } : Jvm.MethodName)) ∈ lw_tbl := List.mem_of_getElem? (i := 1013) (by decide +kernel)
theorem q_1016 : (Cond.methodLinkNest "DeviceFind$Place" (75 : Nat) ({ cls := "DeviceFind", name := "rowAt", desc := "([JI)J" } : Jvm.MethodName) "DeviceFind") ∈ lw_tbl := List.mem_of_getElem? (i := 1016) (by decide +kernel)
theorem q_1017 : (Cond.static ({ cls := "DeviceFind", name := "rowAt", desc := "([JI)J" } : Jvm.MethodName)) ∈ lw_tbl := List.mem_of_getElem? (i := 1017) (by decide +kernel)
theorem yy_X6_layHalo : zY yX6_layHalo cX6_layHalo 4 none 0 := ⟨q_1005, q_87, by decide +kernel, by decide +kernel, by decide +kernel⟩
noncomputable def f_X6_layHalo_5 (k5 : Int32 → zI → zL → Option zL) (v1 : Int32) (I : zI) (L : zL) : Option zL :=
  zb1 (f_X6_highest I) (fun x4 => if x4 < v1 then (some L) else (zck (zbd v1 64) (zlt (L 58 v1.toNatClampNeg) (fun x6 => zlt (x6 <<< ((1 : Int32).toInt64 &&& 63)) (fun x7 => zlt ((x6.toUInt64 >>> ((1 : Int32).toInt64.toUInt64 &&& Int64.toUInt64 63)).toInt64) (fun x8 => zlt ((x6 ||| x7) ||| x8) (fun x9 => zb1 (f_X11_rowAt 58 (v1 - (1 : Int32)) L) (fun x11 => zb1 (f_X11_rowAt 58 (v1 + (1 : Int32)) L) (fun x13 => zlt ((x9 ||| x11) ||| x13) (fun x14 => zck (zbd v1 64) (zlt (zul L 76 v1.toNatClampNeg x14) (fun L16 => zlt (v1 + 1) (fun x17 => k5 x17 I L16)))))))))))))
noncomputable def f_X6_layHalo (I : zI) (L : zL) : Option zL :=
  zb1 (f_X6_lowest I) (fun x2 => zlp3 (f_X6_layHalo_5) zF x2 I L)
set_option maxHeartbeats 4000000 in
set_option maxRecDepth 100000 in
theorem l_X6_layHalo_5 {r : zL} (C : zC p l e R s m args below meth c s0 a0 d cy B0 yX6_layHalo.cls cX6_layHalo 4 none bc bs bc bs 2 60 []) (k5 : Int32 → zI → zL → Option zL) (hk5 : ∀ (v1 : Int32) (I : zI) (L : zL), k5 v1 I L = some r → zG p l e R s m args below meth c d cy B0 4 bc bs (zQ below s args d cy B0 bc bs (.inl none) zSH zKn bc bs I r) 5 [(0, .ref (B0 + 74)), (1, .int v1)] [] zSH zKn bc bs I L) (v1 : Int32) (I : zI) (L : zL) (h : f_X6_layHalo_5 k5 v1 I L = some r) : zG p l e R s m args below meth c d cy B0 4 bc bs (zQ below s args d cy B0 bc bs (.inl none) zSH zKn bc bs I r) 5 [(0, .ref (B0 + 74)), (1, .int v1)] [] zSH zKn bc bs I L := by
  unfold f_X6_layHalo_5 at h
  refine z_iload_n C rfl 1 rfl dX6_layHalo_5 ?_
  refine z_aload_n C rfl 0 rfl dX6_layHalo_6 ?_
  obtain ⟨x4, hg3, h⟩ := zb1_e h
  refine z_callV C zc_6 rfl (by decide) dX6_layHalo_7 yy_X6_highest (c_X6_highest C.2.2.2.2.1  I L hg3) q_1011 q_1013 q_36 (by decide) (by decide) rfl rfl (Nat.le_of_ble_eq_true rfl) ⟨Nat.le_refl _, Nat.le_refl _, Nat.le_refl _, Nat.le_refl _⟩ ?_
  refine z_icmp_gt C 72 (by decide) dX6_layHalo_10 (fun hc => ?_) (fun hc => ?_)
  · have h := zif_t hc h
    obtain rfl := Option.some.inj h
    exact z_vret C dX6_layHalo_72 rfl rfl
  · have h := zif_f hc h
    refine z_aload_n C rfl 0 rfl dX6_layHalo_13 ?_
    refine z_getr C zc_6 dX6_layHalo_14 3 74 57 rfl (by decide) (by decide) q_405 rfl rfl ?_
    refine z_getr C zc_5 dX6_layHalo_17 0 57 58 rfl (by decide) (by decide) q_337 rfl rfl ?_
    refine z_iload_n C rfl 1 rfl dX6_layHalo_20 ?_
    obtain ⟨hb5, h⟩ := zck_e h
    refine z_laload C dX6_layHalo_21 rfl rfl (by decide) (zbd_in hb5) ?_
    obtain ⟨x6, ex6, h⟩ := zlt_e h
    refine z_eql C ex6 ?_
    refine z_lstore_n C (lv' := [(2, .long x6), (0, .ref (B0 + 74)), (1, .int v1)]) rfl (by decide) rfl dX6_layHalo_22 ?_
    refine z_aload_n C rfl 1 rfl dX6_layHalo_23 ?_
    refine z_getr C zc_6 dX6_layHalo_24 4 74 76 rfl (by decide) (by decide) q_406 rfl rfl ?_
    refine z_iload_n C rfl 2 rfl dX6_layHalo_27 ?_
    refine z_lload_n C rfl 0 rfl dX6_layHalo_28 ?_
    refine z_lload_n C rfl 0 rfl dX6_layHalo_29 ?_
    refine z_iconst C (v := 1) (by decide) dX6_layHalo_30 ?_
    refine z_lshl C dX6_layHalo_31 ?_
    obtain ⟨x7, ex7, h⟩ := zlt_e h
    refine z_eql C ex7 ?_
    refine z_lor C dX6_layHalo_32 ?_
    refine z_lload_n C rfl 0 rfl dX6_layHalo_33 ?_
    refine z_iconst C (v := 1) (by decide) dX6_layHalo_34 ?_
    refine z_lushr C dX6_layHalo_35 ?_
    obtain ⟨x8, ex8, h⟩ := zlt_e h
    refine z_eql C ex8 ?_
    refine z_lor C dX6_layHalo_36 ?_
    obtain ⟨x9, ex9, h⟩ := zlt_e h
    refine z_eql C ex9 ?_
    refine z_aload_n C rfl 1 rfl dX6_layHalo_37 ?_
    refine z_getr C zc_6 dX6_layHalo_38 3 74 57 rfl (by decide) (by decide) q_405 rfl rfl ?_
    refine z_getr C zc_5 dX6_layHalo_41 0 57 58 rfl (by decide) (by decide) q_337 rfl rfl ?_
    refine z_iload_n C rfl 2 rfl dX6_layHalo_44 ?_
    refine z_iconst C (v := 1) (by decide) dX6_layHalo_45 ?_
    refine z_isub C dX6_layHalo_46 ?_
    obtain ⟨x11, hg10, h⟩ := zb1_e h
    refine z_callSN C dX6_layHalo_47 yy_X11_rowAt (c_X11_rowAt C.2.2.2.2.1 ⟨rfl, rfl, by decide⟩ (v1 - (1 : Int32)) I L hg10) q_1016 q_1017 (by decide) (by decide) rfl rfl (Nat.le_of_ble_eq_true rfl) ⟨Nat.le_refl _, Nat.le_refl _, Nat.le_refl _, Nat.le_refl _⟩ ?_
    refine z_lor C dX6_layHalo_50 ?_
    refine z_aload_n C rfl 1 rfl dX6_layHalo_51 ?_
    refine z_getr C zc_6 dX6_layHalo_52 3 74 57 rfl (by decide) (by decide) q_405 rfl rfl ?_
    refine z_getr C zc_5 dX6_layHalo_55 0 57 58 rfl (by decide) (by decide) q_337 rfl rfl ?_
    refine z_iload_n C rfl 2 rfl dX6_layHalo_58 ?_
    refine z_iconst C (v := 1) (by decide) dX6_layHalo_59 ?_
    refine z_iadd C dX6_layHalo_60 ?_
    obtain ⟨x13, hg12, h⟩ := zb1_e h
    refine z_callSN C dX6_layHalo_61 yy_X11_rowAt (c_X11_rowAt C.2.2.2.2.1 ⟨rfl, rfl, by decide⟩ (v1 + (1 : Int32)) I L hg12) q_1016 q_1017 (by decide) (by decide) rfl rfl (Nat.le_of_ble_eq_true rfl) ⟨Nat.le_refl _, Nat.le_refl _, Nat.le_refl _, Nat.le_refl _⟩ ?_
    refine z_lor C dX6_layHalo_64 ?_
    obtain ⟨x14, ex14, h⟩ := zlt_e h
    refine z_eql C ex14 ?_
    obtain ⟨hb15, h⟩ := zck_e h
    refine z_lastore C dX6_layHalo_65 rfl rfl (by decide) (zbd_in hb15) ?_
    obtain ⟨L16, eL16, h⟩ := zlt_e h
    refine z_eqL C eL16 ?_
    obtain ⟨x17, ex17, h⟩ := zlt_e h
    refine z_iinc C (j := 2) (v := x17) (lv' := [(1, .int x17), (2, .long x6), (0, .ref (B0 + 74))]) rfl (by rw [ex17]; rfl) (by decide) rfl dX6_layHalo_66 ?_
    refine z_goto C 5 (by decide) dX6_layHalo_69 ?_
    refine z_lv [2, 0] (lv' := [(0, .ref (B0 + 74)), (1, .int x17)]) rfl ?_
    exact hk5 x17 I L16 h
set_option maxHeartbeats 4000000 in
set_option maxRecDepth 100000 in
theorem L_X6_layHalo_5 {r : zL} (C : zC p l e R s m args below meth c s0 a0 d cy B0 yX6_layHalo.cls cX6_layHalo 4 none bc bs bc bs 2 60 []) (v1 : Int32) (I : zI) (L : zL) (h : zlp3 (f_X6_layHalo_5) zF v1 I L = some r) : zG p l e R s m args below meth c d cy B0 4 bc bs (zQ below s args d cy B0 bc bs (.inl none) zSH zKn bc bs I r) 5 [(0, .ref (B0 + 74)), (1, .int v1)] [] zSH zKn bc bs I L :=
 zlp3_e (fun (v1 : Int32) (I : zI) (L : zL) => zG p l e R s m args below meth c d cy B0 4 bc bs (zQ below s args d cy B0 bc bs (.inl none) zSH zKn bc bs I r) 5 [(0, .ref (B0 + 74)), (1, .int v1)] [] zSH zKn bc bs I L) (fun k9 hk9 v1 I L h => l_X6_layHalo_5 C k9 hk9 v1 I L h) zF v1 I L h
set_option maxHeartbeats 4000000 in
set_option maxRecDepth 100000 in
theorem c_X6_layHalo {r : zL} (hE : zE0 l s0 a0 d cy B0) (I : zI) (L : zL) (h : f_X6_layHalo I L = some r) : zM l s0 d cy B0 yX6_layHalo cX6_layHalo 4 none 2 60 [.ref (B0 + 74)] zSH zKn bc bs I L (.inl none) zSH zKn bc bs I r := by
  refine z_meth yy_X6_layHalo hE (Nat.le_of_ble_eq_true rfl) (fun p e R s m args below meth c C => ?_)
  show zG p l e R s m args below meth c d cy B0 4 bc bs (zQ below s args d cy B0 bc bs (.inl none) zSH zKn bc bs I r) 0 [(0, .ref (B0 + 74))] [] zSH zKn bc bs I L
  unfold f_X6_layHalo at h
  refine z_aload_n C rfl 0 rfl dX6_layHalo_0 ?_
  obtain ⟨x2, hg1, h⟩ := zb1_e h
  refine z_callV C zc_6 rfl (by decide) dX6_layHalo_1 yy_X6_lowest (c_X6_lowest C.2.2.2.2.1  I L hg1) q_1006 q_1008 q_35 (by decide) (by decide) rfl rfl (Nat.le_of_ble_eq_true rfl) ⟨Nat.le_refl _, Nat.le_refl _, Nat.le_refl _, Nat.le_refl _⟩ ?_
  refine z_istore_n C (lv' := [(1, .int x2), (0, .ref (B0 + 74))]) rfl (by decide) rfl dX6_layHalo_4 ?_
  refine z_lv [1, 0] (lv' := [(0, .ref (B0 + 74)), (1, .int x2)]) rfl ?_
  exact L_X6_layHalo_5 C  x2 I L h
theorem q_402 : (Cond.fieldLink "DeviceFind$Place" (9 : Nat) "DeviceFind$Place" "pinNodes" "[I") ∈ lw_tbl := List.mem_of_getElem? (i := 402) (by decide +kernel)
theorem q_407 : (Cond.fieldLink "DeviceFind$Place" (19 : Nat) "DeviceFind$Place" "pins" "I") ∈ lw_tbl := List.mem_of_getElem? (i := 407) (by decide +kernel)
theorem q_1029 : (Cond.code ({ cls := "DeviceFind$Place", name := "isFree", desc := "(I)Z" } : Jvm.MethodName) prog_8_method_9_code (3 : Nat) (Option.some Jvm.ClassFile.FieldType.boolean)) ∈ lw_tbl := List.mem_of_getElem? (i := 1029) (by decide +kernel)
theorem yy_X6_isFree : zY yX6_isFree cX6_isFree 3 (some .boolean) 1 := ⟨q_1029, q_87, by decide +kernel, by decide +kernel, by decide +kernel⟩
noncomputable def f_X6_isFree_2 (k2 : Int32 → Int32 → zI → Option Int32) (v1 : Int32) (v2 : Int32) (I : zI) : Option Int32 :=
  if (I 74 5) ≤ v2 then (some (1 : Int32)) else (zck (zbd v2 4) (if (I 75 v2.toNatClampNeg) = v1 then (some (0 : Int32)) else (zlt (v2 + 1) (fun x2 => k2 v1 x2 I))))
noncomputable def f_X6_isFree (a1 : Int32) (I : zI) : Option Int32 :=
  zlp3 (f_X6_isFree_2) zF a1 (0 : Int32) I
set_option maxHeartbeats 4000000 in
set_option maxRecDepth 100000 in
theorem l_X6_isFree_2 {r : Int32} (C : zC p l e R s m args below meth c s0 a0 d cy B0 yX6_isFree.cls cX6_isFree 3 (some .boolean) bc bs bc bs 0 0 []) (L : zL) (k2 : Int32 → Int32 → zI → Option Int32) (hk2 : ∀ (v1 : Int32) (v2 : Int32) (I : zI), k2 v1 v2 I = some r → zG p l e R s m args below meth c d cy B0 3 bc bs (zQ below s args d cy B0 bc bs (.inl (some (.int r))) zSH zKn bc bs I L) 2 [(0, .ref (B0 + 74)), (1, .int v1), (2, .int v2)] [] zSH zKn bc bs I L) (v1 : Int32) (v2 : Int32) (I : zI) (h : f_X6_isFree_2 k2 v1 v2 I = some r) : zG p l e R s m args below meth c d cy B0 3 bc bs (zQ below s args d cy B0 bc bs (.inl (some (.int r))) zSH zKn bc bs I L) 2 [(0, .ref (B0 + 74)), (1, .int v1), (2, .int v2)] [] zSH zKn bc bs I L := by
  unfold f_X6_isFree_2 at h
  refine z_iload_n C rfl 2 rfl dX6_isFree_2 ?_
  refine z_aload_n C rfl 0 rfl dX6_isFree_3 ?_
  refine z_geti C zc_6 dX6_isFree_4 5 74 rfl (by decide) (by decide) q_407 rfl ?_
  refine z_icmp_ge C 28 (by decide) dX6_isFree_7 (fun hc => ?_) (fun hc => ?_)
  · have h := zif_t hc h
    refine z_iconst C (v := 1) (by decide) dX6_isFree_28 ?_
    obtain rfl := Option.some.inj h
    exact z_iret C dX6_isFree_29 .boolean rfl rfl rfl
  · have h := zif_f hc h
    refine z_aload_n C rfl 0 rfl dX6_isFree_10 ?_
    refine z_getr C zc_6 dX6_isFree_11 0 74 75 rfl (by decide) (by decide) q_402 rfl rfl ?_
    refine z_iload_n C rfl 2 rfl dX6_isFree_14 ?_
    obtain ⟨hb1, h⟩ := zck_e h
    refine z_iaload C dX6_isFree_15 rfl rfl (by decide) (zbd_in hb1) ?_
    refine z_iload_n C rfl 1 rfl dX6_isFree_16 ?_
    refine z_icmp_ne C 22 (by decide) dX6_isFree_17 (fun hc => ?_) (fun hc => ?_)
    · have h := zif_f hc h
      obtain ⟨x2, ex2, h⟩ := zlt_e h
      refine z_iinc C (j := 2) (v := x2) (lv' := [(2, .int x2), (0, .ref (B0 + 74)), (1, .int v1)]) rfl (by rw [ex2]; rfl) (by decide) rfl dX6_isFree_22 ?_
      refine z_goto C 2 (by decide) dX6_isFree_25 ?_
      refine z_lv [1, 2, 0] (lv' := [(0, .ref (B0 + 74)), (1, .int v1), (2, .int x2)]) rfl ?_
      exact hk2 v1 x2 I h
    · have h := zif_t hc h
      refine z_iconst C (v := 0) (by decide) dX6_isFree_20 ?_
      obtain rfl := Option.some.inj h
      exact z_iret C dX6_isFree_21 .boolean rfl rfl rfl
set_option maxHeartbeats 4000000 in
set_option maxRecDepth 100000 in
theorem L_X6_isFree_2 {r : Int32} (C : zC p l e R s m args below meth c s0 a0 d cy B0 yX6_isFree.cls cX6_isFree 3 (some .boolean) bc bs bc bs 0 0 []) (L : zL) (v1 : Int32) (v2 : Int32) (I : zI) (h : zlp3 (f_X6_isFree_2) zF v1 v2 I = some r) : zG p l e R s m args below meth c d cy B0 3 bc bs (zQ below s args d cy B0 bc bs (.inl (some (.int r))) zSH zKn bc bs I L) 2 [(0, .ref (B0 + 74)), (1, .int v1), (2, .int v2)] [] zSH zKn bc bs I L :=
 zlp3_e (fun (v1 : Int32) (v2 : Int32) (I : zI) => zG p l e R s m args below meth c d cy B0 3 bc bs (zQ below s args d cy B0 bc bs (.inl (some (.int r))) zSH zKn bc bs I L) 2 [(0, .ref (B0 + 74)), (1, .int v1), (2, .int v2)] [] zSH zKn bc bs I L) (fun k9 hk9 v1 v2 I h => l_X6_isFree_2 C L k9 hk9 v1 v2 I h) zF v1 v2 I h
set_option maxHeartbeats 4000000 in
set_option maxRecDepth 100000 in
theorem c_X6_isFree {r : Int32} (hE : zE0 l s0 a0 d cy B0) (a1 : Int32) (I : zI) (L : zL) (h : f_X6_isFree a1 I = some r) : zM l s0 d cy B0 yX6_isFree cX6_isFree 3 (some .boolean) 0 0 [.ref (B0 + 74), .int a1] zSH zKn bc bs I L (.inl (some (.int r))) zSH zKn bc bs I L := by
  refine z_meth yy_X6_isFree hE (Nat.le_of_ble_eq_true rfl) (fun p e R s m args below meth c C => ?_)
  show zG p l e R s m args below meth c d cy B0 3 bc bs (zQ below s args d cy B0 bc bs (.inl (some (.int r))) zSH zKn bc bs I L) 0 [(0, .ref (B0 + 74)), (1, .int a1)] [] zSH zKn bc bs I L
  unfold f_X6_isFree at h
  refine z_iconst C (v := 0) (by decide) dX6_isFree_0 ?_
  refine z_istore_n C (lv' := [(2, .int (0 : Int32)), (0, .ref (B0 + 74)), (1, .int a1)]) rfl (by decide) rfl dX6_isFree_1 ?_
  refine z_lv [1, 2, 0] (lv' := [(0, .ref (B0 + 74)), (1, .int a1), (2, .int (0 : Int32))]) rfl ?_
  exact L_X6_isFree_2 C L a1 (0 : Int32) I h
theorem q_38 : Cond.selects "DeviceFind$Place" ⟨"DeviceFind$Place", "isFree", "(I)Z"⟩ ⟨"DeviceFind$Place", "isFree", "(I)Z"⟩ ∈ lw_tbl := List.mem_of_getElem? (i := 38) (by decide +kernel)
theorem q_179 : (Cond.fieldLink "DeviceFind$Place" (91 : Nat) "DeviceFind$Plan" "wireLayers" "[I") ∈ lw_tbl := List.mem_of_getElem? (i := 179) (by decide +kernel)
theorem q_326 : (Cond.fieldLink "DeviceFind$Place" (86 : Nat) "DeviceFind$Layers" "rows" "[[J") ∈ lw_tbl := List.mem_of_getElem? (i := 326) (by decide +kernel)
theorem q_371 : (Cond.fieldLink "DeviceFind$Place" (97 : Nat) "DeviceFind$Nets" "nodeAt" "[[I") ∈ lw_tbl := List.mem_of_getElem? (i := 371) (by decide +kernel)
theorem q_403 : (Cond.fieldLink "DeviceFind$Place" (23 : Nat) "DeviceFind$Place" "layers" "LDeviceFind$Layers;") ∈ lw_tbl := List.mem_of_getElem? (i := 403) (by decide +kernel)
theorem q_404 : (Cond.fieldLink "DeviceFind$Place" (27 : Nat) "DeviceFind$Place" "nets" "LDeviceFind$Nets;") ∈ lw_tbl := List.mem_of_getElem? (i := 404) (by decide +kernel)
theorem q_1022 : (Cond.code ({ cls := "DeviceFind$Place", name := "firstFree", desc := "(LDeviceFind$Plan;I)I" } : Jvm.MethodName) prog_8_method_8_code (9 : Nat) (Option.some Jvm.ClassFile.FieldType.int)) ∈ lw_tbl := List.mem_of_getElem? (i := 1022) (by decide +kernel)
theorem q_1023 : (Cond.methodLink "DeviceFind$Place" (69 : Nat) ({ cls := "java/lang/Long", name := "bitCount", desc := "(J)I" } : Jvm.MethodName)) ∈ lw_tbl := List.mem_of_getElem? (i := 1023) (by decide +kernel)
theorem q_1024 : (Cond.methodLinkNest "DeviceFind$Place" (94 : Nat) ({ cls := "DeviceFind", name := "leftmost", desc := "(J)I" } : Jvm.MethodName) "DeviceFind") ∈ lw_tbl := List.mem_of_getElem? (i := 1024) (by decide +kernel)
theorem q_1025 : (Cond.methodLinkNest "DeviceFind$Place" (101 : Nat) ({ cls := "DeviceFind", name := "squareAt", desc := "(II)I" } : Jvm.MethodName) "DeviceFind") ∈ lw_tbl := List.mem_of_getElem? (i := 1025) (by decide +kernel)
theorem q_1026 : (Cond.methodLink "DeviceFind$Place" (108 : Nat) ({ cls := "DeviceFind$Place", name := "isFree", desc := "(I)Z" } : Jvm.MethodName)) ∈ lw_tbl := List.mem_of_getElem? (i := 1026) (by decide +kernel)
theorem q_1028 : (Cond.instanceMethod ({ cls := "DeviceFind$Place", name := "isFree", desc := "(I)Z" } : Jvm.MethodName)) ∈ lw_tbl := List.mem_of_getElem? (i := 1028) (by decide +kernel)
theorem yy_X6_firstFree : zY yX6_firstFree cX6_firstFree 9 (some .int) 2 := ⟨q_1022, q_87, by decide +kernel, by decide +kernel, by decide +kernel⟩
noncomputable def f_X6_firstFree_110 (k8 : Int32 → Int32 → Int32 → zI → zL → Option Int32) (k51 : Int32 → Int32 → Int32 → Int64 → Int32 → zI → zL → Option Int32) (P : Nat) (v2 : Int32) (v3 : Int32) (v4 : Int32) (v5 : Int64) (v7 : Int32) (I : zI) (L : zL) : Option Int32 :=
  zlt (v7 + (-1)) (fun x24 => k51 v2 v3 v4 v5 x24 I L)
noncomputable def f_X6_firstFree_98 (k8 : Int32 → Int32 → Int32 → zI → zL → Option Int32) (k51 : Int32 → Int32 → Int32 → Int64 → Int32 → zI → zL → Option Int32) (P : Nat) (v2 : Int32) (v3 : Int32) (v4 : Int32) (v5 : Int64) (v7 : Int32) (v8 : Int32) (I : zI) (L : zL) : Option Int32 :=
  zb1 (f_X6_isFree v8 I) (fun x23 => if x23 = 0 then (f_X6_firstFree_110 k8 k51 P v2 v3 v4 v5 v7 I L) else (f_X6_firstFree_110 k8 k51 P v2 v8 v4 v5 v7 I L))
noncomputable def f_X6_firstFree_51 (k8 : Int32 → Int32 → Int32 → zI → zL → Option Int32) (P : Nat) (k51 : Int32 → Int32 → Int32 → Int64 → Int32 → zI → zL → Option Int32) (v2 : Int32) (v3 : Int32) (v4 : Int32) (v5 : Int64) (v7 : Int32) (I : zI) (L : zL) : Option Int32 :=
  if v7 ≤ 0 then (zlt (v4 + 1) (fun x13 => k8 v2 v3 x13 I L)) else (zck (zbd v2 8) (zb1 (f_X11_leftmost v5) (fun x16 => zb1 (f_X11_squareAt x16 v4) (fun x18 => zck (zbd x18 4096) (zlt (I ((63 + v2.toNatClampNeg)) x18.toNatClampNeg) (fun x20 => zlt (v5 &&& (v5 - (1 : Int64))) (fun x21 => if v3 = (-1 : Int32) then (f_X6_firstFree_98 k8 k51 P v2 v3 v4 x21 v7 x20 I L) else (if v3 ≤ x20 then (f_X6_firstFree_110 k8 k51 P v2 v3 v4 x21 v7 I L) else (f_X6_firstFree_98 k8 k51 P v2 v3 v4 x21 v7 x20 I L)))))))))
noncomputable def f_X6_firstFree_8 (P : Nat) (k8 : Int32 → Int32 → Int32 → zI → zL → Option Int32) (v2 : Int32) (v3 : Int32) (v4 : Int32) (I : zI) (L : zL) : Option Int32 :=
  zb1 (f_X6_highest I) (fun x4 => if x4 < v4 then (some v3) else (zck (zbd v4 64) (zck (zbd v2 8) (zlt (I ((P + 1 + 4)) v2.toNatClampNeg) (fun x7 => zck (zbd x7 24) (zck (zbd v4 64) (zlt ((L 76 v4.toNatClampNeg) &&& (L ((33 + x7.toNatClampNeg)) v4.toNatClampNeg)) (fun x10 => zb1 (f_J13_bitCount_95d88 x10) (fun x12 => zlp7 (f_X6_firstFree_51 k8 P) zF v2 v3 v4 x10 x12 I L)))))))))
noncomputable def f_X6_firstFree (P : Nat) (a2 : Int32) (I : zI) (L : zL) : Option Int32 :=
  zb1 (f_X6_lowest I) (fun x2 => zlp5 (f_X6_firstFree_8 P) zF a2 (-1 : Int32) x2 I L)
set_option maxHeartbeats 4000000 in
set_option maxRecDepth 100000 in
theorem l_X6_firstFree_110 {r : Int32} (C : zC p l e R s m args below meth c s0 a0 d cy B0 yX6_firstFree.cls cX6_firstFree 9 (some .int) bc bs bc bs 2 60 []) {P : Nat} (hP : zpl P) (k8 : Int32 → Int32 → Int32 → zI → zL → Option Int32) (hk8 : ∀ (v2 : Int32) (v3 : Int32) (v4 : Int32) (I : zI) (L : zL), k8 v2 v3 v4 I L = some r → zG p l e R s m args below meth c d cy B0 9 bc bs (zQ below s args d cy B0 bc bs (.inl (some (.int r))) zSH zKn bc bs I L) 8 [(0, .ref (B0 + 74)), (1, .ref (B0 + P)), (2, .int v2), (3, .int v3), (4, .int v4)] [] zSH zKn bc bs I L) (k51 : Int32 → Int32 → Int32 → Int64 → Int32 → zI → zL → Option Int32) (hk51 : ∀ (v2 : Int32) (v3 : Int32) (v4 : Int32) (v5 : Int64) (v7 : Int32) (I : zI) (L : zL), k51 v2 v3 v4 v5 v7 I L = some r → zG p l e R s m args below meth c d cy B0 9 bc bs (zQ below s args d cy B0 bc bs (.inl (some (.int r))) zSH zKn bc bs I L) 51 [(0, .ref (B0 + 74)), (1, .ref (B0 + P)), (2, .int v2), (3, .int v3), (4, .int v4), (5, .long v5), (7, .int v7)] [] zSH zKn bc bs I L) (v2 : Int32) (v3 : Int32) (v4 : Int32) (v5 : Int64) (v7 : Int32) (I : zI) (L : zL) (h : f_X6_firstFree_110 k8 k51 P v2 v3 v4 v5 v7 I L = some r) : zG p l e R s m args below meth c d cy B0 9 bc bs (zQ below s args d cy B0 bc bs (.inl (some (.int r))) zSH zKn bc bs I L) 110 [(0, .ref (B0 + 74)), (1, .ref (B0 + P)), (2, .int v2), (3, .int v3), (4, .int v4), (5, .long v5), (7, .int v7)] [] zSH zKn bc bs I L := by
  unfold f_X6_firstFree_110 at h
  obtain ⟨x24, ex24, h⟩ := zlt_e h
  refine z_iinc C (j := 6) (v := x24) (lv' := [(7, .int x24), (0, .ref (B0 + 74)), (1, .ref (B0 + P)), (2, .int v2), (3, .int v3), (4, .int v4), (5, .long v5)]) rfl (by rw [ex24]; rfl) (by decide) rfl dX6_firstFree_110 ?_
  refine z_goto C 51 (by decide) dX6_firstFree_113 ?_
  refine z_lv [1, 2, 3, 4, 5, 6, 0] (lv' := [(0, .ref (B0 + 74)), (1, .ref (B0 + P)), (2, .int v2), (3, .int v3), (4, .int v4), (5, .long v5), (7, .int x24)]) rfl ?_
  exact hk51 v2 v3 v4 v5 x24 I L h
set_option maxHeartbeats 4000000 in
set_option maxRecDepth 100000 in
theorem l_X6_firstFree_98 {r : Int32} (C : zC p l e R s m args below meth c s0 a0 d cy B0 yX6_firstFree.cls cX6_firstFree 9 (some .int) bc bs bc bs 2 60 []) {P : Nat} (hP : zpl P) (k8 : Int32 → Int32 → Int32 → zI → zL → Option Int32) (hk8 : ∀ (v2 : Int32) (v3 : Int32) (v4 : Int32) (I : zI) (L : zL), k8 v2 v3 v4 I L = some r → zG p l e R s m args below meth c d cy B0 9 bc bs (zQ below s args d cy B0 bc bs (.inl (some (.int r))) zSH zKn bc bs I L) 8 [(0, .ref (B0 + 74)), (1, .ref (B0 + P)), (2, .int v2), (3, .int v3), (4, .int v4)] [] zSH zKn bc bs I L) (k51 : Int32 → Int32 → Int32 → Int64 → Int32 → zI → zL → Option Int32) (hk51 : ∀ (v2 : Int32) (v3 : Int32) (v4 : Int32) (v5 : Int64) (v7 : Int32) (I : zI) (L : zL), k51 v2 v3 v4 v5 v7 I L = some r → zG p l e R s m args below meth c d cy B0 9 bc bs (zQ below s args d cy B0 bc bs (.inl (some (.int r))) zSH zKn bc bs I L) 51 [(0, .ref (B0 + 74)), (1, .ref (B0 + P)), (2, .int v2), (3, .int v3), (4, .int v4), (5, .long v5), (7, .int v7)] [] zSH zKn bc bs I L) (v2 : Int32) (v3 : Int32) (v4 : Int32) (v5 : Int64) (v7 : Int32) (v8 : Int32) (I : zI) (L : zL) (h : f_X6_firstFree_98 k8 k51 P v2 v3 v4 v5 v7 v8 I L = some r) : zG p l e R s m args below meth c d cy B0 9 bc bs (zQ below s args d cy B0 bc bs (.inl (some (.int r))) zSH zKn bc bs I L) 98 [(0, .ref (B0 + 74)), (1, .ref (B0 + P)), (2, .int v2), (3, .int v3), (4, .int v4), (5, .long v5), (7, .int v7), (8, .int v8)] [] zSH zKn bc bs I L := by
  unfold f_X6_firstFree_98 at h
  refine z_aload_n C rfl 0 rfl dX6_firstFree_98 ?_
  refine z_iload C 7 rfl dX6_firstFree_99 ?_
  obtain ⟨x23, hg22, h⟩ := zb1_e h
  refine z_callV C zc_6 rfl (by decide) dX6_firstFree_101 yy_X6_isFree (c_X6_isFree C.2.2.2.2.1  v8 I L hg22) q_1026 q_1028 q_38 (by decide) (by decide) rfl rfl (Nat.le_of_ble_eq_true rfl) ⟨Nat.le_refl _, Nat.le_refl _, Nat.le_refl _, Nat.le_refl _⟩ ?_
  refine z_if_eq C 110 (by decide) dX6_firstFree_104 (fun hc => ?_) (fun hc => ?_)
  · have h := zif_t hc h
    refine z_lv [0, 1, 2, 3, 4, 5, 6] (lv' := [(0, .ref (B0 + 74)), (1, .ref (B0 + P)), (2, .int v2), (3, .int v3), (4, .int v4), (5, .long v5), (7, .int v7)]) rfl ?_
    exact l_X6_firstFree_110 C hP k8 hk8 k51 hk51 v2 v3 v4 v5 v7 I L h
  · have h := zif_f hc h
    refine z_iload C 7 rfl dX6_firstFree_107 ?_
    refine z_istore_n C (lv' := [(3, .int v8), (0, .ref (B0 + 74)), (1, .ref (B0 + P)), (2, .int v2), (4, .int v4), (5, .long v5), (7, .int v7), (8, .int v8)]) rfl (by decide) rfl dX6_firstFree_109 ?_
    refine z_lv [1, 2, 3, 0, 4, 5, 6] (lv' := [(0, .ref (B0 + 74)), (1, .ref (B0 + P)), (2, .int v2), (3, .int v8), (4, .int v4), (5, .long v5), (7, .int v7)]) rfl ?_
    exact l_X6_firstFree_110 C hP k8 hk8 k51 hk51 v2 v8 v4 v5 v7 I L h
set_option maxHeartbeats 4000000 in
set_option maxRecDepth 100000 in
theorem l_X6_firstFree_51 {r : Int32} (C : zC p l e R s m args below meth c s0 a0 d cy B0 yX6_firstFree.cls cX6_firstFree 9 (some .int) bc bs bc bs 2 60 []) {P : Nat} (hP : zpl P) (k8 : Int32 → Int32 → Int32 → zI → zL → Option Int32) (hk8 : ∀ (v2 : Int32) (v3 : Int32) (v4 : Int32) (I : zI) (L : zL), k8 v2 v3 v4 I L = some r → zG p l e R s m args below meth c d cy B0 9 bc bs (zQ below s args d cy B0 bc bs (.inl (some (.int r))) zSH zKn bc bs I L) 8 [(0, .ref (B0 + 74)), (1, .ref (B0 + P)), (2, .int v2), (3, .int v3), (4, .int v4)] [] zSH zKn bc bs I L) (k51 : Int32 → Int32 → Int32 → Int64 → Int32 → zI → zL → Option Int32) (hk51 : ∀ (v2 : Int32) (v3 : Int32) (v4 : Int32) (v5 : Int64) (v7 : Int32) (I : zI) (L : zL), k51 v2 v3 v4 v5 v7 I L = some r → zG p l e R s m args below meth c d cy B0 9 bc bs (zQ below s args d cy B0 bc bs (.inl (some (.int r))) zSH zKn bc bs I L) 51 [(0, .ref (B0 + 74)), (1, .ref (B0 + P)), (2, .int v2), (3, .int v3), (4, .int v4), (5, .long v5), (7, .int v7)] [] zSH zKn bc bs I L) (v2 : Int32) (v3 : Int32) (v4 : Int32) (v5 : Int64) (v7 : Int32) (I : zI) (L : zL) (h : f_X6_firstFree_51 k8 P k51 v2 v3 v4 v5 v7 I L = some r) : zG p l e R s m args below meth c d cy B0 9 bc bs (zQ below s args d cy B0 bc bs (.inl (some (.int r))) zSH zKn bc bs I L) 51 [(0, .ref (B0 + 74)), (1, .ref (B0 + P)), (2, .int v2), (3, .int v3), (4, .int v4), (5, .long v5), (7, .int v7)] [] zSH zKn bc bs I L := by
  unfold f_X6_firstFree_51 at h
  refine z_iload C 6 rfl dX6_firstFree_51 ?_
  refine z_if_le C 116 (by decide) dX6_firstFree_53 (fun hc => ?_) (fun hc => ?_)
  · have h := zif_t hc h
    obtain ⟨x13, ex13, h⟩ := zlt_e h
    refine z_iinc C (j := 4) (v := x13) (lv' := [(4, .int x13), (0, .ref (B0 + 74)), (1, .ref (B0 + P)), (2, .int v2), (3, .int v3), (5, .long v5), (7, .int v7)]) rfl (by rw [ex13]; rfl) (by decide) rfl dX6_firstFree_116 ?_
    refine z_goto C 8 (by decide) dX6_firstFree_119 ?_
    refine z_lv [1, 2, 3, 4, 0] (lv' := [(0, .ref (B0 + 74)), (1, .ref (B0 + P)), (2, .int v2), (3, .int v3), (4, .int x13)]) rfl ?_
    exact hk8 v2 v3 x13 I L h
  · have h := zif_f hc h
    refine z_aload_n C rfl 0 rfl dX6_firstFree_56 ?_
    refine z_getr C zc_6 dX6_firstFree_57 2 74 61 rfl (by decide) (by decide) q_404 rfl rfl ?_
    refine z_getr C zc_3 dX6_firstFree_60 0 61 62 rfl (by decide) (by decide) q_371 rfl rfl ?_
    refine z_iload_n C rfl 2 rfl dX6_firstFree_63 ?_
    obtain ⟨hb14, h⟩ := zck_e h
    refine z_aaload C dX6_firstFree_64 (t := 4) rfl (by decide) rfl (by decide) (zbd_in hb14) (z_rowI (zbd_lt hb14)).1 ?_
    refine z_lload C 5 rfl dX6_firstFree_65 ?_
    obtain ⟨x16, hg15, h⟩ := zb1_e h
    refine z_callSN C dX6_firstFree_67 yy_X11_leftmost (c_X11_leftmost C.2.2.2.2.1  v5 I L hg15) q_1024 q_934 (by decide) (by decide) rfl rfl (Nat.le_of_ble_eq_true rfl) ⟨Nat.le_refl _, Nat.le_refl _, Nat.le_refl _, Nat.le_refl _⟩ ?_
    refine z_iload C 4 rfl dX6_firstFree_70 ?_
    obtain ⟨x18, hg17, h⟩ := zb1_e h
    refine z_callSN C dX6_firstFree_72 yy_X11_squareAt (c_X11_squareAt C.2.2.2.2.1  x16 v4 I L hg17) q_1025 q_858 (by decide) (by decide) rfl rfl (Nat.le_of_ble_eq_true rfl) ⟨Nat.le_refl _, Nat.le_refl _, Nat.le_refl _, Nat.le_refl _⟩ ?_
    obtain ⟨hb19, h⟩ := zck_e h
    refine z_iaload C dX6_firstFree_75 (z_rowI (zbd_lt hb14)).2.1 (z_rowI (zbd_lt hb14)).2.2.1 (z_rowI (zbd_lt hb14)).2.2.2 (zbd_in hb19) ?_
    obtain ⟨x20, ex20, h⟩ := zlt_e h
    refine z_eqi C ex20 ?_
    refine z_istore C (lv' := [(8, .int x20), (0, .ref (B0 + 74)), (1, .ref (B0 + P)), (2, .int v2), (3, .int v3), (4, .int v4), (5, .long v5), (7, .int v7)]) (by decide) rfl dX6_firstFree_76 ?_
    refine z_lload C 6 rfl dX6_firstFree_78 ?_
    refine z_lload C 6 rfl dX6_firstFree_80 ?_
    refine z_lconst C (v := 1) (by decide) dX6_firstFree_82 ?_
    refine z_lsub C dX6_firstFree_83 ?_
    refine z_land C dX6_firstFree_84 ?_
    obtain ⟨x21, ex21, h⟩ := zlt_e h
    refine z_eql C ex21 ?_
    refine z_lstore C (lv' := [(5, .long x21), (8, .int x20), (0, .ref (B0 + 74)), (1, .ref (B0 + P)), (2, .int v2), (3, .int v3), (4, .int v4), (7, .int v7)]) (by decide) rfl dX6_firstFree_85 ?_
    refine z_iload_n C rfl 5 rfl dX6_firstFree_87 ?_
    refine z_iconst C (v := -1) (by decide) dX6_firstFree_88 ?_
    refine z_icmp_eq C 98 (by decide) dX6_firstFree_89 (fun hc => ?_) (fun hc => ?_)
    · have h := zif_t hc h
      refine z_lv [2, 3, 4, 5, 6, 0, 7, 1] (lv' := [(0, .ref (B0 + 74)), (1, .ref (B0 + P)), (2, .int v2), (3, .int v3), (4, .int v4), (5, .long x21), (7, .int v7), (8, .int x20)]) rfl ?_
      exact l_X6_firstFree_98 C hP k8 hk8 k51 hk51 v2 v3 v4 x21 v7 x20 I L h
    · have h := zif_f hc h
      refine z_iload C 1 rfl dX6_firstFree_92 ?_
      refine z_iload_n C rfl 5 rfl dX6_firstFree_94 ?_
      refine z_icmp_ge C 110 (by decide) dX6_firstFree_95 (fun hc => ?_) (fun hc => ?_)
      · have h := zif_t hc h
        refine z_lv [2, 3, 4, 5, 6, 0, 7] (lv' := [(0, .ref (B0 + 74)), (1, .ref (B0 + P)), (2, .int v2), (3, .int v3), (4, .int v4), (5, .long x21), (7, .int v7)]) rfl ?_
        exact l_X6_firstFree_110 C hP k8 hk8 k51 hk51 v2 v3 v4 x21 v7 I L h
      · have h := zif_f hc h
        refine z_lv [2, 3, 4, 5, 6, 0, 7, 1] (lv' := [(0, .ref (B0 + 74)), (1, .ref (B0 + P)), (2, .int v2), (3, .int v3), (4, .int v4), (5, .long x21), (7, .int v7), (8, .int x20)]) rfl ?_
        exact l_X6_firstFree_98 C hP k8 hk8 k51 hk51 v2 v3 v4 x21 v7 x20 I L h
set_option maxHeartbeats 4000000 in
set_option maxRecDepth 100000 in
theorem L_X6_firstFree_51 {r : Int32} (C : zC p l e R s m args below meth c s0 a0 d cy B0 yX6_firstFree.cls cX6_firstFree 9 (some .int) bc bs bc bs 2 60 []) {P : Nat} (hP : zpl P) (k8 : Int32 → Int32 → Int32 → zI → zL → Option Int32) (hk8 : ∀ (v2 : Int32) (v3 : Int32) (v4 : Int32) (I : zI) (L : zL), k8 v2 v3 v4 I L = some r → zG p l e R s m args below meth c d cy B0 9 bc bs (zQ below s args d cy B0 bc bs (.inl (some (.int r))) zSH zKn bc bs I L) 8 [(0, .ref (B0 + 74)), (1, .ref (B0 + P)), (2, .int v2), (3, .int v3), (4, .int v4)] [] zSH zKn bc bs I L) (v2 : Int32) (v3 : Int32) (v4 : Int32) (v5 : Int64) (v7 : Int32) (I : zI) (L : zL) (h : zlp7 (f_X6_firstFree_51 k8 P) zF v2 v3 v4 v5 v7 I L = some r) : zG p l e R s m args below meth c d cy B0 9 bc bs (zQ below s args d cy B0 bc bs (.inl (some (.int r))) zSH zKn bc bs I L) 51 [(0, .ref (B0 + 74)), (1, .ref (B0 + P)), (2, .int v2), (3, .int v3), (4, .int v4), (5, .long v5), (7, .int v7)] [] zSH zKn bc bs I L :=
 zlp7_e (fun (v2 : Int32) (v3 : Int32) (v4 : Int32) (v5 : Int64) (v7 : Int32) (I : zI) (L : zL) => zG p l e R s m args below meth c d cy B0 9 bc bs (zQ below s args d cy B0 bc bs (.inl (some (.int r))) zSH zKn bc bs I L) 51 [(0, .ref (B0 + 74)), (1, .ref (B0 + P)), (2, .int v2), (3, .int v3), (4, .int v4), (5, .long v5), (7, .int v7)] [] zSH zKn bc bs I L) (fun k9 hk9 v2 v3 v4 v5 v7 I L h => l_X6_firstFree_51 C hP k8 hk8 k9 hk9 v2 v3 v4 v5 v7 I L h) zF v2 v3 v4 v5 v7 I L h
set_option maxHeartbeats 4000000 in
set_option maxRecDepth 100000 in
theorem l_X6_firstFree_8 {r : Int32} (C : zC p l e R s m args below meth c s0 a0 d cy B0 yX6_firstFree.cls cX6_firstFree 9 (some .int) bc bs bc bs 2 60 []) {P : Nat} (hP : zpl P) (k8 : Int32 → Int32 → Int32 → zI → zL → Option Int32) (hk8 : ∀ (v2 : Int32) (v3 : Int32) (v4 : Int32) (I : zI) (L : zL), k8 v2 v3 v4 I L = some r → zG p l e R s m args below meth c d cy B0 9 bc bs (zQ below s args d cy B0 bc bs (.inl (some (.int r))) zSH zKn bc bs I L) 8 [(0, .ref (B0 + 74)), (1, .ref (B0 + P)), (2, .int v2), (3, .int v3), (4, .int v4)] [] zSH zKn bc bs I L) (v2 : Int32) (v3 : Int32) (v4 : Int32) (I : zI) (L : zL) (h : f_X6_firstFree_8 P k8 v2 v3 v4 I L = some r) : zG p l e R s m args below meth c d cy B0 9 bc bs (zQ below s args d cy B0 bc bs (.inl (some (.int r))) zSH zKn bc bs I L) 8 [(0, .ref (B0 + 74)), (1, .ref (B0 + P)), (2, .int v2), (3, .int v3), (4, .int v4)] [] zSH zKn bc bs I L := by
  unfold f_X6_firstFree_8 at h
  refine z_iload C 4 rfl dX6_firstFree_8 ?_
  refine z_aload_n C rfl 0 rfl dX6_firstFree_10 ?_
  obtain ⟨x4, hg3, h⟩ := zb1_e h
  refine z_callV C zc_6 rfl (by decide) dX6_firstFree_11 yy_X6_highest (c_X6_highest C.2.2.2.2.1  I L hg3) q_1011 q_1013 q_36 (by decide) (by decide) rfl rfl (Nat.le_of_ble_eq_true rfl) ⟨Nat.le_refl _, Nat.le_refl _, Nat.le_refl _, Nat.le_refl _⟩ ?_
  refine z_icmp_gt C 122 (by decide) dX6_firstFree_14 (fun hc => ?_) (fun hc => ?_)
  · have h := zif_t hc h
    refine z_iload_n C rfl 3 rfl dX6_firstFree_122 ?_
    obtain rfl := Option.some.inj h
    exact z_iret C dX6_firstFree_123 .int rfl rfl rfl
  · have h := zif_f hc h
    refine z_aload_n C rfl 0 rfl dX6_firstFree_17 ?_
    refine z_getr C zc_6 dX6_firstFree_18 4 74 76 rfl (by decide) (by decide) q_406 rfl rfl ?_
    refine z_iload C 4 rfl dX6_firstFree_21 ?_
    obtain ⟨hb5, h⟩ := zck_e h
    refine z_laload C dX6_firstFree_23 rfl rfl (by decide) (zbd_in hb5) ?_
    refine z_aload_n C rfl 0 rfl dX6_firstFree_24 ?_
    refine z_getr C zc_6 dX6_firstFree_25 1 74 31 rfl (by decide) (by decide) q_403 rfl rfl ?_
    refine z_getr C zc_2 dX6_firstFree_28 0 31 32 rfl (by decide) (by decide) q_326 rfl rfl ?_
    refine z_aload_n C rfl 1 rfl dX6_firstFree_31 ?_
    refine z_getr C zc_7 dX6_firstFree_32 4 P (P + 1 + 4) (zpl_k hP) (zpl_lt hP) (by decide) q_179 rfl (zpl_r hP 4 (by decide)) ?_
    refine z_iload_n C rfl 2 rfl dX6_firstFree_35 ?_
    obtain ⟨hb6, h⟩ := zck_e h
    refine z_iaload C dX6_firstFree_36 (zpl_ak hP 4 (by decide)) (zpl_an hP 4 (by decide)) (zpl_a hP 4 (by decide)) (zbd_in hb6) ?_
    obtain ⟨x7, ex7, h⟩ := zlt_e h
    refine z_eqi C ex7 ?_
    obtain ⟨hb8, h⟩ := zck_e h
    refine z_aaload C dX6_firstFree_37 (t := 5) rfl (by decide) rfl (by decide) (zbd_in hb8) (z_rowJ (zbd_lt hb8)).1 ?_
    refine z_iload C 4 rfl dX6_firstFree_38 ?_
    obtain ⟨hb9, h⟩ := zck_e h
    refine z_laload C dX6_firstFree_40 (z_rowJ (zbd_lt hb8)).2.1 (z_rowJ (zbd_lt hb8)).2.2.1 (z_rowJ (zbd_lt hb8)).2.2.2 (zbd_in hb9) ?_
    refine z_land C dX6_firstFree_41 ?_
    obtain ⟨x10, ex10, h⟩ := zlt_e h
    refine z_eql C ex10 ?_
    refine z_lstore C (lv' := [(5, .long x10), (0, .ref (B0 + 74)), (1, .ref (B0 + P)), (2, .int v2), (3, .int v3), (4, .int v4)]) (by decide) rfl dX6_firstFree_42 ?_
    refine z_lload C 0 rfl dX6_firstFree_44 ?_
    obtain ⟨x12, hg11, h⟩ := zb1_e h
    refine z_callS C dX6_firstFree_46 yy_J13_bitCount_95d88 (c_J13_bitCount_95d88 C.2.2.2.2.1  x10 I L hg11) q_1023 q_937 (by decide) (by decide) rfl rfl (Nat.le_of_ble_eq_true rfl) ⟨Nat.le_refl _, Nat.le_refl _, Nat.le_refl _, Nat.le_refl _⟩ ?_
    refine z_istore C (lv' := [(7, .int x12), (5, .long x10), (0, .ref (B0 + 74)), (1, .ref (B0 + P)), (2, .int v2), (3, .int v3), (4, .int v4)]) (by decide) rfl dX6_firstFree_49 ?_
    refine z_lv [2, 3, 4, 5, 6, 1, 0] (lv' := [(0, .ref (B0 + 74)), (1, .ref (B0 + P)), (2, .int v2), (3, .int v3), (4, .int v4), (5, .long x10), (7, .int x12)]) rfl ?_
    exact L_X6_firstFree_51 C hP k8 hk8 v2 v3 v4 x10 x12 I L h
set_option maxHeartbeats 4000000 in
set_option maxRecDepth 100000 in
theorem L_X6_firstFree_8 {r : Int32} (C : zC p l e R s m args below meth c s0 a0 d cy B0 yX6_firstFree.cls cX6_firstFree 9 (some .int) bc bs bc bs 2 60 []) {P : Nat} (hP : zpl P) (v2 : Int32) (v3 : Int32) (v4 : Int32) (I : zI) (L : zL) (h : zlp5 (f_X6_firstFree_8 P) zF v2 v3 v4 I L = some r) : zG p l e R s m args below meth c d cy B0 9 bc bs (zQ below s args d cy B0 bc bs (.inl (some (.int r))) zSH zKn bc bs I L) 8 [(0, .ref (B0 + 74)), (1, .ref (B0 + P)), (2, .int v2), (3, .int v3), (4, .int v4)] [] zSH zKn bc bs I L :=
 zlp5_e (fun (v2 : Int32) (v3 : Int32) (v4 : Int32) (I : zI) (L : zL) => zG p l e R s m args below meth c d cy B0 9 bc bs (zQ below s args d cy B0 bc bs (.inl (some (.int r))) zSH zKn bc bs I L) 8 [(0, .ref (B0 + 74)), (1, .ref (B0 + P)), (2, .int v2), (3, .int v3), (4, .int v4)] [] zSH zKn bc bs I L) (fun k9 hk9 v2 v3 v4 I L h => l_X6_firstFree_8 C hP k9 hk9 v2 v3 v4 I L h) zF v2 v3 v4 I L h
set_option maxHeartbeats 4000000 in
set_option maxRecDepth 100000 in
theorem c_X6_firstFree {r : Int32} (hE : zE0 l s0 a0 d cy B0) {P : Nat} (hP : zpl P) (a2 : Int32) (I : zI) (L : zL) (h : f_X6_firstFree P a2 I L = some r) : zM l s0 d cy B0 yX6_firstFree cX6_firstFree 9 (some .int) 2 60 [.ref (B0 + 74), .ref (B0 + P), .int a2] zSH zKn bc bs I L (.inl (some (.int r))) zSH zKn bc bs I L := by
  refine z_meth yy_X6_firstFree hE (Nat.le_of_ble_eq_true rfl) (fun p e R s m args below meth c C => ?_)
  show zG p l e R s m args below meth c d cy B0 9 bc bs (zQ below s args d cy B0 bc bs (.inl (some (.int r))) zSH zKn bc bs I L) 0 [(0, .ref (B0 + 74)), (1, .ref (B0 + P)), (2, .int a2)] [] zSH zKn bc bs I L
  unfold f_X6_firstFree at h
  refine z_iconst C (v := -1) (by decide) dX6_firstFree_0 ?_
  refine z_istore_n C (lv' := [(3, .int (-1 : Int32)), (0, .ref (B0 + 74)), (1, .ref (B0 + P)), (2, .int a2)]) rfl (by decide) rfl dX6_firstFree_1 ?_
  refine z_aload_n C rfl 1 rfl dX6_firstFree_2 ?_
  obtain ⟨x2, hg1, h⟩ := zb1_e h
  refine z_callV C zc_6 rfl (by decide) dX6_firstFree_3 yy_X6_lowest (c_X6_lowest C.2.2.2.2.1  I L hg1) q_1006 q_1008 q_35 (by decide) (by decide) rfl rfl (Nat.le_of_ble_eq_true rfl) ⟨Nat.le_refl _, Nat.le_refl _, Nat.le_refl _, Nat.le_refl _⟩ ?_
  refine z_istore C (lv' := [(4, .int x2), (3, .int (-1 : Int32)), (0, .ref (B0 + 74)), (1, .ref (B0 + P)), (2, .int a2)]) (by decide) rfl dX6_firstFree_6 ?_
  refine z_lv [2, 3, 4, 1, 0] (lv' := [(0, .ref (B0 + 74)), (1, .ref (B0 + P)), (2, .int a2), (3, .int (-1 : Int32)), (4, .int x2)]) rfl ?_
  exact L_X6_firstFree_8 C hP a2 (-1 : Int32) x2 I L h
theorem q_34 : Cond.selects "DeviceFind$Place" ⟨"DeviceFind$Place", "layHalo", "()V"⟩ ⟨"DeviceFind$Place", "layHalo", "()V"⟩ ∈ lw_tbl := List.mem_of_getElem? (i := 34) (by decide +kernel)
theorem q_37 : Cond.selects "DeviceFind$Place" ⟨"DeviceFind$Place", "firstFree", "(LDeviceFind$Plan;I)I"⟩ ⟨"DeviceFind$Place", "firstFree", "(LDeviceFind$Plan;I)I"⟩ ∈ lw_tbl := List.mem_of_getElem? (i := 37) (by decide +kernel)
theorem q_190 : (Cond.fieldLink "DeviceFind$Place" (38 : Nat) "DeviceFind$Plan" "pinCounts" "[I") ∈ lw_tbl := List.mem_of_getElem? (i := 190) (by decide +kernel)
theorem q_194 : (Cond.fieldLink "DeviceFind$Place" (43 : Nat) "DeviceFind$Plan" "pinWires" "[I") ∈ lw_tbl := List.mem_of_getElem? (i := 194) (by decide +kernel)
theorem q_1001 : (Cond.code ({ cls := "DeviceFind$Place", name := "findPins", desc := "(LDeviceFind$Plan;I)Z" } : Jvm.MethodName) prog_8_method_2_code (6 : Nat) (Option.some Jvm.ClassFile.FieldType.boolean)) ∈ lw_tbl := List.mem_of_getElem? (i := 1001) (by decide +kernel)
theorem q_1002 : (Cond.methodLink "DeviceFind$Place" (35 : Nat) ({ cls := "DeviceFind$Place", name := "layHalo", desc := "()V" } : Jvm.MethodName)) ∈ lw_tbl := List.mem_of_getElem? (i := 1002) (by decide +kernel)
theorem q_1004 : (Cond.instanceMethod ({ cls := "DeviceFind$Place", name := "layHalo", desc := "()V" } : Jvm.MethodName)) ∈ lw_tbl := List.mem_of_getElem? (i := 1004) (by decide +kernel)
theorem q_1019 : (Cond.methodLink "DeviceFind$Place" (46 : Nat) ({ cls := "DeviceFind$Place", name := "firstFree", desc := "(LDeviceFind$Plan;I)I" } : Jvm.MethodName)) ∈ lw_tbl := List.mem_of_getElem? (i := 1019) (by decide +kernel)
theorem q_1021 : (Cond.instanceMethod ({ cls := "DeviceFind$Place", name := "firstFree", desc := "(LDeviceFind$Plan;I)I" } : Jvm.MethodName)) ∈ lw_tbl := List.mem_of_getElem? (i := 1021) (by decide +kernel)
theorem yy_X6_findPins : zY yX6_findPins cX6_findPins 6 (some .boolean) 2 := ⟨q_1001, q_87, by decide +kernel, by decide +kernel, by decide +kernel⟩
noncomputable def f_X6_findPins_72 (k19 : Int32 → Int32 → Int32 → Int32 → zI → zL → Option (Int32 × zI × zL)) (P : Nat) (v2 : Int32) (v4 : Int32) (v5 : Int32) (w0 : Int32) (I : zI) (L : zL) : Option (Int32 × zI × zL) :=
  zlt ((I 74 5) + (1 : Int32)) (fun x19 => zlt (zu I 74 5 x19) (fun I20 => zlt (v5 + 1) (fun x21 => k19 v2 w0 v4 x21 I20 L)))
noncomputable def f_X6_findPins_67 (k19 : Int32 → Int32 → Int32 → Int32 → zI → zL → Option (Int32 × zI × zL)) (P : Nat) (v2 : Int32) (v4 : Int32) (v5 : Int32) (I : zI) (L : zL) : Option (Int32 × zI × zL) :=
  f_X6_findPins_72 k19 P v2 v4 v5 (1 : Int32) I L
noncomputable def f_X6_findPins_131 (k92 : Int32 → Int32 → Int32 → Int32 → zI → zL → Option (Int32 × zI × zL)) (P : Nat) (v2 : Int32) (v4 : Int32) (v5 : Int32) (w0 : Int32) (I : zI) (L : zL) : Option (Int32 × zI × zL) :=
  zlt (v5 + 1) (fun x22 => k92 v2 w0 v4 x22 I L)
noncomputable def f_X6_findPins_126 (k92 : Int32 → Int32 → Int32 → Int32 → zI → zL → Option (Int32 × zI × zL)) (P : Nat) (v2 : Int32) (v4 : Int32) (v5 : Int32) (I : zI) (L : zL) : Option (Int32 × zI × zL) :=
  f_X6_findPins_131 k92 P v2 v4 v5 (1 : Int32) I L
noncomputable def f_X6_findPins_92 (P : Nat) (k92 : Int32 → Int32 → Int32 → Int32 → zI → zL → Option (Int32 × zI × zL)) (v2 : Int32) (v3 : Int32) (v4 : Int32) (v5 : Int32) (I : zI) (L : zL) : Option (Int32 × zI × zL) :=
  zck (zbd v2 8) (if (I ((P + 1 + 10)) v2.toNatClampNeg) ≤ v5 then (zck (zbo v3) (some (v3, I, L))) else (if v3 = 0 then (zlt (v4 + v5) (fun x15 => zck (zbd x15 32) (zb1 (f_X6_firstFree P (I ((P + 1 + 11)) x15.toNatClampNeg) I L) (fun x18 => if x18 = (-1 : Int32) then (f_X6_findPins_131 k92 P v2 v4 v5 (0 : Int32) I L) else (f_X6_findPins_126 k92 P v2 v4 v5 I L))))) else (f_X6_findPins_126 k92 P v2 v4 v5 I L)))
noncomputable def f_X6_findPins_19 (P : Nat) (k19 : Int32 → Int32 → Int32 → Int32 → zI → zL → Option (Int32 × zI × zL)) (v2 : Int32) (v3 : Int32) (v4 : Int32) (v5 : Int32) (I : zI) (L : zL) : Option (Int32 × zI × zL) :=
  zck (zbd v2 8) (if (I ((P + 1 + 10)) v2.toNatClampNeg) ≤ v5 then (zlp6 (f_X6_findPins_92 P) zF v2 v3 v4 (0 : Int32) I L) else (zlt (v4 + v5) (fun x6 => zck (zbd x6 32) (zb1 (f_X6_firstFree P (I ((P + 1 + 11)) x6.toNatClampNeg) I L) (fun x9 => zck (zbd v5 4) (zlt (zu I 75 v5.toNatClampNeg x9) (fun I11 => if v3 = 0 then (zck (zbd v5 4) (if (I11 75 v5.toNatClampNeg) = (-1 : Int32) then (f_X6_findPins_67 k19 P v2 v4 v5 I11 L) else (f_X6_findPins_72 k19 P v2 v4 v5 (0 : Int32) I11 L))) else (f_X6_findPins_67 k19 P v2 v4 v5 I11 L))))))))
noncomputable def f_X6_findPins (P : Nat) (a2 : Int32) (I : zI) (L : zL) : Option (Int32 × zI × zL) :=
  zb1 (f_X6_layHalo I L) (fun L2 => zlt (a2 * (4 : Int32)) (fun x3 => zlt (zu I 74 5 (0 : Int32)) (fun I4 => zlp6 (f_X6_findPins_19 P) zF a2 (0 : Int32) x3 (0 : Int32) I4 L2)))
set_option maxHeartbeats 4000000 in
set_option maxRecDepth 100000 in
theorem l_X6_findPins_72 {r : Int32 × zI × zL} (C : zC p l e R s m args below meth c s0 a0 d cy B0 yX6_findPins.cls cX6_findPins 6 (some .boolean) bc bs bc bs 3 88 []) {P : Nat} (hP : zpl P) (k19 : Int32 → Int32 → Int32 → Int32 → zI → zL → Option (Int32 × zI × zL)) (hk19 : ∀ (v2 : Int32) (v3 : Int32) (v4 : Int32) (v5 : Int32) (I : zI) (L : zL), k19 v2 v3 v4 v5 I L = some r → zG p l e R s m args below meth c d cy B0 6 bc bs (zQ below s args d cy B0 bc bs (.inl (some (.int r.1))) zSH zKn bc bs r.2.1 r.2.2) 19 [(0, .ref (B0 + 74)), (1, .ref (B0 + P)), (2, .int v2), (3, .int v3), (4, .int v4), (5, .int v5)] [] zSH zKn bc bs I L) (v2 : Int32) (v4 : Int32) (v5 : Int32) (w0 : Int32) (I : zI) (L : zL) (h : f_X6_findPins_72 k19 P v2 v4 v5 w0 I L = some r) : zG p l e R s m args below meth c d cy B0 6 bc bs (zQ below s args d cy B0 bc bs (.inl (some (.int r.1))) zSH zKn bc bs r.2.1 r.2.2) 72 [(0, .ref (B0 + 74)), (1, .ref (B0 + P)), (2, .int v2), (4, .int v4), (5, .int v5)] [.int w0] zSH zKn bc bs I L := by
  unfold f_X6_findPins_72 at h
  refine z_istore_n C (lv' := [(3, .int w0), (0, .ref (B0 + 74)), (1, .ref (B0 + P)), (2, .int v2), (4, .int v4), (5, .int v5)]) rfl (by decide) rfl dX6_findPins_72 ?_
  refine z_aload_n C rfl 1 rfl dX6_findPins_73 ?_
  refine z_dup C rfl dX6_findPins_74 ?_
  refine z_geti C zc_6 dX6_findPins_75 5 74 rfl (by decide) (by decide) q_407 rfl ?_
  refine z_iconst C (v := 1) (by decide) dX6_findPins_78 ?_
  refine z_iadd C dX6_findPins_79 ?_
  obtain ⟨x19, ex19, h⟩ := zlt_e h
  refine z_eqi C ex19 ?_
  refine z_puti C zc_6 dX6_findPins_80 5 74 rfl (by decide) (by decide) rfl q_407 rfl rfl rfl ?_
  obtain ⟨I20, eI20, h⟩ := zlt_e h
  refine z_eqI C eI20 ?_
  obtain ⟨x21, ex21, h⟩ := zlt_e h
  refine z_iinc C (j := 5) (v := x21) (lv' := [(5, .int x21), (3, .int w0), (0, .ref (B0 + 74)), (1, .ref (B0 + P)), (2, .int v2), (4, .int v4)]) rfl (by rw [ex21]; rfl) (by decide) rfl dX6_findPins_83 ?_
  refine z_goto C 19 (by decide) dX6_findPins_86 ?_
  refine z_lv [2, 3, 4, 1, 5, 0] (lv' := [(0, .ref (B0 + 74)), (1, .ref (B0 + P)), (2, .int v2), (3, .int w0), (4, .int v4), (5, .int x21)]) rfl ?_
  exact hk19 v2 w0 v4 x21 I20 L h
set_option maxHeartbeats 4000000 in
set_option maxRecDepth 100000 in
theorem l_X6_findPins_67 {r : Int32 × zI × zL} (C : zC p l e R s m args below meth c s0 a0 d cy B0 yX6_findPins.cls cX6_findPins 6 (some .boolean) bc bs bc bs 3 88 []) {P : Nat} (hP : zpl P) (k19 : Int32 → Int32 → Int32 → Int32 → zI → zL → Option (Int32 × zI × zL)) (hk19 : ∀ (v2 : Int32) (v3 : Int32) (v4 : Int32) (v5 : Int32) (I : zI) (L : zL), k19 v2 v3 v4 v5 I L = some r → zG p l e R s m args below meth c d cy B0 6 bc bs (zQ below s args d cy B0 bc bs (.inl (some (.int r.1))) zSH zKn bc bs r.2.1 r.2.2) 19 [(0, .ref (B0 + 74)), (1, .ref (B0 + P)), (2, .int v2), (3, .int v3), (4, .int v4), (5, .int v5)] [] zSH zKn bc bs I L) (v2 : Int32) (v4 : Int32) (v5 : Int32) (I : zI) (L : zL) (h : f_X6_findPins_67 k19 P v2 v4 v5 I L = some r) : zG p l e R s m args below meth c d cy B0 6 bc bs (zQ below s args d cy B0 bc bs (.inl (some (.int r.1))) zSH zKn bc bs r.2.1 r.2.2) 67 [(0, .ref (B0 + 74)), (1, .ref (B0 + P)), (2, .int v2), (4, .int v4), (5, .int v5)] [] zSH zKn bc bs I L := by
  unfold f_X6_findPins_67 at h
  refine z_iconst C (v := 1) (by decide) dX6_findPins_67 ?_
  refine z_goto C 72 (by decide) dX6_findPins_68 ?_
  exact l_X6_findPins_72 C hP k19 hk19 v2 v4 v5 (1 : Int32) I L h
set_option maxHeartbeats 4000000 in
set_option maxRecDepth 100000 in
theorem l_X6_findPins_131 {r : Int32 × zI × zL} (C : zC p l e R s m args below meth c s0 a0 d cy B0 yX6_findPins.cls cX6_findPins 6 (some .boolean) bc bs bc bs 3 88 []) {P : Nat} (hP : zpl P) (k92 : Int32 → Int32 → Int32 → Int32 → zI → zL → Option (Int32 × zI × zL)) (hk92 : ∀ (v2 : Int32) (v3 : Int32) (v4 : Int32) (v5 : Int32) (I : zI) (L : zL), k92 v2 v3 v4 v5 I L = some r → zG p l e R s m args below meth c d cy B0 6 bc bs (zQ below s args d cy B0 bc bs (.inl (some (.int r.1))) zSH zKn bc bs r.2.1 r.2.2) 92 [(0, .ref (B0 + 74)), (1, .ref (B0 + P)), (2, .int v2), (3, .int v3), (4, .int v4), (5, .int v5)] [] zSH zKn bc bs I L) (v2 : Int32) (v4 : Int32) (v5 : Int32) (w0 : Int32) (I : zI) (L : zL) (h : f_X6_findPins_131 k92 P v2 v4 v5 w0 I L = some r) : zG p l e R s m args below meth c d cy B0 6 bc bs (zQ below s args d cy B0 bc bs (.inl (some (.int r.1))) zSH zKn bc bs r.2.1 r.2.2) 131 [(0, .ref (B0 + 74)), (1, .ref (B0 + P)), (2, .int v2), (4, .int v4), (5, .int v5)] [.int w0] zSH zKn bc bs I L := by
  unfold f_X6_findPins_131 at h
  refine z_istore_n C (lv' := [(3, .int w0), (0, .ref (B0 + 74)), (1, .ref (B0 + P)), (2, .int v2), (4, .int v4), (5, .int v5)]) rfl (by decide) rfl dX6_findPins_131 ?_
  obtain ⟨x22, ex22, h⟩ := zlt_e h
  refine z_iinc C (j := 5) (v := x22) (lv' := [(5, .int x22), (3, .int w0), (0, .ref (B0 + 74)), (1, .ref (B0 + P)), (2, .int v2), (4, .int v4)]) rfl (by rw [ex22]; rfl) (by decide) rfl dX6_findPins_132 ?_
  refine z_goto C 92 (by decide) dX6_findPins_135 ?_
  refine z_lv [2, 3, 4, 1, 5, 0] (lv' := [(0, .ref (B0 + 74)), (1, .ref (B0 + P)), (2, .int v2), (3, .int w0), (4, .int v4), (5, .int x22)]) rfl ?_
  exact hk92 v2 w0 v4 x22 I L h
set_option maxHeartbeats 4000000 in
set_option maxRecDepth 100000 in
theorem l_X6_findPins_126 {r : Int32 × zI × zL} (C : zC p l e R s m args below meth c s0 a0 d cy B0 yX6_findPins.cls cX6_findPins 6 (some .boolean) bc bs bc bs 3 88 []) {P : Nat} (hP : zpl P) (k92 : Int32 → Int32 → Int32 → Int32 → zI → zL → Option (Int32 × zI × zL)) (hk92 : ∀ (v2 : Int32) (v3 : Int32) (v4 : Int32) (v5 : Int32) (I : zI) (L : zL), k92 v2 v3 v4 v5 I L = some r → zG p l e R s m args below meth c d cy B0 6 bc bs (zQ below s args d cy B0 bc bs (.inl (some (.int r.1))) zSH zKn bc bs r.2.1 r.2.2) 92 [(0, .ref (B0 + 74)), (1, .ref (B0 + P)), (2, .int v2), (3, .int v3), (4, .int v4), (5, .int v5)] [] zSH zKn bc bs I L) (v2 : Int32) (v4 : Int32) (v5 : Int32) (I : zI) (L : zL) (h : f_X6_findPins_126 k92 P v2 v4 v5 I L = some r) : zG p l e R s m args below meth c d cy B0 6 bc bs (zQ below s args d cy B0 bc bs (.inl (some (.int r.1))) zSH zKn bc bs r.2.1 r.2.2) 126 [(0, .ref (B0 + 74)), (1, .ref (B0 + P)), (2, .int v2), (4, .int v4), (5, .int v5)] [] zSH zKn bc bs I L := by
  unfold f_X6_findPins_126 at h
  refine z_iconst C (v := 1) (by decide) dX6_findPins_126 ?_
  refine z_goto C 131 (by decide) dX6_findPins_127 ?_
  exact l_X6_findPins_131 C hP k92 hk92 v2 v4 v5 (1 : Int32) I L h
set_option maxHeartbeats 4000000 in
set_option maxRecDepth 100000 in
theorem l_X6_findPins_92 {r : Int32 × zI × zL} (C : zC p l e R s m args below meth c s0 a0 d cy B0 yX6_findPins.cls cX6_findPins 6 (some .boolean) bc bs bc bs 3 88 []) {P : Nat} (hP : zpl P) (k92 : Int32 → Int32 → Int32 → Int32 → zI → zL → Option (Int32 × zI × zL)) (hk92 : ∀ (v2 : Int32) (v3 : Int32) (v4 : Int32) (v5 : Int32) (I : zI) (L : zL), k92 v2 v3 v4 v5 I L = some r → zG p l e R s m args below meth c d cy B0 6 bc bs (zQ below s args d cy B0 bc bs (.inl (some (.int r.1))) zSH zKn bc bs r.2.1 r.2.2) 92 [(0, .ref (B0 + 74)), (1, .ref (B0 + P)), (2, .int v2), (3, .int v3), (4, .int v4), (5, .int v5)] [] zSH zKn bc bs I L) (v2 : Int32) (v3 : Int32) (v4 : Int32) (v5 : Int32) (I : zI) (L : zL) (h : f_X6_findPins_92 P k92 v2 v3 v4 v5 I L = some r) : zG p l e R s m args below meth c d cy B0 6 bc bs (zQ below s args d cy B0 bc bs (.inl (some (.int r.1))) zSH zKn bc bs r.2.1 r.2.2) 92 [(0, .ref (B0 + 74)), (1, .ref (B0 + P)), (2, .int v2), (3, .int v3), (4, .int v4), (5, .int v5)] [] zSH zKn bc bs I L := by
  unfold f_X6_findPins_92 at h
  refine z_iload C 5 rfl dX6_findPins_92 ?_
  refine z_aload_n C rfl 1 rfl dX6_findPins_94 ?_
  refine z_getr C zc_7 dX6_findPins_95 10 P (P + 1 + 10) (zpl_k hP) (zpl_lt hP) (by decide) q_190 rfl (zpl_r hP 10 (by decide)) ?_
  refine z_iload_n C rfl 2 rfl dX6_findPins_98 ?_
  obtain ⟨hb13, h⟩ := zck_e h
  refine z_iaload C dX6_findPins_99 (zpl_ak hP 10 (by decide)) (zpl_an hP 10 (by decide)) (zpl_a hP 10 (by decide)) (zbd_in hb13) ?_
  refine z_icmp_ge C 138 (by decide) dX6_findPins_100 (fun hc => ?_) (fun hc => ?_)
  · have h := zif_t hc h
    refine z_iload_n C rfl 3 rfl dX6_findPins_138 ?_
    obtain ⟨hb14, h⟩ := zck_e h
    obtain rfl := Option.some.inj h
    exact z_iret C dX6_findPins_139 .boolean rfl (zbo_n hb14).1 rfl
  · have h := zif_f hc h
    refine z_iload_n C rfl 3 rfl dX6_findPins_103 ?_
    refine z_if_ne C 126 (by decide) dX6_findPins_104 (fun hc => ?_) (fun hc => ?_)
    · have h := zif_f hc h
      refine z_lv [0, 1, 2, 4, 5] (lv' := [(0, .ref (B0 + 74)), (1, .ref (B0 + P)), (2, .int v2), (4, .int v4), (5, .int v5)]) rfl ?_
      exact l_X6_findPins_126 C hP k92 hk92 v2 v4 v5 I L h
    · have h := zif_t hc h
      refine z_aload_n C rfl 0 rfl dX6_findPins_107 ?_
      refine z_aload_n C rfl 1 rfl dX6_findPins_108 ?_
      refine z_aload_n C rfl 1 rfl dX6_findPins_109 ?_
      refine z_getr C zc_7 dX6_findPins_110 11 P (P + 1 + 11) (zpl_k hP) (zpl_lt hP) (by decide) q_194 rfl (zpl_r hP 11 (by decide)) ?_
      refine z_iload C 4 rfl dX6_findPins_113 ?_
      refine z_iload C 5 rfl dX6_findPins_115 ?_
      refine z_iadd C dX6_findPins_117 ?_
      obtain ⟨x15, ex15, h⟩ := zlt_e h
      refine z_eqi C ex15 ?_
      obtain ⟨hb16, h⟩ := zck_e h
      refine z_iaload C dX6_findPins_118 (zpl_ak hP 11 (by decide)) (zpl_an hP 11 (by decide)) (zpl_a hP 11 (by decide)) (zbd_in hb16) ?_
      obtain ⟨x18, hg17, h⟩ := zb1_e h
      refine z_callV C zc_6 rfl (by decide) dX6_findPins_119 yy_X6_firstFree (c_X6_firstFree C.2.2.2.2.1 hP (I ((P + 1 + 11)) x15.toNatClampNeg) I L hg17) q_1019 q_1021 q_37 (by decide) (by decide) rfl rfl (Nat.le_of_ble_eq_true rfl) ⟨Nat.le_refl _, Nat.le_refl _, Nat.le_refl _, Nat.le_refl _⟩ ?_
      refine z_iconst C (v := -1) (by decide) dX6_findPins_122 ?_
      refine z_icmp_eq C 130 (by decide) dX6_findPins_123 (fun hc => ?_) (fun hc => ?_)
      · have h := zif_t hc h
        refine z_iconst C (v := 0) (by decide) dX6_findPins_130 ?_
        refine z_lv [0, 1, 2, 4, 5] (lv' := [(0, .ref (B0 + 74)), (1, .ref (B0 + P)), (2, .int v2), (4, .int v4), (5, .int v5)]) rfl ?_
        exact l_X6_findPins_131 C hP k92 hk92 v2 v4 v5 (0 : Int32) I L h
      · have h := zif_f hc h
        refine z_lv [0, 1, 2, 4, 5] (lv' := [(0, .ref (B0 + 74)), (1, .ref (B0 + P)), (2, .int v2), (4, .int v4), (5, .int v5)]) rfl ?_
        exact l_X6_findPins_126 C hP k92 hk92 v2 v4 v5 I L h
set_option maxHeartbeats 4000000 in
set_option maxRecDepth 100000 in
theorem L_X6_findPins_92 {r : Int32 × zI × zL} (C : zC p l e R s m args below meth c s0 a0 d cy B0 yX6_findPins.cls cX6_findPins 6 (some .boolean) bc bs bc bs 3 88 []) {P : Nat} (hP : zpl P) (v2 : Int32) (v3 : Int32) (v4 : Int32) (v5 : Int32) (I : zI) (L : zL) (h : zlp6 (f_X6_findPins_92 P) zF v2 v3 v4 v5 I L = some r) : zG p l e R s m args below meth c d cy B0 6 bc bs (zQ below s args d cy B0 bc bs (.inl (some (.int r.1))) zSH zKn bc bs r.2.1 r.2.2) 92 [(0, .ref (B0 + 74)), (1, .ref (B0 + P)), (2, .int v2), (3, .int v3), (4, .int v4), (5, .int v5)] [] zSH zKn bc bs I L :=
 zlp6_e (fun (v2 : Int32) (v3 : Int32) (v4 : Int32) (v5 : Int32) (I : zI) (L : zL) => zG p l e R s m args below meth c d cy B0 6 bc bs (zQ below s args d cy B0 bc bs (.inl (some (.int r.1))) zSH zKn bc bs r.2.1 r.2.2) 92 [(0, .ref (B0 + 74)), (1, .ref (B0 + P)), (2, .int v2), (3, .int v3), (4, .int v4), (5, .int v5)] [] zSH zKn bc bs I L) (fun k9 hk9 v2 v3 v4 v5 I L h => l_X6_findPins_92 C hP k9 hk9 v2 v3 v4 v5 I L h) zF v2 v3 v4 v5 I L h
set_option maxHeartbeats 4000000 in
set_option maxRecDepth 100000 in
theorem l_X6_findPins_19 {r : Int32 × zI × zL} (C : zC p l e R s m args below meth c s0 a0 d cy B0 yX6_findPins.cls cX6_findPins 6 (some .boolean) bc bs bc bs 3 88 []) {P : Nat} (hP : zpl P) (k19 : Int32 → Int32 → Int32 → Int32 → zI → zL → Option (Int32 × zI × zL)) (hk19 : ∀ (v2 : Int32) (v3 : Int32) (v4 : Int32) (v5 : Int32) (I : zI) (L : zL), k19 v2 v3 v4 v5 I L = some r → zG p l e R s m args below meth c d cy B0 6 bc bs (zQ below s args d cy B0 bc bs (.inl (some (.int r.1))) zSH zKn bc bs r.2.1 r.2.2) 19 [(0, .ref (B0 + 74)), (1, .ref (B0 + P)), (2, .int v2), (3, .int v3), (4, .int v4), (5, .int v5)] [] zSH zKn bc bs I L) (v2 : Int32) (v3 : Int32) (v4 : Int32) (v5 : Int32) (I : zI) (L : zL) (h : f_X6_findPins_19 P k19 v2 v3 v4 v5 I L = some r) : zG p l e R s m args below meth c d cy B0 6 bc bs (zQ below s args d cy B0 bc bs (.inl (some (.int r.1))) zSH zKn bc bs r.2.1 r.2.2) 19 [(0, .ref (B0 + 74)), (1, .ref (B0 + P)), (2, .int v2), (3, .int v3), (4, .int v4), (5, .int v5)] [] zSH zKn bc bs I L := by
  unfold f_X6_findPins_19 at h
  refine z_iload C 5 rfl dX6_findPins_19 ?_
  refine z_aload_n C rfl 1 rfl dX6_findPins_21 ?_
  refine z_getr C zc_7 dX6_findPins_22 10 P (P + 1 + 10) (zpl_k hP) (zpl_lt hP) (by decide) q_190 rfl (zpl_r hP 10 (by decide)) ?_
  refine z_iload_n C rfl 2 rfl dX6_findPins_25 ?_
  obtain ⟨hb5, h⟩ := zck_e h
  refine z_iaload C dX6_findPins_26 (zpl_ak hP 10 (by decide)) (zpl_an hP 10 (by decide)) (zpl_a hP 10 (by decide)) (zbd_in hb5) ?_
  refine z_icmp_ge C 89 (by decide) dX6_findPins_27 (fun hc => ?_) (fun hc => ?_)
  · have h := zif_t hc h
    refine z_iconst C (v := 0) (by decide) dX6_findPins_89 ?_
    refine z_istore C (lv' := [(5, .int (0 : Int32)), (0, .ref (B0 + 74)), (1, .ref (B0 + P)), (2, .int v2), (3, .int v3), (4, .int v4)]) (by decide) rfl dX6_findPins_90 ?_
    refine z_lv [1, 2, 3, 4, 5, 0] (lv' := [(0, .ref (B0 + 74)), (1, .ref (B0 + P)), (2, .int v2), (3, .int v3), (4, .int v4), (5, .int (0 : Int32))]) rfl ?_
    exact L_X6_findPins_92 C hP v2 v3 v4 (0 : Int32) I L h
  · have h := zif_f hc h
    refine z_aload_n C rfl 0 rfl dX6_findPins_30 ?_
    refine z_getr C zc_6 dX6_findPins_31 0 74 75 rfl (by decide) (by decide) q_402 rfl rfl ?_
    refine z_iload C 5 rfl dX6_findPins_34 ?_
    refine z_aload_n C rfl 0 rfl dX6_findPins_36 ?_
    refine z_aload_n C rfl 1 rfl dX6_findPins_37 ?_
    refine z_aload_n C rfl 1 rfl dX6_findPins_38 ?_
    refine z_getr C zc_7 dX6_findPins_39 11 P (P + 1 + 11) (zpl_k hP) (zpl_lt hP) (by decide) q_194 rfl (zpl_r hP 11 (by decide)) ?_
    refine z_iload C 4 rfl dX6_findPins_42 ?_
    refine z_iload C 5 rfl dX6_findPins_44 ?_
    refine z_iadd C dX6_findPins_46 ?_
    obtain ⟨x6, ex6, h⟩ := zlt_e h
    refine z_eqi C ex6 ?_
    obtain ⟨hb7, h⟩ := zck_e h
    refine z_iaload C dX6_findPins_47 (zpl_ak hP 11 (by decide)) (zpl_an hP 11 (by decide)) (zpl_a hP 11 (by decide)) (zbd_in hb7) ?_
    obtain ⟨x9, hg8, h⟩ := zb1_e h
    refine z_callV C zc_6 rfl (by decide) dX6_findPins_48 yy_X6_firstFree (c_X6_firstFree C.2.2.2.2.1 hP (I ((P + 1 + 11)) x6.toNatClampNeg) I L hg8) q_1019 q_1021 q_37 (by decide) (by decide) rfl rfl (Nat.le_of_ble_eq_true rfl) ⟨Nat.le_refl _, Nat.le_refl _, Nat.le_refl _, Nat.le_refl _⟩ ?_
    obtain ⟨hb10, h⟩ := zck_e h
    refine z_iastore C dX6_findPins_51 rfl rfl (by decide) (zbd_in hb10) ?_
    obtain ⟨I11, eI11, h⟩ := zlt_e h
    refine z_eqI C eI11 ?_
    refine z_iload_n C rfl 3 rfl dX6_findPins_52 ?_
    refine z_if_ne C 67 (by decide) dX6_findPins_53 (fun hc => ?_) (fun hc => ?_)
    · have h := zif_f hc h
      refine z_lv [0, 1, 2, 4, 5] (lv' := [(0, .ref (B0 + 74)), (1, .ref (B0 + P)), (2, .int v2), (4, .int v4), (5, .int v5)]) rfl ?_
      exact l_X6_findPins_67 C hP k19 hk19 v2 v4 v5 I11 L h
    · have h := zif_t hc h
      refine z_aload_n C rfl 0 rfl dX6_findPins_56 ?_
      refine z_getr C zc_6 dX6_findPins_57 0 74 75 rfl (by decide) (by decide) q_402 rfl rfl ?_
      refine z_iload C 5 rfl dX6_findPins_60 ?_
      obtain ⟨hb12, h⟩ := zck_e h
      refine z_iaload C dX6_findPins_62 rfl rfl (by decide) (zbd_in hb12) ?_
      refine z_iconst C (v := -1) (by decide) dX6_findPins_63 ?_
      refine z_icmp_ne C 71 (by decide) dX6_findPins_64 (fun hc => ?_) (fun hc => ?_)
      · have h := zif_f hc h
        refine z_iconst C (v := 0) (by decide) dX6_findPins_71 ?_
        refine z_lv [0, 1, 2, 4, 5] (lv' := [(0, .ref (B0 + 74)), (1, .ref (B0 + P)), (2, .int v2), (4, .int v4), (5, .int v5)]) rfl ?_
        exact l_X6_findPins_72 C hP k19 hk19 v2 v4 v5 (0 : Int32) I11 L h
      · have h := zif_t hc h
        refine z_lv [0, 1, 2, 4, 5] (lv' := [(0, .ref (B0 + 74)), (1, .ref (B0 + P)), (2, .int v2), (4, .int v4), (5, .int v5)]) rfl ?_
        exact l_X6_findPins_67 C hP k19 hk19 v2 v4 v5 I11 L h
set_option maxHeartbeats 4000000 in
set_option maxRecDepth 100000 in
theorem L_X6_findPins_19 {r : Int32 × zI × zL} (C : zC p l e R s m args below meth c s0 a0 d cy B0 yX6_findPins.cls cX6_findPins 6 (some .boolean) bc bs bc bs 3 88 []) {P : Nat} (hP : zpl P) (v2 : Int32) (v3 : Int32) (v4 : Int32) (v5 : Int32) (I : zI) (L : zL) (h : zlp6 (f_X6_findPins_19 P) zF v2 v3 v4 v5 I L = some r) : zG p l e R s m args below meth c d cy B0 6 bc bs (zQ below s args d cy B0 bc bs (.inl (some (.int r.1))) zSH zKn bc bs r.2.1 r.2.2) 19 [(0, .ref (B0 + 74)), (1, .ref (B0 + P)), (2, .int v2), (3, .int v3), (4, .int v4), (5, .int v5)] [] zSH zKn bc bs I L :=
 zlp6_e (fun (v2 : Int32) (v3 : Int32) (v4 : Int32) (v5 : Int32) (I : zI) (L : zL) => zG p l e R s m args below meth c d cy B0 6 bc bs (zQ below s args d cy B0 bc bs (.inl (some (.int r.1))) zSH zKn bc bs r.2.1 r.2.2) 19 [(0, .ref (B0 + 74)), (1, .ref (B0 + P)), (2, .int v2), (3, .int v3), (4, .int v4), (5, .int v5)] [] zSH zKn bc bs I L) (fun k9 hk9 v2 v3 v4 v5 I L h => l_X6_findPins_19 C hP k9 hk9 v2 v3 v4 v5 I L h) zF v2 v3 v4 v5 I L h
set_option maxHeartbeats 4000000 in
set_option maxRecDepth 100000 in
theorem c_X6_findPins {r : Int32 × zI × zL} (hE : zE0 l s0 a0 d cy B0) {P : Nat} (hP : zpl P) (a2 : Int32) (I : zI) (L : zL) (h : f_X6_findPins P a2 I L = some r) : zM l s0 d cy B0 yX6_findPins cX6_findPins 6 (some .boolean) 3 88 [.ref (B0 + 74), .ref (B0 + P), .int a2] zSH zKn bc bs I L (.inl (some (.int r.1))) zSH zKn bc bs r.2.1 r.2.2 := by
  refine z_meth yy_X6_findPins hE (Nat.le_of_ble_eq_true rfl) (fun p e R s m args below meth c C => ?_)
  show zG p l e R s m args below meth c d cy B0 6 bc bs (zQ below s args d cy B0 bc bs (.inl (some (.int r.1))) zSH zKn bc bs r.2.1 r.2.2) 0 [(0, .ref (B0 + 74)), (1, .ref (B0 + P)), (2, .int a2)] [] zSH zKn bc bs I L
  unfold f_X6_findPins at h
  refine z_aload_n C rfl 0 rfl dX6_findPins_0 ?_
  obtain ⟨L2, hg1, h⟩ := zb1_e h
  refine z_callV C zc_6 rfl (by decide) dX6_findPins_1 yy_X6_layHalo (c_X6_layHalo C.2.2.2.2.1  I L hg1) q_1002 q_1004 q_34 (by decide) (by decide) rfl rfl (Nat.le_of_ble_eq_true rfl) ⟨Nat.le_refl _, Nat.le_refl _, Nat.le_refl _, Nat.le_refl _⟩ ?_
  refine z_iconst C (v := 0) (by decide) dX6_findPins_4 ?_
  refine z_istore_n C (lv' := [(3, .int (0 : Int32)), (0, .ref (B0 + 74)), (1, .ref (B0 + P)), (2, .int a2)]) rfl (by decide) rfl dX6_findPins_5 ?_
  refine z_iload_n C rfl 3 rfl dX6_findPins_6 ?_
  refine z_iconst C (v := 4) (by decide) dX6_findPins_7 ?_
  refine z_imul C dX6_findPins_8 ?_
  obtain ⟨x3, ex3, h⟩ := zlt_e h
  refine z_eqi C ex3 ?_
  refine z_istore C (lv' := [(4, .int x3), (3, .int (0 : Int32)), (0, .ref (B0 + 74)), (1, .ref (B0 + P)), (2, .int a2)]) (by decide) rfl dX6_findPins_9 ?_
  refine z_aload_n C rfl 2 rfl dX6_findPins_11 ?_
  refine z_iconst C (v := 0) (by decide) dX6_findPins_12 ?_
  refine z_puti C zc_6 dX6_findPins_13 5 74 rfl (by decide) (by decide) rfl q_407 rfl rfl rfl ?_
  obtain ⟨I4, eI4, h⟩ := zlt_e h
  refine z_eqI C eI4 ?_
  refine z_iconst C (v := 0) (by decide) dX6_findPins_16 ?_
  refine z_istore C (lv' := [(5, .int (0 : Int32)), (4, .int x3), (3, .int (0 : Int32)), (0, .ref (B0 + 74)), (1, .ref (B0 + P)), (2, .int a2)]) (by decide) rfl dX6_findPins_17 ?_
  refine z_lv [3, 4, 5, 2, 1, 0] (lv' := [(0, .ref (B0 + 74)), (1, .ref (B0 + P)), (2, .int a2), (3, .int (0 : Int32)), (4, .int x3), (5, .int (0 : Int32))]) rfl ?_
  exact L_X6_findPins_19 C hP a2 (0 : Int32) x3 (0 : Int32) I4 L2 h
theorem q_1033 : (Cond.code ({ cls := "DeviceFind$Place", name := "edges", desc := "()I" } : Jvm.MethodName) prog_8_method_4_code (5 : Nat) (Option.some Jvm.ClassFile.FieldType.int)) ∈ lw_tbl := List.mem_of_getElem? (i := 1033) (by decide +kernel)
theorem q_1034 : (Cond.constantLong "DeviceFind$Place" (67 : Nat) (-1 : Int64)) ∈ lw_tbl := List.mem_of_getElem? (i := 1034) (by decide +kernel)
theorem yy_X6_edges : zY yX6_edges cX6_edges 5 (some .int) 0 := ⟨q_1033, q_87, by decide +kernel, by decide +kernel, by decide +kernel⟩
noncomputable def f_X6_edges_10 (k10 : Int32 → Int32 → zI → zL → Option Int32) (v1 : Int32) (v2 : Int32) (I : zI) (L : zL) : Option Int32 :=
  if (I 57 4) < v2 then (some v1) else (zck (zbd v2 64) (zlt (L 58 v2.toNatClampNeg) (fun x3 => zlt (x3 <<< ((1 : Int32).toInt64 &&& 63)) (fun x4 => zlt (x3 &&& (x4 ^^^ (-1 : Int64))) (fun x5 => zb1 (f_J13_bitCount_95d88 x5) (fun x7 => zlt (v1 + x7) (fun x8 => zlt ((x3.toUInt64 >>> ((1 : Int32).toInt64.toUInt64 &&& Int64.toUInt64 63)).toInt64) (fun x9 => zlt (x3 &&& (x9 ^^^ (-1 : Int64))) (fun x10 => zb1 (f_J13_bitCount_95d88 x10) (fun x12 => zlt (x8 + x12) (fun x13 => zb1 (f_X11_rowAt 58 (v2 - (1 : Int32)) L) (fun x15 => zlt (x3 &&& (x15 ^^^ (-1 : Int64))) (fun x16 => zb1 (f_J13_bitCount_95d88 x16) (fun x18 => zlt (x13 + x18) (fun x19 => zb1 (f_X11_rowAt 58 (v2 + (1 : Int32)) L) (fun x21 => zlt (x3 &&& (x21 ^^^ (-1 : Int64))) (fun x22 => zb1 (f_J13_bitCount_95d88 x22) (fun x24 => zlt (x19 + x24) (fun x25 => zlt (v2 + 1) (fun x26 => k10 x25 x26 I L))))))))))))))))))))
noncomputable def f_X6_edges (I : zI) (L : zL) : Option Int32 :=
  zlt (I 57 3) (fun x1 => zlp4 (f_X6_edges_10) zF (0 : Int32) x1 I L)
set_option maxHeartbeats 4000000 in
set_option maxRecDepth 100000 in
theorem l_X6_edges_10 {r : Int32} (C : zC p l e R s m args below meth c s0 a0 d cy B0 yX6_edges.cls cX6_edges 5 (some .int) bc bs bc bs 1 21 []) (k10 : Int32 → Int32 → zI → zL → Option Int32) (hk10 : ∀ (v1 : Int32) (v2 : Int32) (I : zI) (L : zL), k10 v1 v2 I L = some r → zG p l e R s m args below meth c d cy B0 5 bc bs (zQ below s args d cy B0 bc bs (.inl (some (.int r))) zSH zKn bc bs I L) 10 [(0, .ref (B0 + 74)), (1, .int v1), (2, .int v2)] [] zSH zKn bc bs I L) (v1 : Int32) (v2 : Int32) (I : zI) (L : zL) (h : f_X6_edges_10 k10 v1 v2 I L = some r) : zG p l e R s m args below meth c d cy B0 5 bc bs (zQ below s args d cy B0 bc bs (.inl (some (.int r))) zSH zKn bc bs I L) 10 [(0, .ref (B0 + 74)), (1, .int v1), (2, .int v2)] [] zSH zKn bc bs I L := by
  unfold f_X6_edges_10 at h
  refine z_iload_n C rfl 2 rfl dX6_edges_10 ?_
  refine z_aload_n C rfl 0 rfl dX6_edges_11 ?_
  refine z_getr C zc_6 dX6_edges_12 3 74 57 rfl (by decide) (by decide) q_405 rfl rfl ?_
  refine z_geti C zc_5 dX6_edges_15 4 57 rfl (by decide) (by decide) q_347 rfl ?_
  refine z_icmp_gt C 117 (by decide) dX6_edges_18 (fun hc => ?_) (fun hc => ?_)
  · have h := zif_t hc h
    refine z_iload_n C rfl 1 rfl dX6_edges_117 ?_
    obtain rfl := Option.some.inj h
    exact z_iret C dX6_edges_118 .int rfl rfl rfl
  · have h := zif_f hc h
    refine z_aload_n C rfl 0 rfl dX6_edges_21 ?_
    refine z_getr C zc_6 dX6_edges_22 3 74 57 rfl (by decide) (by decide) q_405 rfl rfl ?_
    refine z_getr C zc_5 dX6_edges_25 0 57 58 rfl (by decide) (by decide) q_337 rfl rfl ?_
    refine z_iload_n C rfl 2 rfl dX6_edges_28 ?_
    obtain ⟨hb2, h⟩ := zck_e h
    refine z_laload C dX6_edges_29 rfl rfl (by decide) (zbd_in hb2) ?_
    obtain ⟨x3, ex3, h⟩ := zlt_e h
    refine z_eql C ex3 ?_
    refine z_lstore_n C (lv' := [(3, .long x3), (0, .ref (B0 + 74)), (1, .int v1), (2, .int v2)]) rfl (by decide) rfl dX6_edges_30 ?_
    refine z_iload_n C rfl 2 rfl dX6_edges_31 ?_
    refine z_lload_n C rfl 0 rfl dX6_edges_32 ?_
    refine z_lload_n C rfl 0 rfl dX6_edges_33 ?_
    refine z_iconst C (v := 1) (by decide) dX6_edges_34 ?_
    refine z_lshl C dX6_edges_35 ?_
    obtain ⟨x4, ex4, h⟩ := zlt_e h
    refine z_eql C ex4 ?_
    refine z_ldc2 C dX6_edges_36 q_1034 ?_
    refine z_lxor C dX6_edges_39 ?_
    refine z_land C dX6_edges_40 ?_
    obtain ⟨x5, ex5, h⟩ := zlt_e h
    refine z_eql C ex5 ?_
    obtain ⟨x7, hg6, h⟩ := zb1_e h
    refine z_callS C dX6_edges_41 yy_J13_bitCount_95d88 (c_J13_bitCount_95d88 C.2.2.2.2.1  x5 I L hg6) q_1023 q_937 (by decide) (by decide) rfl rfl (Nat.le_of_ble_eq_true rfl) ⟨Nat.le_refl _, Nat.le_refl _, Nat.le_refl _, Nat.le_refl _⟩ ?_
    refine z_iadd C dX6_edges_44 ?_
    obtain ⟨x8, ex8, h⟩ := zlt_e h
    refine z_eqi C ex8 ?_
    refine z_istore_n C (lv' := [(1, .int x8), (3, .long x3), (0, .ref (B0 + 74)), (2, .int v2)]) rfl (by decide) rfl dX6_edges_45 ?_
    refine z_iload_n C rfl 0 rfl dX6_edges_46 ?_
    refine z_lload_n C rfl 1 rfl dX6_edges_47 ?_
    refine z_lload_n C rfl 1 rfl dX6_edges_48 ?_
    refine z_iconst C (v := 1) (by decide) dX6_edges_49 ?_
    refine z_lushr C dX6_edges_50 ?_
    obtain ⟨x9, ex9, h⟩ := zlt_e h
    refine z_eql C ex9 ?_
    refine z_ldc2 C dX6_edges_51 q_1034 ?_
    refine z_lxor C dX6_edges_54 ?_
    refine z_land C dX6_edges_55 ?_
    obtain ⟨x10, ex10, h⟩ := zlt_e h
    refine z_eql C ex10 ?_
    obtain ⟨x12, hg11, h⟩ := zb1_e h
    refine z_callS C dX6_edges_56 yy_J13_bitCount_95d88 (c_J13_bitCount_95d88 C.2.2.2.2.1  x10 I L hg11) q_1023 q_937 (by decide) (by decide) rfl rfl (Nat.le_of_ble_eq_true rfl) ⟨Nat.le_refl _, Nat.le_refl _, Nat.le_refl _, Nat.le_refl _⟩ ?_
    refine z_iadd C dX6_edges_59 ?_
    obtain ⟨x13, ex13, h⟩ := zlt_e h
    refine z_eqi C ex13 ?_
    refine z_istore_n C (lv' := [(1, .int x13), (3, .long x3), (0, .ref (B0 + 74)), (2, .int v2)]) rfl (by decide) rfl dX6_edges_60 ?_
    refine z_iload_n C rfl 0 rfl dX6_edges_61 ?_
    refine z_lload_n C rfl 1 rfl dX6_edges_62 ?_
    refine z_aload_n C rfl 2 rfl dX6_edges_63 ?_
    refine z_getr C zc_6 dX6_edges_64 3 74 57 rfl (by decide) (by decide) q_405 rfl rfl ?_
    refine z_getr C zc_5 dX6_edges_67 0 57 58 rfl (by decide) (by decide) q_337 rfl rfl ?_
    refine z_iload_n C rfl 3 rfl dX6_edges_70 ?_
    refine z_iconst C (v := 1) (by decide) dX6_edges_71 ?_
    refine z_isub C dX6_edges_72 ?_
    obtain ⟨x15, hg14, h⟩ := zb1_e h
    refine z_callSN C dX6_edges_73 yy_X11_rowAt (c_X11_rowAt C.2.2.2.2.1 ⟨rfl, rfl, by decide⟩ (v2 - (1 : Int32)) I L hg14) q_1016 q_1017 (by decide) (by decide) rfl rfl (Nat.le_of_ble_eq_true rfl) ⟨Nat.le_refl _, Nat.le_refl _, Nat.le_refl _, Nat.le_refl _⟩ ?_
    refine z_ldc2 C dX6_edges_76 q_1034 ?_
    refine z_lxor C dX6_edges_79 ?_
    refine z_land C dX6_edges_80 ?_
    obtain ⟨x16, ex16, h⟩ := zlt_e h
    refine z_eql C ex16 ?_
    obtain ⟨x18, hg17, h⟩ := zb1_e h
    refine z_callS C dX6_edges_81 yy_J13_bitCount_95d88 (c_J13_bitCount_95d88 C.2.2.2.2.1  x16 I L hg17) q_1023 q_937 (by decide) (by decide) rfl rfl (Nat.le_of_ble_eq_true rfl) ⟨Nat.le_refl _, Nat.le_refl _, Nat.le_refl _, Nat.le_refl _⟩ ?_
    refine z_iadd C dX6_edges_84 ?_
    obtain ⟨x19, ex19, h⟩ := zlt_e h
    refine z_eqi C ex19 ?_
    refine z_istore_n C (lv' := [(1, .int x19), (3, .long x3), (0, .ref (B0 + 74)), (2, .int v2)]) rfl (by decide) rfl dX6_edges_85 ?_
    refine z_iload_n C rfl 0 rfl dX6_edges_86 ?_
    refine z_lload_n C rfl 1 rfl dX6_edges_87 ?_
    refine z_aload_n C rfl 2 rfl dX6_edges_88 ?_
    refine z_getr C zc_6 dX6_edges_89 3 74 57 rfl (by decide) (by decide) q_405 rfl rfl ?_
    refine z_getr C zc_5 dX6_edges_92 0 57 58 rfl (by decide) (by decide) q_337 rfl rfl ?_
    refine z_iload_n C rfl 3 rfl dX6_edges_95 ?_
    refine z_iconst C (v := 1) (by decide) dX6_edges_96 ?_
    refine z_iadd C dX6_edges_97 ?_
    obtain ⟨x21, hg20, h⟩ := zb1_e h
    refine z_callSN C dX6_edges_98 yy_X11_rowAt (c_X11_rowAt C.2.2.2.2.1 ⟨rfl, rfl, by decide⟩ (v2 + (1 : Int32)) I L hg20) q_1016 q_1017 (by decide) (by decide) rfl rfl (Nat.le_of_ble_eq_true rfl) ⟨Nat.le_refl _, Nat.le_refl _, Nat.le_refl _, Nat.le_refl _⟩ ?_
    refine z_ldc2 C dX6_edges_101 q_1034 ?_
    refine z_lxor C dX6_edges_104 ?_
    refine z_land C dX6_edges_105 ?_
    obtain ⟨x22, ex22, h⟩ := zlt_e h
    refine z_eql C ex22 ?_
    obtain ⟨x24, hg23, h⟩ := zb1_e h
    refine z_callS C dX6_edges_106 yy_J13_bitCount_95d88 (c_J13_bitCount_95d88 C.2.2.2.2.1  x22 I L hg23) q_1023 q_937 (by decide) (by decide) rfl rfl (Nat.le_of_ble_eq_true rfl) ⟨Nat.le_refl _, Nat.le_refl _, Nat.le_refl _, Nat.le_refl _⟩ ?_
    refine z_iadd C dX6_edges_109 ?_
    obtain ⟨x25, ex25, h⟩ := zlt_e h
    refine z_eqi C ex25 ?_
    refine z_istore_n C (lv' := [(1, .int x25), (3, .long x3), (0, .ref (B0 + 74)), (2, .int v2)]) rfl (by decide) rfl dX6_edges_110 ?_
    obtain ⟨x26, ex26, h⟩ := zlt_e h
    refine z_iinc C (j := 3) (v := x26) (lv' := [(2, .int x26), (1, .int x25), (3, .long x3), (0, .ref (B0 + 74))]) rfl (by rw [ex26]; rfl) (by decide) rfl dX6_edges_111 ?_
    refine z_goto C 10 (by decide) dX6_edges_114 ?_
    refine z_lv [3, 1, 0] (lv' := [(0, .ref (B0 + 74)), (1, .int x25), (2, .int x26)]) rfl ?_
    exact hk10 x25 x26 I L h
set_option maxHeartbeats 4000000 in
set_option maxRecDepth 100000 in
theorem L_X6_edges_10 {r : Int32} (C : zC p l e R s m args below meth c s0 a0 d cy B0 yX6_edges.cls cX6_edges 5 (some .int) bc bs bc bs 1 21 []) (v1 : Int32) (v2 : Int32) (I : zI) (L : zL) (h : zlp4 (f_X6_edges_10) zF v1 v2 I L = some r) : zG p l e R s m args below meth c d cy B0 5 bc bs (zQ below s args d cy B0 bc bs (.inl (some (.int r))) zSH zKn bc bs I L) 10 [(0, .ref (B0 + 74)), (1, .int v1), (2, .int v2)] [] zSH zKn bc bs I L :=
 zlp4_e (fun (v1 : Int32) (v2 : Int32) (I : zI) (L : zL) => zG p l e R s m args below meth c d cy B0 5 bc bs (zQ below s args d cy B0 bc bs (.inl (some (.int r))) zSH zKn bc bs I L) 10 [(0, .ref (B0 + 74)), (1, .int v1), (2, .int v2)] [] zSH zKn bc bs I L) (fun k9 hk9 v1 v2 I L h => l_X6_edges_10 C k9 hk9 v1 v2 I L h) zF v1 v2 I L h
set_option maxHeartbeats 4000000 in
set_option maxRecDepth 100000 in
theorem c_X6_edges {r : Int32} (hE : zE0 l s0 a0 d cy B0) (I : zI) (L : zL) (h : f_X6_edges I L = some r) : zM l s0 d cy B0 yX6_edges cX6_edges 5 (some .int) 1 21 [.ref (B0 + 74)] zSH zKn bc bs I L (.inl (some (.int r))) zSH zKn bc bs I L := by
  refine z_meth yy_X6_edges hE (Nat.le_of_ble_eq_true rfl) (fun p e R s m args below meth c C => ?_)
  show zG p l e R s m args below meth c d cy B0 5 bc bs (zQ below s args d cy B0 bc bs (.inl (some (.int r))) zSH zKn bc bs I L) 0 [(0, .ref (B0 + 74))] [] zSH zKn bc bs I L
  unfold f_X6_edges at h
  refine z_iconst C (v := 0) (by decide) dX6_edges_0 ?_
  refine z_istore_n C (lv' := [(1, .int (0 : Int32)), (0, .ref (B0 + 74))]) rfl (by decide) rfl dX6_edges_1 ?_
  refine z_aload_n C rfl 1 rfl dX6_edges_2 ?_
  refine z_getr C zc_6 dX6_edges_3 3 74 57 rfl (by decide) (by decide) q_405 rfl rfl ?_
  refine z_geti C zc_5 dX6_edges_6 3 57 rfl (by decide) (by decide) q_345 rfl ?_
  obtain ⟨x1, ex1, h⟩ := zlt_e h
  refine z_eqi C ex1 ?_
  refine z_istore_n C (lv' := [(2, .int x1), (1, .int (0 : Int32)), (0, .ref (B0 + 74))]) rfl (by decide) rfl dX6_edges_9 ?_
  refine z_lv [2, 1, 0] (lv' := [(0, .ref (B0 + 74)), (1, .int (0 : Int32)), (2, .int x1)]) rfl ?_
  exact L_X6_edges_10 C  (0 : Int32) x1 I L h
theorem q_1042 : (Cond.code ({ cls := "DeviceFind$Place", name := "edgesAround", desc := "(II)I" } : Jvm.MethodName) prog_8_method_6_code (5 : Nat) (Option.some Jvm.ClassFile.FieldType.int)) ∈ lw_tbl := List.mem_of_getElem? (i := 1042) (by decide +kernel)
theorem yy_X6_edgesAround : zY yX6_edgesAround cX6_edgesAround 5 (some .int) 2 := ⟨q_1042, q_87, by decide +kernel, by decide +kernel, by decide +kernel⟩
noncomputable def f_X6_edgesAround (a1 : Int32) (a2 : Int32) (L : zL) : Option Int32 :=
  zlt ((1 : Int64) <<< (a1.toInt64 &&& 63)) (fun x1 => zck (zbd a2 64) (zlt (x1 <<< ((1 : Int32).toInt64 &&& 63)) (fun x3 => zlt ((x1.toUInt64 >>> ((1 : Int32).toInt64.toUInt64 &&& Int64.toUInt64 63)).toInt64) (fun x4 => zlt ((L 58 a2.toNatClampNeg) &&& (x3 ||| x4)) (fun x5 => zb1 (f_J13_bitCount_95d88 x5) (fun x7 => zb1 (f_X11_rowAt 58 (a2 - (1 : Int32)) L) (fun x9 => zb1 (f_J13_bitCount_95d88 (x9 &&& x1)) (fun x11 => zb1 (f_X11_rowAt 58 (a2 + (1 : Int32)) L) (fun x13 => zb1 (f_J13_bitCount_95d88 (x13 &&& x1)) (fun x15 => zlt ((x7 + x11) + x15) (fun x16 => some x16)))))))))))
set_option maxHeartbeats 4000000 in
set_option maxRecDepth 100000 in
theorem c_X6_edgesAround {r : Int32} (hE : zE0 l s0 a0 d cy B0) (a1 : Int32) (a2 : Int32) (I : zI) (L : zL) (h : f_X6_edgesAround a1 a2 L = some r) : zM l s0 d cy B0 yX6_edgesAround cX6_edgesAround 5 (some .int) 1 21 [.ref (B0 + 74), .int a1, .int a2] zSH zKn bc bs I L (.inl (some (.int r))) zSH zKn bc bs I L := by
  refine z_meth yy_X6_edgesAround hE (Nat.le_of_ble_eq_true rfl) (fun p e R s m args below meth c C => ?_)
  show zG p l e R s m args below meth c d cy B0 5 bc bs (zQ below s args d cy B0 bc bs (.inl (some (.int r))) zSH zKn bc bs I L) 0 [(0, .ref (B0 + 74)), (1, .int a1), (2, .int a2)] [] zSH zKn bc bs I L
  unfold f_X6_edgesAround at h
  refine z_lconst C (v := 1) (by decide) dX6_edgesAround_0 ?_
  refine z_iload_n C rfl 1 rfl dX6_edgesAround_1 ?_
  refine z_lshl C dX6_edgesAround_2 ?_
  obtain ⟨x1, ex1, h⟩ := zlt_e h
  refine z_eql C ex1 ?_
  refine z_lstore_n C (lv' := [(3, .long x1), (0, .ref (B0 + 74)), (1, .int a1), (2, .int a2)]) rfl (by decide) rfl dX6_edgesAround_3 ?_
  refine z_aload_n C rfl 1 rfl dX6_edgesAround_4 ?_
  refine z_getr C zc_6 dX6_edgesAround_5 3 74 57 rfl (by decide) (by decide) q_405 rfl rfl ?_
  refine z_getr C zc_5 dX6_edgesAround_8 0 57 58 rfl (by decide) (by decide) q_337 rfl rfl ?_
  refine z_iload_n C rfl 3 rfl dX6_edgesAround_11 ?_
  obtain ⟨hb2, h⟩ := zck_e h
  refine z_laload C dX6_edgesAround_12 rfl rfl (by decide) (zbd_in hb2) ?_
  refine z_lload_n C rfl 0 rfl dX6_edgesAround_13 ?_
  refine z_iconst C (v := 1) (by decide) dX6_edgesAround_14 ?_
  refine z_lshl C dX6_edgesAround_15 ?_
  obtain ⟨x3, ex3, h⟩ := zlt_e h
  refine z_eql C ex3 ?_
  refine z_lload_n C rfl 0 rfl dX6_edgesAround_16 ?_
  refine z_iconst C (v := 1) (by decide) dX6_edgesAround_17 ?_
  refine z_lushr C dX6_edgesAround_18 ?_
  obtain ⟨x4, ex4, h⟩ := zlt_e h
  refine z_eql C ex4 ?_
  refine z_lor C dX6_edgesAround_19 ?_
  refine z_land C dX6_edgesAround_20 ?_
  obtain ⟨x5, ex5, h⟩ := zlt_e h
  refine z_eql C ex5 ?_
  obtain ⟨x7, hg6, h⟩ := zb1_e h
  refine z_callS C dX6_edgesAround_21 yy_J13_bitCount_95d88 (c_J13_bitCount_95d88 C.2.2.2.2.1  x5 I L hg6) q_1023 q_937 (by decide) (by decide) rfl rfl (Nat.le_of_ble_eq_true rfl) ⟨Nat.le_refl _, Nat.le_refl _, Nat.le_refl _, Nat.le_refl _⟩ ?_
  refine z_aload_n C rfl 1 rfl dX6_edgesAround_24 ?_
  refine z_getr C zc_6 dX6_edgesAround_25 3 74 57 rfl (by decide) (by decide) q_405 rfl rfl ?_
  refine z_getr C zc_5 dX6_edgesAround_28 0 57 58 rfl (by decide) (by decide) q_337 rfl rfl ?_
  refine z_iload_n C rfl 3 rfl dX6_edgesAround_31 ?_
  refine z_iconst C (v := 1) (by decide) dX6_edgesAround_32 ?_
  refine z_isub C dX6_edgesAround_33 ?_
  obtain ⟨x9, hg8, h⟩ := zb1_e h
  refine z_callSN C dX6_edgesAround_34 yy_X11_rowAt (c_X11_rowAt C.2.2.2.2.1 ⟨rfl, rfl, by decide⟩ (a2 - (1 : Int32)) I L hg8) q_1016 q_1017 (by decide) (by decide) rfl rfl (Nat.le_of_ble_eq_true rfl) ⟨Nat.le_refl _, Nat.le_refl _, Nat.le_refl _, Nat.le_refl _⟩ ?_
  refine z_lload_n C rfl 0 rfl dX6_edgesAround_37 ?_
  refine z_land C dX6_edgesAround_38 ?_
  obtain ⟨x11, hg10, h⟩ := zb1_e h
  refine z_callS C dX6_edgesAround_39 yy_J13_bitCount_95d88 (c_J13_bitCount_95d88 C.2.2.2.2.1  (x9 &&& x1) I L hg10) q_1023 q_937 (by decide) (by decide) rfl rfl (Nat.le_of_ble_eq_true rfl) ⟨Nat.le_refl _, Nat.le_refl _, Nat.le_refl _, Nat.le_refl _⟩ ?_
  refine z_iadd C dX6_edgesAround_42 ?_
  refine z_aload_n C rfl 1 rfl dX6_edgesAround_43 ?_
  refine z_getr C zc_6 dX6_edgesAround_44 3 74 57 rfl (by decide) (by decide) q_405 rfl rfl ?_
  refine z_getr C zc_5 dX6_edgesAround_47 0 57 58 rfl (by decide) (by decide) q_337 rfl rfl ?_
  refine z_iload_n C rfl 3 rfl dX6_edgesAround_50 ?_
  refine z_iconst C (v := 1) (by decide) dX6_edgesAround_51 ?_
  refine z_iadd C dX6_edgesAround_52 ?_
  obtain ⟨x13, hg12, h⟩ := zb1_e h
  refine z_callSN C dX6_edgesAround_53 yy_X11_rowAt (c_X11_rowAt C.2.2.2.2.1 ⟨rfl, rfl, by decide⟩ (a2 + (1 : Int32)) I L hg12) q_1016 q_1017 (by decide) (by decide) rfl rfl (Nat.le_of_ble_eq_true rfl) ⟨Nat.le_refl _, Nat.le_refl _, Nat.le_refl _, Nat.le_refl _⟩ ?_
  refine z_lload_n C rfl 0 rfl dX6_edgesAround_56 ?_
  refine z_land C dX6_edgesAround_57 ?_
  obtain ⟨x15, hg14, h⟩ := zb1_e h
  refine z_callS C dX6_edgesAround_58 yy_J13_bitCount_95d88 (c_J13_bitCount_95d88 C.2.2.2.2.1  (x13 &&& x1) I L hg14) q_1023 q_937 (by decide) (by decide) rfl rfl (Nat.le_of_ble_eq_true rfl) ⟨Nat.le_refl _, Nat.le_refl _, Nat.le_refl _, Nat.le_refl _⟩ ?_
  refine z_iadd C dX6_edgesAround_61 ?_
  obtain ⟨x16, ex16, h⟩ := zlt_e h
  refine z_eqi C ex16 ?_
  obtain rfl := Option.some.inj h
  exact z_iret C dX6_edgesAround_62 .int rfl rfl rfl
theorem q_39 : Cond.selects "DeviceFind$Place" ⟨"DeviceFind$Place", "edgesAround", "(II)I"⟩ ⟨"DeviceFind$Place", "edgesAround", "(II)I"⟩ ∈ lw_tbl := List.mem_of_getElem? (i := 39) (by decide +kernel)
theorem q_1038 : (Cond.code ({ cls := "DeviceFind$Place", name := "edgesToFirstPin", desc := "(LDeviceFind$Plan;I)I" } : Jvm.MethodName) prog_8_method_5_code (10 : Nat) (Option.some Jvm.ClassFile.FieldType.int)) ∈ lw_tbl := List.mem_of_getElem? (i := 1038) (by decide +kernel)
theorem q_1039 : (Cond.methodLink "DeviceFind$Place" (105 : Nat) ({ cls := "DeviceFind$Place", name := "edgesAround", desc := "(II)I" } : Jvm.MethodName)) ∈ lw_tbl := List.mem_of_getElem? (i := 1039) (by decide +kernel)
theorem q_1041 : (Cond.instanceMethod ({ cls := "DeviceFind$Place", name := "edgesAround", desc := "(II)I" } : Jvm.MethodName)) ∈ lw_tbl := List.mem_of_getElem? (i := 1041) (by decide +kernel)
theorem yy_X6_edgesToFirstPin : zY yX6_edgesToFirstPin cX6_edgesToFirstPin 10 (some .int) 2 := ⟨q_1038, q_87, by decide +kernel, by decide +kernel, by decide +kernel⟩
noncomputable def f_X6_edgesToFirstPin_148 (k30 : Int32 → Int32 → Int32 → zI → zL → Option Int32) (k88 : Int32 → Int32 → Int32 → Int64 → Int32 → zI → zL → Option Int32) (P : Nat) (v3 : Int32) (v4 : Int32) (v5 : Int32) (v6 : Int64) (v8 : Int32) (I : zI) (L : zL) : Option Int32 :=
  zlt (v8 + (-1)) (fun x32 => k88 v3 v4 v5 v6 x32 I L)
noncomputable def f_X6_edgesToFirstPin_88 (k30 : Int32 → Int32 → Int32 → zI → zL → Option Int32) (P : Nat) (k88 : Int32 → Int32 → Int32 → Int64 → Int32 → zI → zL → Option Int32) (v3 : Int32) (v4 : Int32) (v5 : Int32) (v6 : Int64) (v8 : Int32) (I : zI) (L : zL) : Option Int32 :=
  if v8 ≤ 0 then (zlt (v5 + 1) (fun x20 => k30 v3 v4 x20 I L)) else (zb1 (f_X11_leftmost v6) (fun x22 => zlt (v6 &&& (v6 - (1 : Int64))) (fun x23 => zck (zbd v3 8) (zb1 (f_X11_squareAt x22 v5) (fun x26 => zck (zbd x26 4096) (zck (zbd (0 : Int32) 4) (if (I ((63 + v3.toNatClampNeg)) x26.toNatClampNeg) = (I 75 (0 : Int32).toNatClampNeg) then (zb1 (f_X6_edgesAround x22 v5 L) (fun x30 => zlt (v4 + x30) (fun x31 => f_X6_edgesToFirstPin_148 k30 k88 P v3 x31 v5 x23 v8 I L))) else (f_X6_edgesToFirstPin_148 k30 k88 P v3 v4 v5 x23 v8 I L))))))))
noncomputable def f_X6_edgesToFirstPin_30 (P : Nat) (k30 : Int32 → Int32 → Int32 → zI → zL → Option Int32) (v3 : Int32) (v4 : Int32) (v5 : Int32) (I : zI) (L : zL) : Option Int32 :=
  zb1 (f_X6_highest I) (fun x8 => if x8 < v5 then (some v4) else (zck (zbd v5 64) (zck (zbd v5 64) (zlt ((L 58 v5.toNatClampNeg) ^^^ (-1 : Int64)) (fun x11 => zlt ((L 76 v5.toNatClampNeg) &&& x11) (fun x12 => zck (zbd v3 8) (zlt (I ((P + 1 + 4)) v3.toNatClampNeg) (fun x14 => zck (zbd x14 24) (zck (zbd v5 64) (zlt (x12 &&& (L ((33 + x14.toNatClampNeg)) v5.toNatClampNeg)) (fun x17 => zb1 (f_J13_bitCount_95d88 x17) (fun x19 => zlp7 (f_X6_edgesToFirstPin_88 k30 P) zF v3 v4 v5 x17 x19 I L))))))))))))
noncomputable def f_X6_edgesToFirstPin (P : Nat) (a2 : Int32) (I : zI) (L : zL) : Option Int32 :=
  zck (zbd (0 : Int32) 4) (if (I 75 (0 : Int32).toNatClampNeg) = (-1 : Int32) then (some (0 : Int32)) else (zlt (a2 * (4 : Int32)) (fun x2 => zck (zbd x2 32) (zlt (I ((P + 1 + 11)) x2.toNatClampNeg) (fun x4 => zb1 (f_X6_lowest I) (fun x6 => zlp5 (f_X6_edgesToFirstPin_30 P) zF x4 (0 : Int32) x6 I L))))))
set_option maxHeartbeats 4000000 in
set_option maxRecDepth 100000 in
theorem l_X6_edgesToFirstPin_148 {r : Int32} (C : zC p l e R s m args below meth c s0 a0 d cy B0 yX6_edgesToFirstPin.cls cX6_edgesToFirstPin 10 (some .int) bc bs bc bs 2 60 []) {P : Nat} (hP : zpl P) (k30 : Int32 → Int32 → Int32 → zI → zL → Option Int32) (hk30 : ∀ (v3 : Int32) (v4 : Int32) (v5 : Int32) (I : zI) (L : zL), k30 v3 v4 v5 I L = some r → zG p l e R s m args below meth c d cy B0 10 bc bs (zQ below s args d cy B0 bc bs (.inl (some (.int r))) zSH zKn bc bs I L) 30 [(0, .ref (B0 + 74)), (1, .ref (B0 + P)), (3, .int v3), (4, .int v4), (5, .int v5)] [] zSH zKn bc bs I L) (k88 : Int32 → Int32 → Int32 → Int64 → Int32 → zI → zL → Option Int32) (hk88 : ∀ (v3 : Int32) (v4 : Int32) (v5 : Int32) (v6 : Int64) (v8 : Int32) (I : zI) (L : zL), k88 v3 v4 v5 v6 v8 I L = some r → zG p l e R s m args below meth c d cy B0 10 bc bs (zQ below s args d cy B0 bc bs (.inl (some (.int r))) zSH zKn bc bs I L) 88 [(0, .ref (B0 + 74)), (1, .ref (B0 + P)), (3, .int v3), (4, .int v4), (5, .int v5), (6, .long v6), (8, .int v8)] [] zSH zKn bc bs I L) (v3 : Int32) (v4 : Int32) (v5 : Int32) (v6 : Int64) (v8 : Int32) (I : zI) (L : zL) (h : f_X6_edgesToFirstPin_148 k30 k88 P v3 v4 v5 v6 v8 I L = some r) : zG p l e R s m args below meth c d cy B0 10 bc bs (zQ below s args d cy B0 bc bs (.inl (some (.int r))) zSH zKn bc bs I L) 148 [(0, .ref (B0 + 74)), (1, .ref (B0 + P)), (3, .int v3), (4, .int v4), (5, .int v5), (6, .long v6), (8, .int v8)] [] zSH zKn bc bs I L := by
  unfold f_X6_edgesToFirstPin_148 at h
  obtain ⟨x32, ex32, h⟩ := zlt_e h
  refine z_iinc C (j := 6) (v := x32) (lv' := [(8, .int x32), (0, .ref (B0 + 74)), (1, .ref (B0 + P)), (3, .int v3), (4, .int v4), (5, .int v5), (6, .long v6)]) rfl (by rw [ex32]; rfl) (by decide) rfl dX6_edgesToFirstPin_148 ?_
  refine z_goto C 88 (by decide) dX6_edgesToFirstPin_151 ?_
  refine z_lv [1, 2, 3, 4, 5, 6, 0] (lv' := [(0, .ref (B0 + 74)), (1, .ref (B0 + P)), (3, .int v3), (4, .int v4), (5, .int v5), (6, .long v6), (8, .int x32)]) rfl ?_
  exact hk88 v3 v4 v5 v6 x32 I L h
set_option maxHeartbeats 4000000 in
set_option maxRecDepth 100000 in
theorem l_X6_edgesToFirstPin_88 {r : Int32} (C : zC p l e R s m args below meth c s0 a0 d cy B0 yX6_edgesToFirstPin.cls cX6_edgesToFirstPin 10 (some .int) bc bs bc bs 2 60 []) {P : Nat} (hP : zpl P) (k30 : Int32 → Int32 → Int32 → zI → zL → Option Int32) (hk30 : ∀ (v3 : Int32) (v4 : Int32) (v5 : Int32) (I : zI) (L : zL), k30 v3 v4 v5 I L = some r → zG p l e R s m args below meth c d cy B0 10 bc bs (zQ below s args d cy B0 bc bs (.inl (some (.int r))) zSH zKn bc bs I L) 30 [(0, .ref (B0 + 74)), (1, .ref (B0 + P)), (3, .int v3), (4, .int v4), (5, .int v5)] [] zSH zKn bc bs I L) (k88 : Int32 → Int32 → Int32 → Int64 → Int32 → zI → zL → Option Int32) (hk88 : ∀ (v3 : Int32) (v4 : Int32) (v5 : Int32) (v6 : Int64) (v8 : Int32) (I : zI) (L : zL), k88 v3 v4 v5 v6 v8 I L = some r → zG p l e R s m args below meth c d cy B0 10 bc bs (zQ below s args d cy B0 bc bs (.inl (some (.int r))) zSH zKn bc bs I L) 88 [(0, .ref (B0 + 74)), (1, .ref (B0 + P)), (3, .int v3), (4, .int v4), (5, .int v5), (6, .long v6), (8, .int v8)] [] zSH zKn bc bs I L) (v3 : Int32) (v4 : Int32) (v5 : Int32) (v6 : Int64) (v8 : Int32) (I : zI) (L : zL) (h : f_X6_edgesToFirstPin_88 k30 P k88 v3 v4 v5 v6 v8 I L = some r) : zG p l e R s m args below meth c d cy B0 10 bc bs (zQ below s args d cy B0 bc bs (.inl (some (.int r))) zSH zKn bc bs I L) 88 [(0, .ref (B0 + 74)), (1, .ref (B0 + P)), (3, .int v3), (4, .int v4), (5, .int v5), (6, .long v6), (8, .int v8)] [] zSH zKn bc bs I L := by
  unfold f_X6_edgesToFirstPin_88 at h
  refine z_iload C 6 rfl dX6_edgesToFirstPin_88 ?_
  refine z_if_le C 154 (by decide) dX6_edgesToFirstPin_90 (fun hc => ?_) (fun hc => ?_)
  · have h := zif_t hc h
    obtain ⟨x20, ex20, h⟩ := zlt_e h
    refine z_iinc C (j := 4) (v := x20) (lv' := [(5, .int x20), (0, .ref (B0 + 74)), (1, .ref (B0 + P)), (3, .int v3), (4, .int v4), (6, .long v6), (8, .int v8)]) rfl (by rw [ex20]; rfl) (by decide) rfl dX6_edgesToFirstPin_154 ?_
    refine z_goto C 30 (by decide) dX6_edgesToFirstPin_157 ?_
    refine z_lv [1, 2, 3, 4, 0] (lv' := [(0, .ref (B0 + 74)), (1, .ref (B0 + P)), (3, .int v3), (4, .int v4), (5, .int x20)]) rfl ?_
    exact hk30 v3 v4 x20 I L h
  · have h := zif_f hc h
    refine z_lload C 5 rfl dX6_edgesToFirstPin_93 ?_
    obtain ⟨x22, hg21, h⟩ := zb1_e h
    refine z_callSN C dX6_edgesToFirstPin_95 yy_X11_leftmost (c_X11_leftmost C.2.2.2.2.1  v6 I L hg21) q_1024 q_934 (by decide) (by decide) rfl rfl (Nat.le_of_ble_eq_true rfl) ⟨Nat.le_refl _, Nat.le_refl _, Nat.le_refl _, Nat.le_refl _⟩ ?_
    refine z_istore C (lv' := [(9, .int x22), (0, .ref (B0 + 74)), (1, .ref (B0 + P)), (3, .int v3), (4, .int v4), (5, .int v5), (6, .long v6), (8, .int v8)]) (by decide) rfl dX6_edgesToFirstPin_98 ?_
    refine z_lload C 6 rfl dX6_edgesToFirstPin_100 ?_
    refine z_lload C 6 rfl dX6_edgesToFirstPin_102 ?_
    refine z_lconst C (v := 1) (by decide) dX6_edgesToFirstPin_104 ?_
    refine z_lsub C dX6_edgesToFirstPin_105 ?_
    refine z_land C dX6_edgesToFirstPin_106 ?_
    obtain ⟨x23, ex23, h⟩ := zlt_e h
    refine z_eql C ex23 ?_
    refine z_lstore C (lv' := [(6, .long x23), (9, .int x22), (0, .ref (B0 + 74)), (1, .ref (B0 + P)), (3, .int v3), (4, .int v4), (5, .int v5), (8, .int v8)]) (by decide) rfl dX6_edgesToFirstPin_107 ?_
    refine z_aload_n C rfl 2 rfl dX6_edgesToFirstPin_109 ?_
    refine z_getr C zc_6 dX6_edgesToFirstPin_110 2 74 61 rfl (by decide) (by decide) q_404 rfl rfl ?_
    refine z_getr C zc_3 dX6_edgesToFirstPin_113 0 61 62 rfl (by decide) (by decide) q_371 rfl rfl ?_
    refine z_iload_n C rfl 4 rfl dX6_edgesToFirstPin_116 ?_
    obtain ⟨hb24, h⟩ := zck_e h
    refine z_aaload C dX6_edgesToFirstPin_117 (t := 4) rfl (by decide) rfl (by decide) (zbd_in hb24) (z_rowI (zbd_lt hb24)).1 ?_
    refine z_iload C 1 rfl dX6_edgesToFirstPin_118 ?_
    refine z_iload C 6 rfl dX6_edgesToFirstPin_120 ?_
    obtain ⟨x26, hg25, h⟩ := zb1_e h
    refine z_callSN C dX6_edgesToFirstPin_122 yy_X11_squareAt (c_X11_squareAt C.2.2.2.2.1  x22 v5 I L hg25) q_1025 q_858 (by decide) (by decide) rfl rfl (Nat.le_of_ble_eq_true rfl) ⟨Nat.le_refl _, Nat.le_refl _, Nat.le_refl _, Nat.le_refl _⟩ ?_
    obtain ⟨hb27, h⟩ := zck_e h
    refine z_iaload C dX6_edgesToFirstPin_125 (z_rowI (zbd_lt hb24)).2.1 (z_rowI (zbd_lt hb24)).2.2.1 (z_rowI (zbd_lt hb24)).2.2.2 (zbd_in hb27) ?_
    refine z_aload_n C rfl 2 rfl dX6_edgesToFirstPin_126 ?_
    refine z_getr C zc_6 dX6_edgesToFirstPin_127 0 74 75 rfl (by decide) (by decide) q_402 rfl rfl ?_
    refine z_iconst C (v := 0) (by decide) dX6_edgesToFirstPin_130 ?_
    obtain ⟨hb28, h⟩ := zck_e h
    refine z_iaload C dX6_edgesToFirstPin_131 rfl rfl (by decide) (zbd_in hb28) ?_
    refine z_icmp_ne C 148 (by decide) dX6_edgesToFirstPin_132 (fun hc => ?_) (fun hc => ?_)
    · have h := zif_f hc h
      refine z_lv [2, 3, 4, 5, 6, 0, 7] (lv' := [(0, .ref (B0 + 74)), (1, .ref (B0 + P)), (3, .int v3), (4, .int v4), (5, .int v5), (6, .long x23), (8, .int v8)]) rfl ?_
      exact l_X6_edgesToFirstPin_148 C hP k30 hk30 k88 hk88 v3 v4 v5 x23 v8 I L h
    · have h := zif_t hc h
      refine z_iload C 5 rfl dX6_edgesToFirstPin_135 ?_
      refine z_aload_n C rfl 2 rfl dX6_edgesToFirstPin_137 ?_
      refine z_iload C 1 rfl dX6_edgesToFirstPin_138 ?_
      refine z_iload C 6 rfl dX6_edgesToFirstPin_140 ?_
      obtain ⟨x30, hg29, h⟩ := zb1_e h
      refine z_callV C zc_6 rfl (by decide) dX6_edgesToFirstPin_142 yy_X6_edgesAround (c_X6_edgesAround C.2.2.2.2.1  x22 v5 I L hg29) q_1039 q_1041 q_39 (by decide) (by decide) rfl rfl (Nat.le_of_ble_eq_true rfl) ⟨Nat.le_refl _, Nat.le_refl _, Nat.le_refl _, Nat.le_refl _⟩ ?_
      refine z_iadd C dX6_edgesToFirstPin_145 ?_
      obtain ⟨x31, ex31, h⟩ := zlt_e h
      refine z_eqi C ex31 ?_
      refine z_istore C (lv' := [(4, .int x31), (6, .long x23), (9, .int x22), (0, .ref (B0 + 74)), (1, .ref (B0 + P)), (3, .int v3), (5, .int v5), (8, .int v8)]) (by decide) rfl dX6_edgesToFirstPin_146 ?_
      refine z_lv [3, 4, 5, 0, 6, 1, 7] (lv' := [(0, .ref (B0 + 74)), (1, .ref (B0 + P)), (3, .int v3), (4, .int x31), (5, .int v5), (6, .long x23), (8, .int v8)]) rfl ?_
      exact l_X6_edgesToFirstPin_148 C hP k30 hk30 k88 hk88 v3 x31 v5 x23 v8 I L h
set_option maxHeartbeats 4000000 in
set_option maxRecDepth 100000 in
theorem L_X6_edgesToFirstPin_88 {r : Int32} (C : zC p l e R s m args below meth c s0 a0 d cy B0 yX6_edgesToFirstPin.cls cX6_edgesToFirstPin 10 (some .int) bc bs bc bs 2 60 []) {P : Nat} (hP : zpl P) (k30 : Int32 → Int32 → Int32 → zI → zL → Option Int32) (hk30 : ∀ (v3 : Int32) (v4 : Int32) (v5 : Int32) (I : zI) (L : zL), k30 v3 v4 v5 I L = some r → zG p l e R s m args below meth c d cy B0 10 bc bs (zQ below s args d cy B0 bc bs (.inl (some (.int r))) zSH zKn bc bs I L) 30 [(0, .ref (B0 + 74)), (1, .ref (B0 + P)), (3, .int v3), (4, .int v4), (5, .int v5)] [] zSH zKn bc bs I L) (v3 : Int32) (v4 : Int32) (v5 : Int32) (v6 : Int64) (v8 : Int32) (I : zI) (L : zL) (h : zlp7 (f_X6_edgesToFirstPin_88 k30 P) zF v3 v4 v5 v6 v8 I L = some r) : zG p l e R s m args below meth c d cy B0 10 bc bs (zQ below s args d cy B0 bc bs (.inl (some (.int r))) zSH zKn bc bs I L) 88 [(0, .ref (B0 + 74)), (1, .ref (B0 + P)), (3, .int v3), (4, .int v4), (5, .int v5), (6, .long v6), (8, .int v8)] [] zSH zKn bc bs I L :=
 zlp7_e (fun (v3 : Int32) (v4 : Int32) (v5 : Int32) (v6 : Int64) (v8 : Int32) (I : zI) (L : zL) => zG p l e R s m args below meth c d cy B0 10 bc bs (zQ below s args d cy B0 bc bs (.inl (some (.int r))) zSH zKn bc bs I L) 88 [(0, .ref (B0 + 74)), (1, .ref (B0 + P)), (3, .int v3), (4, .int v4), (5, .int v5), (6, .long v6), (8, .int v8)] [] zSH zKn bc bs I L) (fun k9 hk9 v3 v4 v5 v6 v8 I L h => l_X6_edgesToFirstPin_88 C hP k30 hk30 k9 hk9 v3 v4 v5 v6 v8 I L h) zF v3 v4 v5 v6 v8 I L h
set_option maxHeartbeats 4000000 in
set_option maxRecDepth 100000 in
theorem l_X6_edgesToFirstPin_30 {r : Int32} (C : zC p l e R s m args below meth c s0 a0 d cy B0 yX6_edgesToFirstPin.cls cX6_edgesToFirstPin 10 (some .int) bc bs bc bs 2 60 []) {P : Nat} (hP : zpl P) (k30 : Int32 → Int32 → Int32 → zI → zL → Option Int32) (hk30 : ∀ (v3 : Int32) (v4 : Int32) (v5 : Int32) (I : zI) (L : zL), k30 v3 v4 v5 I L = some r → zG p l e R s m args below meth c d cy B0 10 bc bs (zQ below s args d cy B0 bc bs (.inl (some (.int r))) zSH zKn bc bs I L) 30 [(0, .ref (B0 + 74)), (1, .ref (B0 + P)), (3, .int v3), (4, .int v4), (5, .int v5)] [] zSH zKn bc bs I L) (v3 : Int32) (v4 : Int32) (v5 : Int32) (I : zI) (L : zL) (h : f_X6_edgesToFirstPin_30 P k30 v3 v4 v5 I L = some r) : zG p l e R s m args below meth c d cy B0 10 bc bs (zQ below s args d cy B0 bc bs (.inl (some (.int r))) zSH zKn bc bs I L) 30 [(0, .ref (B0 + 74)), (1, .ref (B0 + P)), (3, .int v3), (4, .int v4), (5, .int v5)] [] zSH zKn bc bs I L := by
  unfold f_X6_edgesToFirstPin_30 at h
  refine z_iload C 4 rfl dX6_edgesToFirstPin_30 ?_
  refine z_aload_n C rfl 0 rfl dX6_edgesToFirstPin_32 ?_
  obtain ⟨x8, hg7, h⟩ := zb1_e h
  refine z_callV C zc_6 rfl (by decide) dX6_edgesToFirstPin_33 yy_X6_highest (c_X6_highest C.2.2.2.2.1  I L hg7) q_1011 q_1013 q_36 (by decide) (by decide) rfl rfl (Nat.le_of_ble_eq_true rfl) ⟨Nat.le_refl _, Nat.le_refl _, Nat.le_refl _, Nat.le_refl _⟩ ?_
  refine z_icmp_gt C 160 (by decide) dX6_edgesToFirstPin_36 (fun hc => ?_) (fun hc => ?_)
  · have h := zif_t hc h
    refine z_iload C 3 rfl dX6_edgesToFirstPin_160 ?_
    obtain rfl := Option.some.inj h
    exact z_iret C dX6_edgesToFirstPin_162 .int rfl rfl rfl
  · have h := zif_f hc h
    refine z_aload_n C rfl 0 rfl dX6_edgesToFirstPin_39 ?_
    refine z_getr C zc_6 dX6_edgesToFirstPin_40 4 74 76 rfl (by decide) (by decide) q_406 rfl rfl ?_
    refine z_iload C 4 rfl dX6_edgesToFirstPin_43 ?_
    obtain ⟨hb9, h⟩ := zck_e h
    refine z_laload C dX6_edgesToFirstPin_45 rfl rfl (by decide) (zbd_in hb9) ?_
    refine z_aload_n C rfl 0 rfl dX6_edgesToFirstPin_46 ?_
    refine z_getr C zc_6 dX6_edgesToFirstPin_47 3 74 57 rfl (by decide) (by decide) q_405 rfl rfl ?_
    refine z_getr C zc_5 dX6_edgesToFirstPin_50 0 57 58 rfl (by decide) (by decide) q_337 rfl rfl ?_
    refine z_iload C 4 rfl dX6_edgesToFirstPin_53 ?_
    obtain ⟨hb10, h⟩ := zck_e h
    refine z_laload C dX6_edgesToFirstPin_55 rfl rfl (by decide) (zbd_in hb10) ?_
    refine z_ldc2 C dX6_edgesToFirstPin_56 q_1034 ?_
    refine z_lxor C dX6_edgesToFirstPin_59 ?_
    obtain ⟨x11, ex11, h⟩ := zlt_e h
    refine z_eql C ex11 ?_
    refine z_land C dX6_edgesToFirstPin_60 ?_
    obtain ⟨x12, ex12, h⟩ := zlt_e h
    refine z_eql C ex12 ?_
    refine z_aload_n C rfl 0 rfl dX6_edgesToFirstPin_61 ?_
    refine z_getr C zc_6 dX6_edgesToFirstPin_62 1 74 31 rfl (by decide) (by decide) q_403 rfl rfl ?_
    refine z_getr C zc_2 dX6_edgesToFirstPin_65 0 31 32 rfl (by decide) (by decide) q_326 rfl rfl ?_
    refine z_aload_n C rfl 1 rfl dX6_edgesToFirstPin_68 ?_
    refine z_getr C zc_7 dX6_edgesToFirstPin_69 4 P (P + 1 + 4) (zpl_k hP) (zpl_lt hP) (by decide) q_179 rfl (zpl_r hP 4 (by decide)) ?_
    refine z_iload_n C rfl 2 rfl dX6_edgesToFirstPin_72 ?_
    obtain ⟨hb13, h⟩ := zck_e h
    refine z_iaload C dX6_edgesToFirstPin_73 (zpl_ak hP 4 (by decide)) (zpl_an hP 4 (by decide)) (zpl_a hP 4 (by decide)) (zbd_in hb13) ?_
    obtain ⟨x14, ex14, h⟩ := zlt_e h
    refine z_eqi C ex14 ?_
    obtain ⟨hb15, h⟩ := zck_e h
    refine z_aaload C dX6_edgesToFirstPin_74 (t := 5) rfl (by decide) rfl (by decide) (zbd_in hb15) (z_rowJ (zbd_lt hb15)).1 ?_
    refine z_iload C 4 rfl dX6_edgesToFirstPin_75 ?_
    obtain ⟨hb16, h⟩ := zck_e h
    refine z_laload C dX6_edgesToFirstPin_77 (z_rowJ (zbd_lt hb15)).2.1 (z_rowJ (zbd_lt hb15)).2.2.1 (z_rowJ (zbd_lt hb15)).2.2.2 (zbd_in hb16) ?_
    refine z_land C dX6_edgesToFirstPin_78 ?_
    obtain ⟨x17, ex17, h⟩ := zlt_e h
    refine z_eql C ex17 ?_
    refine z_lstore C (lv' := [(6, .long x17), (0, .ref (B0 + 74)), (1, .ref (B0 + P)), (3, .int v3), (4, .int v4), (5, .int v5)]) (by decide) rfl dX6_edgesToFirstPin_79 ?_
    refine z_lload C 0 rfl dX6_edgesToFirstPin_81 ?_
    obtain ⟨x19, hg18, h⟩ := zb1_e h
    refine z_callS C dX6_edgesToFirstPin_83 yy_J13_bitCount_95d88 (c_J13_bitCount_95d88 C.2.2.2.2.1  x17 I L hg18) q_1023 q_937 (by decide) (by decide) rfl rfl (Nat.le_of_ble_eq_true rfl) ⟨Nat.le_refl _, Nat.le_refl _, Nat.le_refl _, Nat.le_refl _⟩ ?_
    refine z_istore C (lv' := [(8, .int x19), (6, .long x17), (0, .ref (B0 + 74)), (1, .ref (B0 + P)), (3, .int v3), (4, .int v4), (5, .int v5)]) (by decide) rfl dX6_edgesToFirstPin_86 ?_
    refine z_lv [2, 3, 4, 5, 6, 1, 0] (lv' := [(0, .ref (B0 + 74)), (1, .ref (B0 + P)), (3, .int v3), (4, .int v4), (5, .int v5), (6, .long x17), (8, .int x19)]) rfl ?_
    exact L_X6_edgesToFirstPin_88 C hP k30 hk30 v3 v4 v5 x17 x19 I L h
set_option maxHeartbeats 4000000 in
set_option maxRecDepth 100000 in
theorem L_X6_edgesToFirstPin_30 {r : Int32} (C : zC p l e R s m args below meth c s0 a0 d cy B0 yX6_edgesToFirstPin.cls cX6_edgesToFirstPin 10 (some .int) bc bs bc bs 2 60 []) {P : Nat} (hP : zpl P) (v3 : Int32) (v4 : Int32) (v5 : Int32) (I : zI) (L : zL) (h : zlp5 (f_X6_edgesToFirstPin_30 P) zF v3 v4 v5 I L = some r) : zG p l e R s m args below meth c d cy B0 10 bc bs (zQ below s args d cy B0 bc bs (.inl (some (.int r))) zSH zKn bc bs I L) 30 [(0, .ref (B0 + 74)), (1, .ref (B0 + P)), (3, .int v3), (4, .int v4), (5, .int v5)] [] zSH zKn bc bs I L :=
 zlp5_e (fun (v3 : Int32) (v4 : Int32) (v5 : Int32) (I : zI) (L : zL) => zG p l e R s m args below meth c d cy B0 10 bc bs (zQ below s args d cy B0 bc bs (.inl (some (.int r))) zSH zKn bc bs I L) 30 [(0, .ref (B0 + 74)), (1, .ref (B0 + P)), (3, .int v3), (4, .int v4), (5, .int v5)] [] zSH zKn bc bs I L) (fun k9 hk9 v3 v4 v5 I L h => l_X6_edgesToFirstPin_30 C hP k9 hk9 v3 v4 v5 I L h) zF v3 v4 v5 I L h
set_option maxHeartbeats 4000000 in
set_option maxRecDepth 100000 in
theorem c_X6_edgesToFirstPin {r : Int32} (hE : zE0 l s0 a0 d cy B0) {P : Nat} (hP : zpl P) (a2 : Int32) (I : zI) (L : zL) (h : f_X6_edgesToFirstPin P a2 I L = some r) : zM l s0 d cy B0 yX6_edgesToFirstPin cX6_edgesToFirstPin 10 (some .int) 2 60 [.ref (B0 + 74), .ref (B0 + P), .int a2] zSH zKn bc bs I L (.inl (some (.int r))) zSH zKn bc bs I L := by
  refine z_meth yy_X6_edgesToFirstPin hE (Nat.le_of_ble_eq_true rfl) (fun p e R s m args below meth c C => ?_)
  show zG p l e R s m args below meth c d cy B0 10 bc bs (zQ below s args d cy B0 bc bs (.inl (some (.int r))) zSH zKn bc bs I L) 0 [(0, .ref (B0 + 74)), (1, .ref (B0 + P)), (2, .int a2)] [] zSH zKn bc bs I L
  unfold f_X6_edgesToFirstPin at h
  refine z_aload_n C rfl 0 rfl dX6_edgesToFirstPin_0 ?_
  refine z_getr C zc_6 dX6_edgesToFirstPin_1 0 74 75 rfl (by decide) (by decide) q_402 rfl rfl ?_
  refine z_iconst C (v := 0) (by decide) dX6_edgesToFirstPin_4 ?_
  obtain ⟨hb1, h⟩ := zck_e h
  refine z_iaload C dX6_edgesToFirstPin_5 rfl rfl (by decide) (zbd_in hb1) ?_
  refine z_iconst C (v := -1) (by decide) dX6_edgesToFirstPin_6 ?_
  refine z_icmp_ne C 12 (by decide) dX6_edgesToFirstPin_7 (fun hc => ?_) (fun hc => ?_)
  · have h := zif_f hc h
    refine z_aload_n C rfl 1 rfl dX6_edgesToFirstPin_12 ?_
    refine z_getr C zc_7 dX6_edgesToFirstPin_13 11 P (P + 1 + 11) (zpl_k hP) (zpl_lt hP) (by decide) q_194 rfl (zpl_r hP 11 (by decide)) ?_
    refine z_iload_n C rfl 2 rfl dX6_edgesToFirstPin_16 ?_
    refine z_iconst C (v := 4) (by decide) dX6_edgesToFirstPin_17 ?_
    refine z_imul C dX6_edgesToFirstPin_18 ?_
    obtain ⟨x2, ex2, h⟩ := zlt_e h
    refine z_eqi C ex2 ?_
    obtain ⟨hb3, h⟩ := zck_e h
    refine z_iaload C dX6_edgesToFirstPin_19 (zpl_ak hP 11 (by decide)) (zpl_an hP 11 (by decide)) (zpl_a hP 11 (by decide)) (zbd_in hb3) ?_
    obtain ⟨x4, ex4, h⟩ := zlt_e h
    refine z_eqi C ex4 ?_
    refine z_istore_n C (lv' := [(3, .int x4), (0, .ref (B0 + 74)), (1, .ref (B0 + P)), (2, .int a2)]) rfl (by decide) rfl dX6_edgesToFirstPin_20 ?_
    refine z_iconst C (v := 0) (by decide) dX6_edgesToFirstPin_21 ?_
    refine z_istore C (lv' := [(4, .int (0 : Int32)), (3, .int x4), (0, .ref (B0 + 74)), (1, .ref (B0 + P)), (2, .int a2)]) (by decide) rfl dX6_edgesToFirstPin_22 ?_
    refine z_aload_n C rfl 2 rfl dX6_edgesToFirstPin_24 ?_
    obtain ⟨x6, hg5, h⟩ := zb1_e h
    refine z_callV C zc_6 rfl (by decide) dX6_edgesToFirstPin_25 yy_X6_lowest (c_X6_lowest C.2.2.2.2.1  I L hg5) q_1006 q_1008 q_35 (by decide) (by decide) rfl rfl (Nat.le_of_ble_eq_true rfl) ⟨Nat.le_refl _, Nat.le_refl _, Nat.le_refl _, Nat.le_refl _⟩ ?_
    refine z_istore C (lv' := [(5, .int x6), (4, .int (0 : Int32)), (3, .int x4), (0, .ref (B0 + 74)), (1, .ref (B0 + P)), (2, .int a2)]) (by decide) rfl dX6_edgesToFirstPin_28 ?_
    refine z_lv [3, 4, 2, 1, 0] (lv' := [(0, .ref (B0 + 74)), (1, .ref (B0 + P)), (3, .int x4), (4, .int (0 : Int32)), (5, .int x6)]) rfl ?_
    exact L_X6_edgesToFirstPin_30 C hP x4 (0 : Int32) x6 I L h
  · have h := zif_t hc h
    refine z_iconst C (v := 0) (by decide) dX6_edgesToFirstPin_10 ?_
    obtain rfl := Option.some.inj h
    exact z_iret C dX6_edgesToFirstPin_11 .int rfl rfl rfl
theorem q_85 : (Cond.initialized "DeviceFind$Nets") ∈ lw_tbl := List.mem_of_getElem? (i := 85) (by decide +kernel)
theorem q_377 : (Cond.fieldLink "DeviceFind$Nets" (24 : Nat) "DeviceFind$Nets" "netOfNode" "[I") ∈ lw_tbl := List.mem_of_getElem? (i := 377) (by decide +kernel)
theorem q_987 : (Cond.code ({ cls := "DeviceFind$Nets", name := "netOf", desc := "(I)I" } : Jvm.MethodName) prog_5_method_4_code (2 : Nat) (Option.some Jvm.ClassFile.FieldType.int)) ∈ lw_tbl := List.mem_of_getElem? (i := 987) (by decide +kernel)
theorem yy_X3_netOf : zY yX3_netOf cX3_netOf 2 (some .int) 1 := ⟨q_987, q_85, by decide +kernel, by decide +kernel, by decide +kernel⟩
noncomputable def f_X3_netOf_15 (w0 : Int32) (I : zI) : Option Int32 :=
  some w0
noncomputable def f_X3_netOf (a1 : Int32) (I : zI) : Option Int32 :=
  if a1 = (-1 : Int32) then (f_X3_netOf_15 (-1 : Int32) I) else (zck (zbd a1 16384) (f_X3_netOf_15 (I 72 a1.toNatClampNeg) I))
set_option maxHeartbeats 4000000 in
set_option maxRecDepth 100000 in
theorem l_X3_netOf_15 {r : Int32} (C : zC p l e R s m args below meth c s0 a0 d cy B0 yX3_netOf.cls cX3_netOf 2 (some .int) bc bs bc bs 0 0 []) (L : zL) (w0 : Int32) (I : zI) (h : f_X3_netOf_15 w0 I = some r) : zG p l e R s m args below meth c d cy B0 2 bc bs (zQ below s args d cy B0 bc bs (.inl (some (.int r))) zSH zKn bc bs I L) 15 [] [.int w0] zSH zKn bc bs I L := by
  unfold f_X3_netOf_15 at h
  obtain rfl := Option.some.inj h
  exact z_iret C dX3_netOf_15 .int rfl rfl rfl
set_option maxHeartbeats 4000000 in
set_option maxRecDepth 100000 in
theorem c_X3_netOf {r : Int32} (hE : zE0 l s0 a0 d cy B0) (a1 : Int32) (I : zI) (L : zL) (h : f_X3_netOf a1 I = some r) : zM l s0 d cy B0 yX3_netOf cX3_netOf 2 (some .int) 0 0 [.ref (B0 + 61), .int a1] zSH zKn bc bs I L (.inl (some (.int r))) zSH zKn bc bs I L := by
  refine z_meth yy_X3_netOf hE (Nat.le_of_ble_eq_true rfl) (fun p e R s m args below meth c C => ?_)
  show zG p l e R s m args below meth c d cy B0 2 bc bs (zQ below s args d cy B0 bc bs (.inl (some (.int r))) zSH zKn bc bs I L) 0 [(0, .ref (B0 + 61)), (1, .int a1)] [] zSH zKn bc bs I L
  unfold f_X3_netOf at h
  refine z_iload_n C rfl 1 rfl dX3_netOf_0 ?_
  refine z_iconst C (v := -1) (by decide) dX3_netOf_1 ?_
  refine z_icmp_ne C 9 (by decide) dX3_netOf_2 (fun hc => ?_) (fun hc => ?_)
  · have h := zif_f hc h
    refine z_aload_n C rfl 0 rfl dX3_netOf_9 ?_
    refine z_getr C zc_3 dX3_netOf_10 5 61 72 rfl (by decide) (by decide) q_377 rfl rfl ?_
    refine z_iload_n C rfl 1 rfl dX3_netOf_13 ?_
    obtain ⟨hb1, h⟩ := zck_e h
    refine z_iaload C dX3_netOf_14 rfl rfl (by decide) (zbd_in hb1) ?_
    refine z_lv [] (lv' := []) rfl ?_
    exact l_X3_netOf_15 C L (I 72 a1.toNatClampNeg) I h
  · have h := zif_t hc h
    refine z_iconst C (v := -1) (by decide) dX3_netOf_5 ?_
    refine z_goto C 15 (by decide) dX3_netOf_6 ?_
    refine z_lv [] (lv' := []) rfl ?_
    exact l_X3_netOf_15 C L (-1 : Int32) I h
theorem q_985 : (Cond.instanceMethod ({ cls := "DeviceFind$Nets", name := "netOf", desc := "(I)I" } : Jvm.MethodName)) ∈ lw_tbl := List.mem_of_getElem? (i := 985) (by decide +kernel)
theorem q_986 : (Cond.selects "DeviceFind$Nets" ({ cls := "DeviceFind$Nets", name := "netOf", desc := "(I)I" } : Jvm.MethodName) ({ cls := "DeviceFind$Nets", name := "netOf", desc := "(I)I" } : Jvm.MethodName)) ∈ lw_tbl := List.mem_of_getElem? (i := 986) (by decide +kernel)
theorem q_1046 : (Cond.code ({ cls := "DeviceFind$Place", name := "netOfPin", desc := "(I)I" } : Jvm.MethodName) prog_8_method_3_code (2 : Nat) (Option.some Jvm.ClassFile.FieldType.int)) ∈ lw_tbl := List.mem_of_getElem? (i := 1046) (by decide +kernel)
theorem q_1047 : (Cond.methodLink "DeviceFind$Place" (50 : Nat) ({ cls := "DeviceFind$Nets", name := "netOf", desc := "(I)I" } : Jvm.MethodName)) ∈ lw_tbl := List.mem_of_getElem? (i := 1047) (by decide +kernel)
theorem yy_X6_netOfPin : zY yX6_netOfPin cX6_netOfPin 2 (some .int) 1 := ⟨q_1046, q_87, by decide +kernel, by decide +kernel, by decide +kernel⟩
noncomputable def f_X6_netOfPin (a1 : Int32) (I : zI) : Option Int32 :=
  zck (zbd a1 4) (zb1 (f_X3_netOf (I 75 a1.toNatClampNeg) I) (fun x3 => some x3))
set_option maxHeartbeats 4000000 in
set_option maxRecDepth 100000 in
theorem c_X6_netOfPin {r : Int32} (hE : zE0 l s0 a0 d cy B0) (a1 : Int32) (I : zI) (L : zL) (h : f_X6_netOfPin a1 I = some r) : zM l s0 d cy B0 yX6_netOfPin cX6_netOfPin 2 (some .int) 1 21 [.ref (B0 + 74), .int a1] zSH zKn bc bs I L (.inl (some (.int r))) zSH zKn bc bs I L := by
  refine z_meth yy_X6_netOfPin hE (Nat.le_of_ble_eq_true rfl) (fun p e R s m args below meth c C => ?_)
  show zG p l e R s m args below meth c d cy B0 2 bc bs (zQ below s args d cy B0 bc bs (.inl (some (.int r))) zSH zKn bc bs I L) 0 [(0, .ref (B0 + 74)), (1, .int a1)] [] zSH zKn bc bs I L
  unfold f_X6_netOfPin at h
  refine z_aload_n C rfl 0 rfl dX6_netOfPin_0 ?_
  refine z_getr C zc_6 dX6_netOfPin_1 2 74 61 rfl (by decide) (by decide) q_404 rfl rfl ?_
  refine z_aload_n C rfl 0 rfl dX6_netOfPin_4 ?_
  refine z_getr C zc_6 dX6_netOfPin_5 0 74 75 rfl (by decide) (by decide) q_402 rfl rfl ?_
  refine z_iload_n C rfl 1 rfl dX6_netOfPin_8 ?_
  obtain ⟨hb1, h⟩ := zck_e h
  refine z_iaload C dX6_netOfPin_9 rfl rfl (by decide) (zbd_in hb1) ?_
  obtain ⟨x3, hg2, h⟩ := zb1_e h
  refine z_callV C zc_3 rfl (by decide) dX6_netOfPin_10 yy_X3_netOf (c_X3_netOf C.2.2.2.2.1  (I 75 a1.toNatClampNeg) I L hg2) q_1047 q_985 q_986 (by decide) (by decide) rfl rfl (Nat.le_of_ble_eq_true rfl) ⟨Nat.le_refl _, Nat.le_refl _, Nat.le_refl _, Nat.le_refl _⟩ ?_
  obtain rfl := Option.some.inj h
  exact z_iret C dX6_netOfPin_13 .int rfl rfl rfl
end Zp05_03_walk
