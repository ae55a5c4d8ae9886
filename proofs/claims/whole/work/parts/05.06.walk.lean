section Zp05_06_walk
variable {p : Program} {l : Launch} {e : Env} {R : Room} {s : State} {m : MethodId} {args : Array Value} {below : List Frame} {meth : Method} {c : Code} {s0 : State} {a0 : Array Value} {d : va_G} {cy : Nat → ClassId} {B0 : Nat} {bc bs : Nat}
theorem q_25 : Cond.selects "DeviceFind$Nets" ⟨"DeviceFind$Nets", "findNodes", "([I[J)V"⟩ ⟨"DeviceFind$Nets", "findNodes", "([I[J)V"⟩ ∈ lw_tbl := List.mem_of_getElem? (i := 25) (by decide +kernel)
theorem q_29 : Cond.selects "DeviceFind$Nets" ⟨"DeviceFind$Nets", "tie", "([I[I[J)V"⟩ ⟨"DeviceFind$Nets", "tie", "([I[I[J)V"⟩ ∈ lw_tbl := List.mem_of_getElem? (i := 29) (by decide +kernel)
theorem q_32 : Cond.selects "DeviceFind$Nets" ⟨"DeviceFind$Nets", "numberNets", "()V"⟩ ⟨"DeviceFind$Nets", "numberNets", "()V"⟩ ∈ lw_tbl := List.mem_of_getElem? (i := 32) (by decide +kernel)
theorem q_178 : (Cond.fieldLink "DeviceFind$Nets" (49 : Nat) "DeviceFind$Plan" "wireLayers" "[I") ∈ lw_tbl := List.mem_of_getElem? (i := 178) (by decide +kernel)
theorem q_181 : (Cond.fieldLink "DeviceFind$Nets" (59 : Nat) "DeviceFind$Plan" "joinFirsts" "[I") ∈ lw_tbl := List.mem_of_getElem? (i := 181) (by decide +kernel)
theorem q_183 : (Cond.fieldLink "DeviceFind$Nets" (62 : Nat) "DeviceFind$Plan" "joinSeconds" "[I") ∈ lw_tbl := List.mem_of_getElem? (i := 183) (by decide +kernel)
theorem q_185 : (Cond.fieldLink "DeviceFind$Nets" (65 : Nat) "DeviceFind$Plan" "joinLayers" "[I") ∈ lw_tbl := List.mem_of_getElem? (i := 185) (by decide +kernel)
theorem q_201 : (Cond.fieldLink "DeviceFind$Nets" (38 : Nat) "DeviceFind$Plan" "wires" "I") ∈ lw_tbl := List.mem_of_getElem? (i := 201) (by decide +kernel)
theorem q_206 : (Cond.fieldLink "DeviceFind$Nets" (56 : Nat) "DeviceFind$Plan" "joins" "I") ∈ lw_tbl := List.mem_of_getElem? (i := 206) (by decide +kernel)
theorem q_325 : (Cond.fieldLink "DeviceFind$Nets" (43 : Nat) "DeviceFind$Layers" "rows" "[[J") ∈ lw_tbl := List.mem_of_getElem? (i := 325) (by decide +kernel)
theorem q_370 : (Cond.fieldLink "DeviceFind$Nets" (11 : Nat) "DeviceFind$Nets" "nodeAt" "[[I") ∈ lw_tbl := List.mem_of_getElem? (i := 370) (by decide +kernel)
theorem q_374 : (Cond.fieldLink "DeviceFind$Nets" (30 : Nat) "DeviceFind$Nets" "layers" "LDeviceFind$Layers;") ∈ lw_tbl := List.mem_of_getElem? (i := 374) (by decide +kernel)
theorem q_910 : (Cond.code ({ cls := "DeviceFind$Nets", name := "find", desc := "(LDeviceFind$Plan;)V" } : Jvm.MethodName) prog_5_method_2_code (3 : Nat) (Option.none : Option Jvm.ClassFile.FieldType)) ∈ lw_tbl := List.mem_of_getElem? (i := 910) (by decide +kernel)
theorem q_911 : (Cond.methodLink "DeviceFind$Nets" (52 : Nat) ({ cls := "DeviceFind$Nets", name := "findNodes", desc := "([I[J)V" } : Jvm.MethodName)) ∈ lw_tbl := List.mem_of_getElem? (i := 911) (by decide +kernel)
theorem q_913 : (Cond.instanceMethod ({ cls := "DeviceFind$Nets", name := "findNodes", desc := "([I[J)V" } : Jvm.MethodName)) ∈ lw_tbl := List.mem_of_getElem? (i := 913) (by decide +kernel)
theorem q_958 : (Cond.methodLink "DeviceFind$Nets" (68 : Nat) ({ cls := "DeviceFind$Nets", name := "tie", desc := "([I[I[J)V" } : Jvm.MethodName)) ∈ lw_tbl := List.mem_of_getElem? (i := 958) (by decide +kernel)
theorem q_960 : (Cond.instanceMethod ({ cls := "DeviceFind$Nets", name := "tie", desc := "([I[I[J)V" } : Jvm.MethodName)) ∈ lw_tbl := List.mem_of_getElem? (i := 960) (by decide +kernel)
theorem q_972 : (Cond.methodLink "DeviceFind$Nets" (72 : Nat) ({ cls := "DeviceFind$Nets", name := "numberNets", desc := "()V" } : Jvm.MethodName)) ∈ lw_tbl := List.mem_of_getElem? (i := 972) (by decide +kernel)
theorem q_974 : (Cond.instanceMethod ({ cls := "DeviceFind$Nets", name := "numberNets", desc := "()V" } : Jvm.MethodName)) ∈ lw_tbl := List.mem_of_getElem? (i := 974) (by decide +kernel)
theorem yy_X3_find : zY yX3_find cX3_find 3 none 1 := ⟨q_910, q_85, by decide +kernel, by decide +kernel, by decide +kernel⟩
noncomputable def f_X3_find_47 (P : Nat) (k47 : Int32 → zI → zL → Option (zI × zL)) (v2 : Int32) (I : zI) (L : zL) : Option (zI × zL) :=
  if (I P 14) ≤ v2 then (zb1 (f_X3_numberNets I) (fun I11 => some (I11, L))) else (zck (zbd v2 16) (zlt (I ((P + 1 + 5)) v2.toNatClampNeg) (fun x13 => zck (zbd x13 8) (zck (zbd v2 16) (zlt (I ((P + 1 + 6)) v2.toNatClampNeg) (fun x16 => zck (zbd x16 8) (zck (zbd v2 16) (zlt (I ((P + 1 + 7)) v2.toNatClampNeg) (fun x19 => zck (zbd x19 24) (zb2 (f_X3_tie ((63 + x13.toNatClampNeg)) ((63 + x16.toNatClampNeg)) ((33 + x19.toNatClampNeg)) I L) (fun I22 L23 => zlt (v2 + 1) (fun x24 => k47 x24 I22 L23))))))))))))
noncomputable def f_X3_find_7 (P : Nat) (k7 : Int32 → zI → zL → Option (zI × zL)) (v2 : Int32) (I : zI) (L : zL) : Option (zI × zL) :=
  if (I P 13) ≤ v2 then (zlp3 (f_X3_find_47 P) zF (0 : Int32) I L) else (zck (zbd v2 8) (zck (zbd v2 8) (zlt (I ((P + 1 + 4)) v2.toNatClampNeg) (fun x4 => zck (zbd x4 24) (zb2 (f_X3_findNodes ((63 + v2.toNatClampNeg)) ((33 + x4.toNatClampNeg)) I L) (fun I7 L8 => zlt (v2 + 1) (fun x9 => k7 x9 I7 L8)))))))
noncomputable def f_X3_find (P : Nat) (I : zI) (L : zL) : Option (zI × zL) :=
  zlt (zu I 61 6 (0 : Int32)) (fun I1 => zlp3 (f_X3_find_7 P) zF (0 : Int32) I1 L)
set_option maxHeartbeats 4000000 in
set_option maxRecDepth 100000 in
theorem l_X3_find_47 {r : zI × zL} (C : zC p l e R s m args below meth c s0 a0 d cy B0 yX3_find.cls cX3_find 3 none bc bs bc bs 5 131 []) {P : Nat} (hP : zpl P) (k47 : Int32 → zI → zL → Option (zI × zL)) (hk47 : ∀ (v2 : Int32) (I : zI) (L : zL), k47 v2 I L = some r → zG p l e R s m args below meth c d cy B0 3 bc bs (zQ below s args d cy B0 bc bs (.inl none) zSH zKn bc bs r.1 r.2) 47 [(0, .ref (B0 + 61)), (1, .ref (B0 + P)), (2, .int v2)] [] zSH zKn bc bs I L) (v2 : Int32) (I : zI) (L : zL) (h : f_X3_find_47 P k47 v2 I L = some r) : zG p l e R s m args below meth c d cy B0 3 bc bs (zQ below s args d cy B0 bc bs (.inl none) zSH zKn bc bs r.1 r.2) 47 [(0, .ref (B0 + 61)), (1, .ref (B0 + P)), (2, .int v2)] [] zSH zKn bc bs I L := by
  unfold f_X3_find_47 at h
  refine z_iload_n C rfl 2 rfl dX3_find_47 ?_
  refine z_aload_n C rfl 1 rfl dX3_find_48 ?_
  refine z_geti C zc_7 dX3_find_49 14 P (zpl_k hP) (zpl_lt hP) (by decide) q_206 rfl ?_
  refine z_icmp_ge C 101 (by decide) dX3_find_52 (fun hc => ?_) (fun hc => ?_)
  · have h := zif_t hc h
    refine z_aload_n C rfl 0 rfl dX3_find_101 ?_
    obtain ⟨I11, hg10, h⟩ := zb1_e h
    refine z_callV C zc_3 rfl (by decide) dX3_find_102 yy_X3_numberNets (c_X3_numberNets C.2.2.2.2.1  I L hg10) q_972 q_974 q_32 (by decide) (by decide) rfl rfl (Nat.le_of_ble_eq_true rfl) ⟨Nat.le_refl _, Nat.le_refl _, Nat.le_refl _, Nat.le_refl _⟩ ?_
    obtain rfl := Option.some.inj h
    exact z_vret C dX3_find_105 rfl rfl
  · have h := zif_f hc h
    refine z_aload_n C rfl 0 rfl dX3_find_55 ?_
    refine z_aload_n C rfl 0 rfl dX3_find_56 ?_
    refine z_getr C zc_3 dX3_find_57 0 61 62 rfl (by decide) (by decide) q_370 rfl rfl ?_
    refine z_aload_n C rfl 1 rfl dX3_find_60 ?_
    refine z_getr C zc_7 dX3_find_61 5 P (P + 1 + 5) (zpl_k hP) (zpl_lt hP) (by decide) q_181 rfl (zpl_r hP 5 (by decide)) ?_
    refine z_iload_n C rfl 2 rfl dX3_find_64 ?_
    obtain ⟨hb12, h⟩ := zck_e h
    refine z_iaload C dX3_find_65 (zpl_ak hP 5 (by decide)) (zpl_an hP 5 (by decide)) (zpl_a hP 5 (by decide)) (zbd_in hb12) ?_
    obtain ⟨x13, ex13, h⟩ := zlt_e h
    refine z_eqi C ex13 ?_
    obtain ⟨hb14, h⟩ := zck_e h
    refine z_aaload C dX3_find_66 (t := 4) rfl (by decide) rfl (by decide) (zbd_in hb14) (z_rowI (zbd_lt hb14)).1 ?_
    refine z_aload_n C rfl 0 rfl dX3_find_67 ?_
    refine z_getr C zc_3 dX3_find_68 0 61 62 rfl (by decide) (by decide) q_370 rfl rfl ?_
    refine z_aload_n C rfl 1 rfl dX3_find_71 ?_
    refine z_getr C zc_7 dX3_find_72 6 P (P + 1 + 6) (zpl_k hP) (zpl_lt hP) (by decide) q_183 rfl (zpl_r hP 6 (by decide)) ?_
    refine z_iload_n C rfl 2 rfl dX3_find_75 ?_
    obtain ⟨hb15, h⟩ := zck_e h
    refine z_iaload C dX3_find_76 (zpl_ak hP 6 (by decide)) (zpl_an hP 6 (by decide)) (zpl_a hP 6 (by decide)) (zbd_in hb15) ?_
    obtain ⟨x16, ex16, h⟩ := zlt_e h
    refine z_eqi C ex16 ?_
    obtain ⟨hb17, h⟩ := zck_e h
    refine z_aaload C dX3_find_77 (t := 4) rfl (by decide) rfl (by decide) (zbd_in hb17) (z_rowI (zbd_lt hb17)).1 ?_
    refine z_aload_n C rfl 0 rfl dX3_find_78 ?_
    refine z_getr C zc_3 dX3_find_79 2 61 31 rfl (by decide) (by decide) q_374 rfl rfl ?_
    refine z_getr C zc_2 dX3_find_82 0 31 32 rfl (by decide) (by decide) q_325 rfl rfl ?_
    refine z_aload_n C rfl 1 rfl dX3_find_85 ?_
    refine z_getr C zc_7 dX3_find_86 7 P (P + 1 + 7) (zpl_k hP) (zpl_lt hP) (by decide) q_185 rfl (zpl_r hP 7 (by decide)) ?_
    refine z_iload_n C rfl 2 rfl dX3_find_89 ?_
    obtain ⟨hb18, h⟩ := zck_e h
    refine z_iaload C dX3_find_90 (zpl_ak hP 7 (by decide)) (zpl_an hP 7 (by decide)) (zpl_a hP 7 (by decide)) (zbd_in hb18) ?_
    obtain ⟨x19, ex19, h⟩ := zlt_e h
    refine z_eqi C ex19 ?_
    obtain ⟨hb20, h⟩ := zck_e h
    refine z_aaload C dX3_find_91 (t := 5) rfl (by decide) rfl (by decide) (zbd_in hb20) (z_rowJ (zbd_lt hb20)).1 ?_
    obtain ⟨I22, L23, hg21, h⟩ := zb2_e h
    refine z_callV C zc_3 rfl (by decide) dX3_find_92 yy_X3_tie (c_X3_tie C.2.2.2.2.1 (z_rowI (zbd_lt hb14)).2 (z_rowI (zbd_lt hb17)).2 (z_rowJ (zbd_lt hb20)).2 I L hg21) q_958 q_960 q_29 (by decide) (by decide) rfl rfl (Nat.le_of_ble_eq_true rfl) ⟨Nat.le_refl _, Nat.le_refl _, Nat.le_refl _, Nat.le_refl _⟩ ?_
    obtain ⟨x24, ex24, h⟩ := zlt_e h
    refine z_iinc C (j := 2) (v := x24) (lv' := [(2, .int x24), (0, .ref (B0 + 61)), (1, .ref (B0 + P))]) rfl (by rw [ex24]; rfl) (by decide) rfl dX3_find_95 ?_
    refine z_goto C 47 (by decide) dX3_find_98 ?_
    refine z_lv [1, 2, 0] (lv' := [(0, .ref (B0 + 61)), (1, .ref (B0 + P)), (2, .int x24)]) rfl ?_
    exact hk47 x24 I22 L23 h
set_option maxHeartbeats 4000000 in
set_option maxRecDepth 100000 in
theorem L_X3_find_47 {r : zI × zL} (C : zC p l e R s m args below meth c s0 a0 d cy B0 yX3_find.cls cX3_find 3 none bc bs bc bs 5 131 []) {P : Nat} (hP : zpl P) (v2 : Int32) (I : zI) (L : zL) (h : zlp3 (f_X3_find_47 P) zF v2 I L = some r) : zG p l e R s m args below meth c d cy B0 3 bc bs (zQ below s args d cy B0 bc bs (.inl none) zSH zKn bc bs r.1 r.2) 47 [(0, .ref (B0 + 61)), (1, .ref (B0 + P)), (2, .int v2)] [] zSH zKn bc bs I L :=
 zlp3_e (fun (v2 : Int32) (I : zI) (L : zL) => zG p l e R s m args below meth c d cy B0 3 bc bs (zQ below s args d cy B0 bc bs (.inl none) zSH zKn bc bs r.1 r.2) 47 [(0, .ref (B0 + 61)), (1, .ref (B0 + P)), (2, .int v2)] [] zSH zKn bc bs I L) (fun k9 hk9 v2 I L h => l_X3_find_47 C hP k9 hk9 v2 I L h) zF v2 I L h
set_option maxHeartbeats 4000000 in
set_option maxRecDepth 100000 in
theorem l_X3_find_7 {r : zI × zL} (C : zC p l e R s m args below meth c s0 a0 d cy B0 yX3_find.cls cX3_find 3 none bc bs bc bs 5 131 []) {P : Nat} (hP : zpl P) (k7 : Int32 → zI → zL → Option (zI × zL)) (hk7 : ∀ (v2 : Int32) (I : zI) (L : zL), k7 v2 I L = some r → zG p l e R s m args below meth c d cy B0 3 bc bs (zQ below s args d cy B0 bc bs (.inl none) zSH zKn bc bs r.1 r.2) 7 [(0, .ref (B0 + 61)), (1, .ref (B0 + P)), (2, .int v2)] [] zSH zKn bc bs I L) (v2 : Int32) (I : zI) (L : zL) (h : f_X3_find_7 P k7 v2 I L = some r) : zG p l e R s m args below meth c d cy B0 3 bc bs (zQ below s args d cy B0 bc bs (.inl none) zSH zKn bc bs r.1 r.2) 7 [(0, .ref (B0 + 61)), (1, .ref (B0 + P)), (2, .int v2)] [] zSH zKn bc bs I L := by
  unfold f_X3_find_7 at h
  refine z_iload_n C rfl 2 rfl dX3_find_7 ?_
  refine z_aload_n C rfl 1 rfl dX3_find_8 ?_
  refine z_geti C zc_7 dX3_find_9 13 P (zpl_k hP) (zpl_lt hP) (by decide) q_201 rfl ?_
  refine z_icmp_ge C 45 (by decide) dX3_find_12 (fun hc => ?_) (fun hc => ?_)
  · have h := zif_t hc h
    refine z_iconst C (v := 0) (by decide) dX3_find_45 ?_
    refine z_istore_n C (lv' := [(2, .int (0 : Int32)), (0, .ref (B0 + 61)), (1, .ref (B0 + P))]) rfl (by decide) rfl dX3_find_46 ?_
    refine z_lv [1, 2, 0] (lv' := [(0, .ref (B0 + 61)), (1, .ref (B0 + P)), (2, .int (0 : Int32))]) rfl ?_
    exact L_X3_find_47 C hP (0 : Int32) I L h
  · have h := zif_f hc h
    refine z_aload_n C rfl 0 rfl dX3_find_15 ?_
    refine z_aload_n C rfl 0 rfl dX3_find_16 ?_
    refine z_getr C zc_3 dX3_find_17 0 61 62 rfl (by decide) (by decide) q_370 rfl rfl ?_
    refine z_iload_n C rfl 2 rfl dX3_find_20 ?_
    obtain ⟨hb2, h⟩ := zck_e h
    refine z_aaload C dX3_find_21 (t := 4) rfl (by decide) rfl (by decide) (zbd_in hb2) (z_rowI (zbd_lt hb2)).1 ?_
    refine z_aload_n C rfl 0 rfl dX3_find_22 ?_
    refine z_getr C zc_3 dX3_find_23 2 61 31 rfl (by decide) (by decide) q_374 rfl rfl ?_
    refine z_getr C zc_2 dX3_find_26 0 31 32 rfl (by decide) (by decide) q_325 rfl rfl ?_
    refine z_aload_n C rfl 1 rfl dX3_find_29 ?_
    refine z_getr C zc_7 dX3_find_30 4 P (P + 1 + 4) (zpl_k hP) (zpl_lt hP) (by decide) q_178 rfl (zpl_r hP 4 (by decide)) ?_
    refine z_iload_n C rfl 2 rfl dX3_find_33 ?_
    obtain ⟨hb3, h⟩ := zck_e h
    refine z_iaload C dX3_find_34 (zpl_ak hP 4 (by decide)) (zpl_an hP 4 (by decide)) (zpl_a hP 4 (by decide)) (zbd_in hb3) ?_
    obtain ⟨x4, ex4, h⟩ := zlt_e h
    refine z_eqi C ex4 ?_
    obtain ⟨hb5, h⟩ := zck_e h
    refine z_aaload C dX3_find_35 (t := 5) rfl (by decide) rfl (by decide) (zbd_in hb5) (z_rowJ (zbd_lt hb5)).1 ?_
    obtain ⟨I7, L8, hg6, h⟩ := zb2_e h
    refine z_callV C zc_3 rfl (by decide) dX3_find_36 yy_X3_findNodes (c_X3_findNodes C.2.2.2.2.1 (z_rowI (zbd_lt hb2)).2 (z_rowJ (zbd_lt hb5)).2 I L hg6) q_911 q_913 q_25 (by decide) (by decide) rfl rfl (Nat.le_of_ble_eq_true rfl) ⟨Nat.le_refl _, Nat.le_refl _, Nat.le_refl _, Nat.le_refl _⟩ ?_
    obtain ⟨x9, ex9, h⟩ := zlt_e h
    refine z_iinc C (j := 2) (v := x9) (lv' := [(2, .int x9), (0, .ref (B0 + 61)), (1, .ref (B0 + P))]) rfl (by rw [ex9]; rfl) (by decide) rfl dX3_find_39 ?_
    refine z_goto C 7 (by decide) dX3_find_42 ?_
    refine z_lv [1, 2, 0] (lv' := [(0, .ref (B0 + 61)), (1, .ref (B0 + P)), (2, .int x9)]) rfl ?_
    exact hk7 x9 I7 L8 h
set_option maxHeartbeats 4000000 in
set_option maxRecDepth 100000 in
theorem L_X3_find_7 {r : zI × zL} (C : zC p l e R s m args below meth c s0 a0 d cy B0 yX3_find.cls cX3_find 3 none bc bs bc bs 5 131 []) {P : Nat} (hP : zpl P) (v2 : Int32) (I : zI) (L : zL) (h : zlp3 (f_X3_find_7 P) zF v2 I L = some r) : zG p l e R s m args below meth c d cy B0 3 bc bs (zQ below s args d cy B0 bc bs (.inl none) zSH zKn bc bs r.1 r.2) 7 [(0, .ref (B0 + 61)), (1, .ref (B0 + P)), (2, .int v2)] [] zSH zKn bc bs I L :=
 zlp3_e (fun (v2 : Int32) (I : zI) (L : zL) => zG p l e R s m args below meth c d cy B0 3 bc bs (zQ below s args d cy B0 bc bs (.inl none) zSH zKn bc bs r.1 r.2) 7 [(0, .ref (B0 + 61)), (1, .ref (B0 + P)), (2, .int v2)] [] zSH zKn bc bs I L) (fun k9 hk9 v2 I L h => l_X3_find_7 C hP k9 hk9 v2 I L h) zF v2 I L h
set_option maxHeartbeats 4000000 in
set_option maxRecDepth 100000 in
theorem c_X3_find {r : zI × zL} (hE : zE0 l s0 a0 d cy B0) {P : Nat} (hP : zpl P) (I : zI) (L : zL) (h : f_X3_find P I L = some r) : zM l s0 d cy B0 yX3_find cX3_find 3 none 5 131 [.ref (B0 + 61), .ref (B0 + P)] zSH zKn bc bs I L (.inl none) zSH zKn bc bs r.1 r.2 := by
  refine z_meth yy_X3_find hE (Nat.le_of_ble_eq_true rfl) (fun p e R s m args below meth c C => ?_)
  show zG p l e R s m args below meth c d cy B0 3 bc bs (zQ below s args d cy B0 bc bs (.inl none) zSH zKn bc bs r.1 r.2) 0 [(0, .ref (B0 + 61)), (1, .ref (B0 + P))] [] zSH zKn bc bs I L
  unfold f_X3_find at h
  refine z_aload_n C rfl 0 rfl dX3_find_0 ?_
  refine z_iconst C (v := 0) (by decide) dX3_find_1 ?_
  refine z_puti C zc_3 dX3_find_2 6 61 rfl (by decide) (by decide) rfl q_378 rfl rfl rfl ?_
  obtain ⟨I1, eI1, h⟩ := zlt_e h
  refine z_eqI C eI1 ?_
  refine z_iconst C (v := 0) (by decide) dX3_find_5 ?_
  refine z_istore_n C (lv' := [(2, .int (0 : Int32)), (0, .ref (B0 + 61)), (1, .ref (B0 + P))]) rfl (by decide) rfl dX3_find_6 ?_
  refine z_lv [1, 2, 0] (lv' := [(0, .ref (B0 + 61)), (1, .ref (B0 + P)), (2, .int (0 : Int32))]) rfl ?_
  exact L_X3_find_7 C hP (0 : Int32) I1 L h
theorem q_983 : (Cond.code ({ cls := "DeviceFind$Nets", name := "netAt", desc := "(II)I" } : Jvm.MethodName) prog_5_method_3_code (3 : Nat) (Option.some Jvm.ClassFile.FieldType.int)) ∈ lw_tbl := List.mem_of_getElem? (i := 983) (by decide +kernel)
theorem q_984 : (Cond.methodLink "DeviceFind$Nets" (75 : Nat) ({ cls := "DeviceFind$Nets", name := "netOf", desc := "(I)I" } : Jvm.MethodName)) ∈ lw_tbl := List.mem_of_getElem? (i := 984) (by decide +kernel)
theorem yy_X3_netAt : zY yX3_netAt cX3_netAt 3 (some .int) 2 := ⟨q_983, q_85, by decide +kernel, by decide +kernel, by decide +kernel⟩
noncomputable def f_X3_netAt (a1 : Int32) (a2 : Int32) (I : zI) : Option Int32 :=
  zck (zbd a1 8) (zck (zbd a2 4096) (zb1 (f_X3_netOf (I ((63 + a1.toNatClampNeg)) a2.toNatClampNeg) I) (fun x4 => some x4)))
set_option maxHeartbeats 4000000 in
set_option maxRecDepth 100000 in
theorem c_X3_netAt {r : Int32} (hE : zE0 l s0 a0 d cy B0) (a1 : Int32) (a2 : Int32) (I : zI) (L : zL) (h : f_X3_netAt a1 a2 I = some r) : zM l s0 d cy B0 yX3_netAt cX3_netAt 3 (some .int) 1 21 [.ref (B0 + 61), .int a1, .int a2] zSH zKn bc bs I L (.inl (some (.int r))) zSH zKn bc bs I L := by
  refine z_meth yy_X3_netAt hE (Nat.le_of_ble_eq_true rfl) (fun p e R s m args below meth c C => ?_)
  show zG p l e R s m args below meth c d cy B0 3 bc bs (zQ below s args d cy B0 bc bs (.inl (some (.int r))) zSH zKn bc bs I L) 0 [(0, .ref (B0 + 61)), (1, .int a1), (2, .int a2)] [] zSH zKn bc bs I L
  unfold f_X3_netAt at h
  refine z_aload_n C rfl 0 rfl dX3_netAt_0 ?_
  refine z_aload_n C rfl 0 rfl dX3_netAt_1 ?_
  refine z_getr C zc_3 dX3_netAt_2 0 61 62 rfl (by decide) (by decide) q_370 rfl rfl ?_
  refine z_iload_n C rfl 1 rfl dX3_netAt_5 ?_
  obtain ⟨hb1, h⟩ := zck_e h
  refine z_aaload C dX3_netAt_6 (t := 4) rfl (by decide) rfl (by decide) (zbd_in hb1) (z_rowI (zbd_lt hb1)).1 ?_
  refine z_iload_n C rfl 2 rfl dX3_netAt_7 ?_
  obtain ⟨hb2, h⟩ := zck_e h
  refine z_iaload C dX3_netAt_8 (z_rowI (zbd_lt hb1)).2.1 (z_rowI (zbd_lt hb1)).2.2.1 (z_rowI (zbd_lt hb1)).2.2.2 (zbd_in hb2) ?_
  obtain ⟨x4, hg3, h⟩ := zb1_e h
  refine z_callV C zc_3 rfl (by decide) dX3_netAt_9 yy_X3_netOf (c_X3_netOf C.2.2.2.2.1  (I ((63 + a1.toNatClampNeg)) a2.toNatClampNeg) I L hg3) q_984 q_985 q_986 (by decide) (by decide) rfl rfl (Nat.le_of_ble_eq_true rfl) ⟨Nat.le_refl _, Nat.le_refl _, Nat.le_refl _, Nat.le_refl _⟩ ?_
  obtain rfl := Option.some.inj h
  exact z_iret C dX3_netAt_12 .int rfl rfl rfl
theorem q_82 : (Cond.initialized "DeviceFind$Notes") ∈ lw_tbl := List.mem_of_getElem? (i := 82) (by decide +kernel)
theorem q_298 : (Cond.fieldLink "DeviceFind$Notes" (9 : Nat) "DeviceFind$Notes" "told" "I") ∈ lw_tbl := List.mem_of_getElem? (i := 298) (by decide +kernel)
theorem q_300 : (Cond.fieldLink "DeviceFind$Notes" (15 : Nat) "DeviceFind$Notes" "wires" "[I") ∈ lw_tbl := List.mem_of_getElem? (i := 300) (by decide +kernel)
theorem q_301 : (Cond.fieldLink "DeviceFind$Notes" (19 : Nat) "DeviceFind$Notes" "squares" "[I") ∈ lw_tbl := List.mem_of_getElem? (i := 301) (by decide +kernel)
theorem q_302 : (Cond.fieldLink "DeviceFind$Notes" (22 : Nat) "DeviceFind$Notes" "names" "[I") ∈ lw_tbl := List.mem_of_getElem? (i := 302) (by decide +kernel)
theorem q_863 : (Cond.code ({ cls := "DeviceFind$Notes", name := "add", desc := "(III)V" } : Jvm.MethodName) prog_6_method_2_code (4 : Nat) (Option.none : Option Jvm.ClassFile.FieldType)) ∈ lw_tbl := List.mem_of_getElem? (i := 863) (by decide +kernel)
theorem yy_X4_add : zY yX4_add cX4_add 4 none 3 := ⟨q_863, q_82, by decide +kernel, by decide +kernel, by decide +kernel⟩
noncomputable def f_X4_add (a1 : Int32) (a2 : Int32) (a3 : Int32) (I : zI) : Option zI :=
  zck (zbd (I 26 0) 40) (zlt (zu I 27 (I 26 0).toNatClampNeg a1) (fun I2 => zck (zbd (I2 26 0) 40) (zlt (zu I2 28 (I2 26 0).toNatClampNeg a2) (fun I4 => zck (zbd (I4 26 0) 40) (zlt (zu I4 29 (I4 26 0).toNatClampNeg a3) (fun I6 => zlt ((I6 26 0) + (1 : Int32)) (fun x7 => zlt (zu I6 26 0 x7) (fun I8 => some I8))))))))
set_option maxHeartbeats 4000000 in
set_option maxRecDepth 100000 in
theorem c_X4_add {r : zI} (hE : zE0 l s0 a0 d cy B0) (a1 : Int32) (a2 : Int32) (a3 : Int32) (I : zI) (L : zL) (h : f_X4_add a1 a2 a3 I = some r) : zM l s0 d cy B0 yX4_add cX4_add 4 none 0 0 [.ref (B0 + 26), .int a1, .int a2, .int a3] zSH zKn bc bs I L (.inl none) zSH zKn bc bs r L := by
  refine z_meth yy_X4_add hE (Nat.le_of_ble_eq_true rfl) (fun p e R s m args below meth c C => ?_)
  show zG p l e R s m args below meth c d cy B0 4 bc bs (zQ below s args d cy B0 bc bs (.inl none) zSH zKn bc bs r L) 0 [(0, .ref (B0 + 26)), (1, .int a1), (2, .int a2), (3, .int a3)] [] zSH zKn bc bs I L
  unfold f_X4_add at h
  refine z_aload_n C rfl 0 rfl dX4_add_0 ?_
  refine z_getr C zc_4 dX4_add_1 1 26 27 rfl (by decide) (by decide) q_300 rfl rfl ?_
  refine z_aload_n C rfl 0 rfl dX4_add_4 ?_
  refine z_geti C zc_4 dX4_add_5 0 26 rfl (by decide) (by decide) q_298 rfl ?_
  refine z_iload_n C rfl 1 rfl dX4_add_8 ?_
  obtain ⟨hb1, h⟩ := zck_e h
  refine z_iastore C dX4_add_9 rfl rfl (by decide) (zbd_in hb1) ?_
  obtain ⟨I2, eI2, h⟩ := zlt_e h
  refine z_eqI C eI2 ?_
  refine z_aload_n C rfl 0 rfl dX4_add_10 ?_
  refine z_getr C zc_4 dX4_add_11 2 26 28 rfl (by decide) (by decide) q_301 rfl rfl ?_
  refine z_aload_n C rfl 0 rfl dX4_add_14 ?_
  refine z_geti C zc_4 dX4_add_15 0 26 rfl (by decide) (by decide) q_298 rfl ?_
  refine z_iload_n C rfl 2 rfl dX4_add_18 ?_
  obtain ⟨hb3, h⟩ := zck_e h
  refine z_iastore C dX4_add_19 rfl rfl (by decide) (zbd_in hb3) ?_
  obtain ⟨I4, eI4, h⟩ := zlt_e h
  refine z_eqI C eI4 ?_
  refine z_aload_n C rfl 0 rfl dX4_add_20 ?_
  refine z_getr C zc_4 dX4_add_21 3 26 29 rfl (by decide) (by decide) q_302 rfl rfl ?_
  refine z_aload_n C rfl 0 rfl dX4_add_24 ?_
  refine z_geti C zc_4 dX4_add_25 0 26 rfl (by decide) (by decide) q_298 rfl ?_
  refine z_iload_n C rfl 3 rfl dX4_add_28 ?_
  obtain ⟨hb5, h⟩ := zck_e h
  refine z_iastore C dX4_add_29 rfl rfl (by decide) (zbd_in hb5) ?_
  obtain ⟨I6, eI6, h⟩ := zlt_e h
  refine z_eqI C eI6 ?_
  refine z_aload_n C rfl 0 rfl dX4_add_30 ?_
  refine z_dup C rfl dX4_add_31 ?_
  refine z_geti C zc_4 dX4_add_32 0 26 rfl (by decide) (by decide) q_298 rfl ?_
  refine z_iconst C (v := 1) (by decide) dX4_add_35 ?_
  refine z_iadd C dX4_add_36 ?_
  obtain ⟨x7, ex7, h⟩ := zlt_e h
  refine z_eqi C ex7 ?_
  refine z_puti C zc_4 dX4_add_37 0 26 rfl (by decide) (by decide) rfl q_298 rfl rfl rfl ?_
  obtain ⟨I8, eI8, h⟩ := zlt_e h
  refine z_eqI C eI8 ?_
  obtain rfl := Option.some.inj h
  exact z_vret C dX4_add_40 rfl rfl
theorem q_202 : (Cond.fieldLink "DeviceFind$Notes" (28 : Nat) "DeviceFind$Plan" "wires" "I") ∈ lw_tbl := List.mem_of_getElem? (i := 202) (by decide +kernel)
theorem q_303 : (Cond.fieldLink "DeviceFind$Notes" (25 : Nat) "DeviceFind$Notes" "netsNamed" "[I") ∈ lw_tbl := List.mem_of_getElem? (i := 303) (by decide +kernel)
theorem q_979 : (Cond.code ({ cls := "DeviceFind$Notes", name := "findNets", desc := "(LDeviceFind$Plan;LDeviceFind$Nets;)V" } : Jvm.MethodName) prog_6_method_3_code (5 : Nat) (Option.none : Option Jvm.ClassFile.FieldType)) ∈ lw_tbl := List.mem_of_getElem? (i := 979) (by decide +kernel)
theorem q_980 : (Cond.methodLink "DeviceFind$Notes" (32 : Nat) ({ cls := "DeviceFind$Nets", name := "netAt", desc := "(II)I" } : Jvm.MethodName)) ∈ lw_tbl := List.mem_of_getElem? (i := 980) (by decide +kernel)
theorem q_981 : (Cond.instanceMethod ({ cls := "DeviceFind$Nets", name := "netAt", desc := "(II)I" } : Jvm.MethodName)) ∈ lw_tbl := List.mem_of_getElem? (i := 981) (by decide +kernel)
theorem q_982 : (Cond.selects "DeviceFind$Nets" ({ cls := "DeviceFind$Nets", name := "netAt", desc := "(II)I" } : Jvm.MethodName) ({ cls := "DeviceFind$Nets", name := "netAt", desc := "(II)I" } : Jvm.MethodName)) ∈ lw_tbl := List.mem_of_getElem? (i := 982) (by decide +kernel)
theorem yy_X4_findNets : zY yX4_findNets cX4_findNets 5 none 2 := ⟨q_979, q_82, by decide +kernel, by decide +kernel, by decide +kernel⟩
noncomputable def f_X4_findNets_60 (k2 : Int32 → zI → Option zI) (P : Nat) (v3 : Int32) (w1 : Int32) (w2 : Int32) (I : zI) : Option zI :=
  zck (zbd w1 40) (zlt (zu I 30 w1.toNatClampNeg w2) (fun I7 => zlt (v3 + 1) (fun x8 => k2 x8 I7)))
noncomputable def f_X4_findNets_28 (k2 : Int32 → zI → Option zI) (P : Nat) (v3 : Int32) (w0 : Int32) (I : zI) : Option zI :=
  if w0 = 0 then (f_X4_findNets_60 k2 P v3 v3 (-1 : Int32) I) else (zck (zbd v3 40) (zck (zbd v3 40) (zb1 (f_X3_netAt (I 27 v3.toNatClampNeg) (I 28 v3.toNatClampNeg) I) (fun x5 => f_X4_findNets_60 k2 P v3 v3 x5 I))))
noncomputable def f_X4_findNets_2 (P : Nat) (k2 : Int32 → zI → Option zI) (v3 : Int32) (I : zI) : Option zI :=
  if (I 26 0) ≤ v3 then (some I) else (zck (zbd v3 40) (if (I P 13) ≤ (I 27 v3.toNatClampNeg) then (f_X4_findNets_28 k2 P v3 (0 : Int32) I) else (f_X4_findNets_28 k2 P v3 (1 : Int32) I)))
noncomputable def f_X4_findNets (P : Nat) (I : zI) : Option zI :=
  zlp2 (f_X4_findNets_2 P) zF (0 : Int32) I
set_option maxHeartbeats 4000000 in
set_option maxRecDepth 100000 in
theorem l_X4_findNets_60 {r : zI} (C : zC p l e R s m args below meth c s0 a0 d cy B0 yX4_findNets.cls cX4_findNets 5 none bc bs bc bs 2 43 []) {P : Nat} (hP : zpl P) (L : zL) (k2 : Int32 → zI → Option zI) (hk2 : ∀ (v3 : Int32) (I : zI), k2 v3 I = some r → zG p l e R s m args below meth c d cy B0 5 bc bs (zQ below s args d cy B0 bc bs (.inl none) zSH zKn bc bs r L) 2 [(0, .ref (B0 + 26)), (1, .ref (B0 + P)), (2, .ref (B0 + 61)), (3, .int v3)] [] zSH zKn bc bs I L) (v3 : Int32) (w1 : Int32) (w2 : Int32) (I : zI) (h : f_X4_findNets_60 k2 P v3 w1 w2 I = some r) : zG p l e R s m args below meth c d cy B0 5 bc bs (zQ below s args d cy B0 bc bs (.inl none) zSH zKn bc bs r L) 60 [(0, .ref (B0 + 26)), (1, .ref (B0 + P)), (2, .ref (B0 + 61)), (3, .int v3)] [.int w2, .int w1, .ref (B0 + 30)] zSH zKn bc bs I L := by
  unfold f_X4_findNets_60 at h
  obtain ⟨hb6, h⟩ := zck_e h
  refine z_iastore C dX4_findNets_60 rfl rfl (by decide) (zbd_in hb6) ?_
  obtain ⟨I7, eI7, h⟩ := zlt_e h
  refine z_eqI C eI7 ?_
  obtain ⟨x8, ex8, h⟩ := zlt_e h
  refine z_iinc C (j := 3) (v := x8) (lv' := [(3, .int x8), (0, .ref (B0 + 26)), (1, .ref (B0 + P)), (2, .ref (B0 + 61))]) rfl (by rw [ex8]; rfl) (by decide) rfl dX4_findNets_61 ?_
  refine z_goto C 2 (by decide) dX4_findNets_64 ?_
  refine z_lv [1, 2, 3, 0] (lv' := [(0, .ref (B0 + 26)), (1, .ref (B0 + P)), (2, .ref (B0 + 61)), (3, .int x8)]) rfl ?_
  exact hk2 x8 I7 h
set_option maxHeartbeats 4000000 in
set_option maxRecDepth 100000 in
theorem l_X4_findNets_28 {r : zI} (C : zC p l e R s m args below meth c s0 a0 d cy B0 yX4_findNets.cls cX4_findNets 5 none bc bs bc bs 2 43 []) {P : Nat} (hP : zpl P) (L : zL) (k2 : Int32 → zI → Option zI) (hk2 : ∀ (v3 : Int32) (I : zI), k2 v3 I = some r → zG p l e R s m args below meth c d cy B0 5 bc bs (zQ below s args d cy B0 bc bs (.inl none) zSH zKn bc bs r L) 2 [(0, .ref (B0 + 26)), (1, .ref (B0 + P)), (2, .ref (B0 + 61)), (3, .int v3)] [] zSH zKn bc bs I L) (v3 : Int32) (w0 : Int32) (I : zI) (h : f_X4_findNets_28 k2 P v3 w0 I = some r) : zG p l e R s m args below meth c d cy B0 5 bc bs (zQ below s args d cy B0 bc bs (.inl none) zSH zKn bc bs r L) 28 [(0, .ref (B0 + 26)), (1, .ref (B0 + P)), (2, .ref (B0 + 61)), (3, .int v3)] [.int w0] zSH zKn bc bs I L := by
  unfold f_X4_findNets_28 at h
  refine z_istore C (lv' := [(4, .int w0), (0, .ref (B0 + 26)), (1, .ref (B0 + P)), (2, .ref (B0 + 61)), (3, .int v3)]) (by decide) rfl dX4_findNets_28 ?_
  refine z_aload_n C rfl 1 rfl dX4_findNets_30 ?_
  refine z_getr C zc_4 dX4_findNets_31 4 26 30 rfl (by decide) (by decide) q_303 rfl rfl ?_
  refine z_iload_n C rfl 4 rfl dX4_findNets_34 ?_
  refine z_iload C 0 rfl dX4_findNets_35 ?_
  refine z_if_eq C 59 (by decide) dX4_findNets_37 (fun hc => ?_) (fun hc => ?_)
  · have h := zif_t hc h
    refine z_iconst C (v := -1) (by decide) dX4_findNets_59 ?_
    refine z_lv [1, 2, 3, 4] (lv' := [(0, .ref (B0 + 26)), (1, .ref (B0 + P)), (2, .ref (B0 + 61)), (3, .int v3)]) rfl ?_
    exact l_X4_findNets_60 C hP L k2 hk2 v3 v3 (-1 : Int32) I h
  · have h := zif_f hc h
    refine z_aload_n C rfl 3 rfl dX4_findNets_40 ?_
    refine z_aload_n C rfl 1 rfl dX4_findNets_41 ?_
    refine z_getr C zc_4 dX4_findNets_42 1 26 27 rfl (by decide) (by decide) q_300 rfl rfl ?_
    refine z_iload_n C rfl 4 rfl dX4_findNets_45 ?_
    obtain ⟨hb2, h⟩ := zck_e h
    refine z_iaload C dX4_findNets_46 rfl rfl (by decide) (zbd_in hb2) ?_
    refine z_aload_n C rfl 1 rfl dX4_findNets_47 ?_
    refine z_getr C zc_4 dX4_findNets_48 2 26 28 rfl (by decide) (by decide) q_301 rfl rfl ?_
    refine z_iload_n C rfl 4 rfl dX4_findNets_51 ?_
    obtain ⟨hb3, h⟩ := zck_e h
    refine z_iaload C dX4_findNets_52 rfl rfl (by decide) (zbd_in hb3) ?_
    obtain ⟨x5, hg4, h⟩ := zb1_e h
    refine z_callV C zc_3 rfl (by decide) dX4_findNets_53 yy_X3_netAt (c_X3_netAt C.2.2.2.2.1  (I 27 v3.toNatClampNeg) (I 28 v3.toNatClampNeg) I L hg4) q_980 q_981 q_982 (by decide) (by decide) rfl rfl (Nat.le_of_ble_eq_true rfl) ⟨Nat.le_refl _, Nat.le_refl _, Nat.le_refl _, Nat.le_refl _⟩ ?_
    refine z_goto C 60 (by decide) dX4_findNets_56 ?_
    refine z_lv [1, 2, 3, 4] (lv' := [(0, .ref (B0 + 26)), (1, .ref (B0 + P)), (2, .ref (B0 + 61)), (3, .int v3)]) rfl ?_
    exact l_X4_findNets_60 C hP L k2 hk2 v3 v3 x5 I h
set_option maxHeartbeats 4000000 in
set_option maxRecDepth 100000 in
theorem l_X4_findNets_2 {r : zI} (C : zC p l e R s m args below meth c s0 a0 d cy B0 yX4_findNets.cls cX4_findNets 5 none bc bs bc bs 2 43 []) {P : Nat} (hP : zpl P) (L : zL) (k2 : Int32 → zI → Option zI) (hk2 : ∀ (v3 : Int32) (I : zI), k2 v3 I = some r → zG p l e R s m args below meth c d cy B0 5 bc bs (zQ below s args d cy B0 bc bs (.inl none) zSH zKn bc bs r L) 2 [(0, .ref (B0 + 26)), (1, .ref (B0 + P)), (2, .ref (B0 + 61)), (3, .int v3)] [] zSH zKn bc bs I L) (v3 : Int32) (I : zI) (h : f_X4_findNets_2 P k2 v3 I = some r) : zG p l e R s m args below meth c d cy B0 5 bc bs (zQ below s args d cy B0 bc bs (.inl none) zSH zKn bc bs r L) 2 [(0, .ref (B0 + 26)), (1, .ref (B0 + P)), (2, .ref (B0 + 61)), (3, .int v3)] [] zSH zKn bc bs I L := by
  unfold f_X4_findNets_2 at h
  refine z_iload_n C rfl 3 rfl dX4_findNets_2 ?_
  refine z_aload_n C rfl 0 rfl dX4_findNets_3 ?_
  refine z_geti C zc_4 dX4_findNets_4 0 26 rfl (by decide) (by decide) q_298 rfl ?_
  refine z_icmp_ge C 67 (by decide) dX4_findNets_7 (fun hc => ?_) (fun hc => ?_)
  · have h := zif_t hc h
    obtain rfl := Option.some.inj h
    exact z_vret C dX4_findNets_67 rfl rfl
  · have h := zif_f hc h
    refine z_aload_n C rfl 0 rfl dX4_findNets_10 ?_
    refine z_getr C zc_4 dX4_findNets_11 1 26 27 rfl (by decide) (by decide) q_300 rfl rfl ?_
    refine z_iload_n C rfl 3 rfl dX4_findNets_14 ?_
    obtain ⟨hb1, h⟩ := zck_e h
    refine z_iaload C dX4_findNets_15 rfl rfl (by decide) (zbd_in hb1) ?_
    refine z_aload_n C rfl 1 rfl dX4_findNets_16 ?_
    refine z_geti C zc_7 dX4_findNets_17 13 P (zpl_k hP) (zpl_lt hP) (by decide) q_202 rfl ?_
    refine z_icmp_ge C 27 (by decide) dX4_findNets_20 (fun hc => ?_) (fun hc => ?_)
    · have h := zif_t hc h
      refine z_iconst C (v := 0) (by decide) dX4_findNets_27 ?_
      exact l_X4_findNets_28 C hP L k2 hk2 v3 (0 : Int32) I h
    · have h := zif_f hc h
      refine z_iconst C (v := 1) (by decide) dX4_findNets_23 ?_
      refine z_goto C 28 (by decide) dX4_findNets_24 ?_
      exact l_X4_findNets_28 C hP L k2 hk2 v3 (1 : Int32) I h
set_option maxHeartbeats 4000000 in
set_option maxRecDepth 100000 in
theorem L_X4_findNets_2 {r : zI} (C : zC p l e R s m args below meth c s0 a0 d cy B0 yX4_findNets.cls cX4_findNets 5 none bc bs bc bs 2 43 []) {P : Nat} (hP : zpl P) (L : zL) (v3 : Int32) (I : zI) (h : zlp2 (f_X4_findNets_2 P) zF v3 I = some r) : zG p l e R s m args below meth c d cy B0 5 bc bs (zQ below s args d cy B0 bc bs (.inl none) zSH zKn bc bs r L) 2 [(0, .ref (B0 + 26)), (1, .ref (B0 + P)), (2, .ref (B0 + 61)), (3, .int v3)] [] zSH zKn bc bs I L :=
 zlp2_e (fun (v3 : Int32) (I : zI) => zG p l e R s m args below meth c d cy B0 5 bc bs (zQ below s args d cy B0 bc bs (.inl none) zSH zKn bc bs r L) 2 [(0, .ref (B0 + 26)), (1, .ref (B0 + P)), (2, .ref (B0 + 61)), (3, .int v3)] [] zSH zKn bc bs I L) (fun k9 hk9 v3 I h => l_X4_findNets_2 C hP L k9 hk9 v3 I h) zF v3 I h
set_option maxHeartbeats 4000000 in
set_option maxRecDepth 100000 in
theorem c_X4_findNets {r : zI} (hE : zE0 l s0 a0 d cy B0) {P : Nat} (hP : zpl P) (I : zI) (L : zL) (h : f_X4_findNets P I = some r) : zM l s0 d cy B0 yX4_findNets cX4_findNets 5 none 2 43 [.ref (B0 + 26), .ref (B0 + P), .ref (B0 + 61)] zSH zKn bc bs I L (.inl none) zSH zKn bc bs r L := by
  refine z_meth yy_X4_findNets hE (Nat.le_of_ble_eq_true rfl) (fun p e R s m args below meth c C => ?_)
  show zG p l e R s m args below meth c d cy B0 5 bc bs (zQ below s args d cy B0 bc bs (.inl none) zSH zKn bc bs r L) 0 [(0, .ref (B0 + 26)), (1, .ref (B0 + P)), (2, .ref (B0 + 61))] [] zSH zKn bc bs I L
  unfold f_X4_findNets at h
  refine z_iconst C (v := 0) (by decide) dX4_findNets_0 ?_
  refine z_istore_n C (lv' := [(3, .int (0 : Int32)), (0, .ref (B0 + 26)), (1, .ref (B0 + P)), (2, .ref (B0 + 61))]) rfl (by decide) rfl dX4_findNets_1 ?_
  refine z_lv [1, 2, 3, 0] (lv' := [(0, .ref (B0 + 26)), (1, .ref (B0 + P)), (2, .ref (B0 + 61)), (3, .int (0 : Int32))]) rfl ?_
  exact L_X4_findNets_2 C hP L (0 : Int32) I h
theorem q_1112 : (Cond.code ({ cls := "DeviceFind$Notes", name := "leastName", desc := "(I)I" } : Jvm.MethodName) prog_6_method_4_code (4 : Nat) (Option.some Jvm.ClassFile.FieldType.int)) ∈ lw_tbl := List.mem_of_getElem? (i := 1112) (by decide +kernel)
theorem yy_X4_leastName : zY yX4_leastName cX4_leastName 4 (some .int) 1 := ⟨q_1112, q_82, by decide +kernel, by decide +kernel, by decide +kernel⟩
noncomputable def f_X4_leastName_44 (k4 : Int32 → Int32 → Int32 → zI → Option Int32) (v1 : Int32) (v2 : Int32) (v3 : Int32) (I : zI) : Option Int32 :=
  zlt (v3 + 1) (fun x3 => k4 v1 v2 x3 I)
noncomputable def f_X4_leastName_37 (k4 : Int32 → Int32 → Int32 → zI → Option Int32) (v1 : Int32) (v3 : Int32) (I : zI) : Option Int32 :=
  zck (zbd v3 40) (zlt (I 29 v3.toNatClampNeg) (fun x5 => f_X4_leastName_44 k4 v1 x5 v3 I))
noncomputable def f_X4_leastName_4 (k4 : Int32 → Int32 → Int32 → zI → Option Int32) (v1 : Int32) (v2 : Int32) (v3 : Int32) (I : zI) : Option Int32 :=
  if (I 26 0) ≤ v3 then (some v2) else (zck (zbd v3 40) (if (I 30 v3.toNatClampNeg) = v1 then (if v2 = (-1 : Int32) then (f_X4_leastName_37 k4 v1 v3 I) else (zck (zbd v3 40) (if v2 ≤ (I 29 v3.toNatClampNeg) then (f_X4_leastName_44 k4 v1 v2 v3 I) else (f_X4_leastName_37 k4 v1 v3 I)))) else (f_X4_leastName_44 k4 v1 v2 v3 I)))
noncomputable def f_X4_leastName (a1 : Int32) (I : zI) : Option Int32 :=
  zlp4 (f_X4_leastName_4) zF a1 (-1 : Int32) (0 : Int32) I
set_option maxHeartbeats 4000000 in
set_option maxRecDepth 100000 in
theorem l_X4_leastName_44 {r : Int32} (C : zC p l e R s m args below meth c s0 a0 d cy B0 yX4_leastName.cls cX4_leastName 4 (some .int) bc bs bc bs 0 0 []) (L : zL) (k4 : Int32 → Int32 → Int32 → zI → Option Int32) (hk4 : ∀ (v1 : Int32) (v2 : Int32) (v3 : Int32) (I : zI), k4 v1 v2 v3 I = some r → zG p l e R s m args below meth c d cy B0 4 bc bs (zQ below s args d cy B0 bc bs (.inl (some (.int r))) zSH zKn bc bs I L) 4 [(0, .ref (B0 + 26)), (1, .int v1), (2, .int v2), (3, .int v3)] [] zSH zKn bc bs I L) (v1 : Int32) (v2 : Int32) (v3 : Int32) (I : zI) (h : f_X4_leastName_44 k4 v1 v2 v3 I = some r) : zG p l e R s m args below meth c d cy B0 4 bc bs (zQ below s args d cy B0 bc bs (.inl (some (.int r))) zSH zKn bc bs I L) 44 [(0, .ref (B0 + 26)), (1, .int v1), (2, .int v2), (3, .int v3)] [] zSH zKn bc bs I L := by
  unfold f_X4_leastName_44 at h
  obtain ⟨x3, ex3, h⟩ := zlt_e h
  refine z_iinc C (j := 3) (v := x3) (lv' := [(3, .int x3), (0, .ref (B0 + 26)), (1, .int v1), (2, .int v2)]) rfl (by rw [ex3]; rfl) (by decide) rfl dX4_leastName_44 ?_
  refine z_goto C 4 (by decide) dX4_leastName_47 ?_
  refine z_lv [1, 2, 3, 0] (lv' := [(0, .ref (B0 + 26)), (1, .int v1), (2, .int v2), (3, .int x3)]) rfl ?_
  exact hk4 v1 v2 x3 I h
set_option maxHeartbeats 4000000 in
set_option maxRecDepth 100000 in
theorem l_X4_leastName_37 {r : Int32} (C : zC p l e R s m args below meth c s0 a0 d cy B0 yX4_leastName.cls cX4_leastName 4 (some .int) bc bs bc bs 0 0 []) (L : zL) (k4 : Int32 → Int32 → Int32 → zI → Option Int32) (hk4 : ∀ (v1 : Int32) (v2 : Int32) (v3 : Int32) (I : zI), k4 v1 v2 v3 I = some r → zG p l e R s m args below meth c d cy B0 4 bc bs (zQ below s args d cy B0 bc bs (.inl (some (.int r))) zSH zKn bc bs I L) 4 [(0, .ref (B0 + 26)), (1, .int v1), (2, .int v2), (3, .int v3)] [] zSH zKn bc bs I L) (v1 : Int32) (v3 : Int32) (I : zI) (h : f_X4_leastName_37 k4 v1 v3 I = some r) : zG p l e R s m args below meth c d cy B0 4 bc bs (zQ below s args d cy B0 bc bs (.inl (some (.int r))) zSH zKn bc bs I L) 37 [(0, .ref (B0 + 26)), (1, .int v1), (3, .int v3)] [] zSH zKn bc bs I L := by
  unfold f_X4_leastName_37 at h
  refine z_aload_n C rfl 0 rfl dX4_leastName_37 ?_
  refine z_getr C zc_4 dX4_leastName_38 3 26 29 rfl (by decide) (by decide) q_302 rfl rfl ?_
  refine z_iload_n C rfl 2 rfl dX4_leastName_41 ?_
  obtain ⟨hb4, h⟩ := zck_e h
  refine z_iaload C dX4_leastName_42 rfl rfl (by decide) (zbd_in hb4) ?_
  obtain ⟨x5, ex5, h⟩ := zlt_e h
  refine z_eqi C ex5 ?_
  refine z_istore_n C (lv' := [(2, .int x5), (0, .ref (B0 + 26)), (1, .int v1), (3, .int v3)]) rfl (by decide) rfl dX4_leastName_43 ?_
  refine z_lv [1, 2, 0, 3] (lv' := [(0, .ref (B0 + 26)), (1, .int v1), (2, .int x5), (3, .int v3)]) rfl ?_
  exact l_X4_leastName_44 C L k4 hk4 v1 x5 v3 I h
set_option maxHeartbeats 4000000 in
set_option maxRecDepth 100000 in
theorem l_X4_leastName_4 {r : Int32} (C : zC p l e R s m args below meth c s0 a0 d cy B0 yX4_leastName.cls cX4_leastName 4 (some .int) bc bs bc bs 0 0 []) (L : zL) (k4 : Int32 → Int32 → Int32 → zI → Option Int32) (hk4 : ∀ (v1 : Int32) (v2 : Int32) (v3 : Int32) (I : zI), k4 v1 v2 v3 I = some r → zG p l e R s m args below meth c d cy B0 4 bc bs (zQ below s args d cy B0 bc bs (.inl (some (.int r))) zSH zKn bc bs I L) 4 [(0, .ref (B0 + 26)), (1, .int v1), (2, .int v2), (3, .int v3)] [] zSH zKn bc bs I L) (v1 : Int32) (v2 : Int32) (v3 : Int32) (I : zI) (h : f_X4_leastName_4 k4 v1 v2 v3 I = some r) : zG p l e R s m args below meth c d cy B0 4 bc bs (zQ below s args d cy B0 bc bs (.inl (some (.int r))) zSH zKn bc bs I L) 4 [(0, .ref (B0 + 26)), (1, .int v1), (2, .int v2), (3, .int v3)] [] zSH zKn bc bs I L := by
  unfold f_X4_leastName_4 at h
  refine z_iload_n C rfl 3 rfl dX4_leastName_4 ?_
  refine z_aload_n C rfl 0 rfl dX4_leastName_5 ?_
  refine z_geti C zc_4 dX4_leastName_6 0 26 rfl (by decide) (by decide) q_298 rfl ?_
  refine z_icmp_ge C 50 (by decide) dX4_leastName_9 (fun hc => ?_) (fun hc => ?_)
  · have h := zif_t hc h
    refine z_iload_n C rfl 2 rfl dX4_leastName_50 ?_
    obtain rfl := Option.some.inj h
    exact z_iret C dX4_leastName_51 .int rfl rfl rfl
  · have h := zif_f hc h
    refine z_aload_n C rfl 0 rfl dX4_leastName_12 ?_
    refine z_getr C zc_4 dX4_leastName_13 4 26 30 rfl (by decide) (by decide) q_303 rfl rfl ?_
    refine z_iload_n C rfl 3 rfl dX4_leastName_16 ?_
    obtain ⟨hb1, h⟩ := zck_e h
    refine z_iaload C dX4_leastName_17 rfl rfl (by decide) (zbd_in hb1) ?_
    refine z_iload_n C rfl 1 rfl dX4_leastName_18 ?_
    refine z_icmp_ne C 44 (by decide) dX4_leastName_19 (fun hc => ?_) (fun hc => ?_)
    · have h := zif_f hc h
      exact l_X4_leastName_44 C L k4 hk4 v1 v2 v3 I h
    · have h := zif_t hc h
      refine z_iload_n C rfl 2 rfl dX4_leastName_22 ?_
      refine z_iconst C (v := -1) (by decide) dX4_leastName_23 ?_
      refine z_icmp_eq C 37 (by decide) dX4_leastName_24 (fun hc => ?_) (fun hc => ?_)
      · have h := zif_t hc h
        refine z_lv [0, 1, 3] (lv' := [(0, .ref (B0 + 26)), (1, .int v1), (3, .int v3)]) rfl ?_
        exact l_X4_leastName_37 C L k4 hk4 v1 v3 I h
      · have h := zif_f hc h
        refine z_aload_n C rfl 0 rfl dX4_leastName_27 ?_
        refine z_getr C zc_4 dX4_leastName_28 3 26 29 rfl (by decide) (by decide) q_302 rfl rfl ?_
        refine z_iload_n C rfl 3 rfl dX4_leastName_31 ?_
        obtain ⟨hb2, h⟩ := zck_e h
        refine z_iaload C dX4_leastName_32 rfl rfl (by decide) (zbd_in hb2) ?_
        refine z_iload_n C rfl 2 rfl dX4_leastName_33 ?_
        refine z_icmp_ge C 44 (by decide) dX4_leastName_34 (fun hc => ?_) (fun hc => ?_)
        · have h := zif_t hc h
          exact l_X4_leastName_44 C L k4 hk4 v1 v2 v3 I h
        · have h := zif_f hc h
          refine z_lv [0, 1, 3] (lv' := [(0, .ref (B0 + 26)), (1, .int v1), (3, .int v3)]) rfl ?_
          exact l_X4_leastName_37 C L k4 hk4 v1 v3 I h
set_option maxHeartbeats 4000000 in
set_option maxRecDepth 100000 in
theorem L_X4_leastName_4 {r : Int32} (C : zC p l e R s m args below meth c s0 a0 d cy B0 yX4_leastName.cls cX4_leastName 4 (some .int) bc bs bc bs 0 0 []) (L : zL) (v1 : Int32) (v2 : Int32) (v3 : Int32) (I : zI) (h : zlp4 (f_X4_leastName_4) zF v1 v2 v3 I = some r) : zG p l e R s m args below meth c d cy B0 4 bc bs (zQ below s args d cy B0 bc bs (.inl (some (.int r))) zSH zKn bc bs I L) 4 [(0, .ref (B0 + 26)), (1, .int v1), (2, .int v2), (3, .int v3)] [] zSH zKn bc bs I L :=
 zlp4_e (fun (v1 : Int32) (v2 : Int32) (v3 : Int32) (I : zI) => zG p l e R s m args below meth c d cy B0 4 bc bs (zQ below s args d cy B0 bc bs (.inl (some (.int r))) zSH zKn bc bs I L) 4 [(0, .ref (B0 + 26)), (1, .int v1), (2, .int v2), (3, .int v3)] [] zSH zKn bc bs I L) (fun k9 hk9 v1 v2 v3 I h => l_X4_leastName_4 C L k9 hk9 v1 v2 v3 I h) zF v1 v2 v3 I h
set_option maxHeartbeats 4000000 in
set_option maxRecDepth 100000 in
theorem c_X4_leastName {r : Int32} (hE : zE0 l s0 a0 d cy B0) (a1 : Int32) (I : zI) (L : zL) (h : f_X4_leastName a1 I = some r) : zM l s0 d cy B0 yX4_leastName cX4_leastName 4 (some .int) 0 0 [.ref (B0 + 26), .int a1] zSH zKn bc bs I L (.inl (some (.int r))) zSH zKn bc bs I L := by
  refine z_meth yy_X4_leastName hE (Nat.le_of_ble_eq_true rfl) (fun p e R s m args below meth c C => ?_)
  show zG p l e R s m args below meth c d cy B0 4 bc bs (zQ below s args d cy B0 bc bs (.inl (some (.int r))) zSH zKn bc bs I L) 0 [(0, .ref (B0 + 26)), (1, .int a1)] [] zSH zKn bc bs I L
  unfold f_X4_leastName at h
  refine z_iconst C (v := -1) (by decide) dX4_leastName_0 ?_
  refine z_istore_n C (lv' := [(2, .int (-1 : Int32)), (0, .ref (B0 + 26)), (1, .int a1)]) rfl (by decide) rfl dX4_leastName_1 ?_
  refine z_iconst C (v := 0) (by decide) dX4_leastName_2 ?_
  refine z_istore_n C (lv' := [(3, .int (0 : Int32)), (2, .int (-1 : Int32)), (0, .ref (B0 + 26)), (1, .int a1)]) rfl (by decide) rfl dX4_leastName_3 ?_
  refine z_lv [2, 3, 1, 0] (lv' := [(0, .ref (B0 + 26)), (1, .int a1), (2, .int (-1 : Int32)), (3, .int (0 : Int32))]) rfl ?_
  exact L_X4_leastName_4 C L a1 (-1 : Int32) (0 : Int32) I h
theorem q_1134 : (Cond.code ({ cls := "DeviceFind$Notes", name := "isTwice", desc := "(I)Z" } : Jvm.MethodName) prog_6_method_7_code (3 : Nat) (Option.some Jvm.ClassFile.FieldType.boolean)) ∈ lw_tbl := List.mem_of_getElem? (i := 1134) (by decide +kernel)
theorem yy_X4_isTwice : zY yX4_isTwice cX4_isTwice 3 (some .boolean) 1 := ⟨q_1134, q_82, by decide +kernel, by decide +kernel, by decide +kernel⟩
noncomputable def f_X4_isTwice_42 (k2 : Int32 → Int32 → zI → Option Int32) (v1 : Int32) (v2 : Int32) (I : zI) : Option Int32 :=
  zlt (v2 + 1) (fun x5 => k2 v1 x5 I)
noncomputable def f_X4_isTwice_2 (k2 : Int32 → Int32 → zI → Option Int32) (v1 : Int32) (v2 : Int32) (I : zI) : Option Int32 :=
  if (I 26 0) ≤ v2 then (some (0 : Int32)) else (zck (zbd v2 40) (zck (zbd v1 40) (if (I 30 v2.toNatClampNeg) = (I 30 v1.toNatClampNeg) then (zck (zbd v2 40) (zck (zbd v1 40) (if (I 29 v2.toNatClampNeg) = (I 29 v1.toNatClampNeg) then (f_X4_isTwice_42 k2 v1 v2 I) else (some (1 : Int32))))) else (f_X4_isTwice_42 k2 v1 v2 I))))
noncomputable def f_X4_isTwice (a1 : Int32) (I : zI) : Option Int32 :=
  zlp3 (f_X4_isTwice_2) zF a1 (0 : Int32) I
set_option maxHeartbeats 4000000 in
set_option maxRecDepth 100000 in
theorem l_X4_isTwice_42 {r : Int32} (C : zC p l e R s m args below meth c s0 a0 d cy B0 yX4_isTwice.cls cX4_isTwice 3 (some .boolean) bc bs bc bs 0 0 []) (L : zL) (k2 : Int32 → Int32 → zI → Option Int32) (hk2 : ∀ (v1 : Int32) (v2 : Int32) (I : zI), k2 v1 v2 I = some r → zG p l e R s m args below meth c d cy B0 3 bc bs (zQ below s args d cy B0 bc bs (.inl (some (.int r))) zSH zKn bc bs I L) 2 [(0, .ref (B0 + 26)), (1, .int v1), (2, .int v2)] [] zSH zKn bc bs I L) (v1 : Int32) (v2 : Int32) (I : zI) (h : f_X4_isTwice_42 k2 v1 v2 I = some r) : zG p l e R s m args below meth c d cy B0 3 bc bs (zQ below s args d cy B0 bc bs (.inl (some (.int r))) zSH zKn bc bs I L) 42 [(0, .ref (B0 + 26)), (1, .int v1), (2, .int v2)] [] zSH zKn bc bs I L := by
  unfold f_X4_isTwice_42 at h
  obtain ⟨x5, ex5, h⟩ := zlt_e h
  refine z_iinc C (j := 2) (v := x5) (lv' := [(2, .int x5), (0, .ref (B0 + 26)), (1, .int v1)]) rfl (by rw [ex5]; rfl) (by decide) rfl dX4_isTwice_42 ?_
  refine z_goto C 2 (by decide) dX4_isTwice_45 ?_
  refine z_lv [1, 2, 0] (lv' := [(0, .ref (B0 + 26)), (1, .int v1), (2, .int x5)]) rfl ?_
  exact hk2 v1 x5 I h
set_option maxHeartbeats 4000000 in
set_option maxRecDepth 100000 in
theorem l_X4_isTwice_2 {r : Int32} (C : zC p l e R s m args below meth c s0 a0 d cy B0 yX4_isTwice.cls cX4_isTwice 3 (some .boolean) bc bs bc bs 0 0 []) (L : zL) (k2 : Int32 → Int32 → zI → Option Int32) (hk2 : ∀ (v1 : Int32) (v2 : Int32) (I : zI), k2 v1 v2 I = some r → zG p l e R s m args below meth c d cy B0 3 bc bs (zQ below s args d cy B0 bc bs (.inl (some (.int r))) zSH zKn bc bs I L) 2 [(0, .ref (B0 + 26)), (1, .int v1), (2, .int v2)] [] zSH zKn bc bs I L) (v1 : Int32) (v2 : Int32) (I : zI) (h : f_X4_isTwice_2 k2 v1 v2 I = some r) : zG p l e R s m args below meth c d cy B0 3 bc bs (zQ below s args d cy B0 bc bs (.inl (some (.int r))) zSH zKn bc bs I L) 2 [(0, .ref (B0 + 26)), (1, .int v1), (2, .int v2)] [] zSH zKn bc bs I L := by
  unfold f_X4_isTwice_2 at h
  refine z_iload_n C rfl 2 rfl dX4_isTwice_2 ?_
  refine z_aload_n C rfl 0 rfl dX4_isTwice_3 ?_
  refine z_geti C zc_4 dX4_isTwice_4 0 26 rfl (by decide) (by decide) q_298 rfl ?_
  refine z_icmp_ge C 48 (by decide) dX4_isTwice_7 (fun hc => ?_) (fun hc => ?_)
  · have h := zif_t hc h
    refine z_iconst C (v := 0) (by decide) dX4_isTwice_48 ?_
    obtain rfl := Option.some.inj h
    exact z_iret C dX4_isTwice_49 .boolean rfl rfl rfl
  · have h := zif_f hc h
    refine z_aload_n C rfl 0 rfl dX4_isTwice_10 ?_
    refine z_getr C zc_4 dX4_isTwice_11 4 26 30 rfl (by decide) (by decide) q_303 rfl rfl ?_
    refine z_iload_n C rfl 2 rfl dX4_isTwice_14 ?_
    obtain ⟨hb1, h⟩ := zck_e h
    refine z_iaload C dX4_isTwice_15 rfl rfl (by decide) (zbd_in hb1) ?_
    refine z_aload_n C rfl 0 rfl dX4_isTwice_16 ?_
    refine z_getr C zc_4 dX4_isTwice_17 4 26 30 rfl (by decide) (by decide) q_303 rfl rfl ?_
    refine z_iload_n C rfl 1 rfl dX4_isTwice_20 ?_
    obtain ⟨hb2, h⟩ := zck_e h
    refine z_iaload C dX4_isTwice_21 rfl rfl (by decide) (zbd_in hb2) ?_
    refine z_icmp_ne C 42 (by decide) dX4_isTwice_22 (fun hc => ?_) (fun hc => ?_)
    · have h := zif_f hc h
      exact l_X4_isTwice_42 C L k2 hk2 v1 v2 I h
    · have h := zif_t hc h
      refine z_aload_n C rfl 0 rfl dX4_isTwice_25 ?_
      refine z_getr C zc_4 dX4_isTwice_26 3 26 29 rfl (by decide) (by decide) q_302 rfl rfl ?_
      refine z_iload_n C rfl 2 rfl dX4_isTwice_29 ?_
      obtain ⟨hb3, h⟩ := zck_e h
      refine z_iaload C dX4_isTwice_30 rfl rfl (by decide) (zbd_in hb3) ?_
      refine z_aload_n C rfl 0 rfl dX4_isTwice_31 ?_
      refine z_getr C zc_4 dX4_isTwice_32 3 26 29 rfl (by decide) (by decide) q_302 rfl rfl ?_
      refine z_iload_n C rfl 1 rfl dX4_isTwice_35 ?_
      obtain ⟨hb4, h⟩ := zck_e h
      refine z_iaload C dX4_isTwice_36 rfl rfl (by decide) (zbd_in hb4) ?_
      refine z_icmp_eq C 42 (by decide) dX4_isTwice_37 (fun hc => ?_) (fun hc => ?_)
      · have h := zif_t hc h
        exact l_X4_isTwice_42 C L k2 hk2 v1 v2 I h
      · have h := zif_f hc h
        refine z_iconst C (v := 1) (by decide) dX4_isTwice_40 ?_
        obtain rfl := Option.some.inj h
        exact z_iret C dX4_isTwice_41 .boolean rfl rfl rfl
set_option maxHeartbeats 4000000 in
set_option maxRecDepth 100000 in
theorem L_X4_isTwice_2 {r : Int32} (C : zC p l e R s m args below meth c s0 a0 d cy B0 yX4_isTwice.cls cX4_isTwice 3 (some .boolean) bc bs bc bs 0 0 []) (L : zL) (v1 : Int32) (v2 : Int32) (I : zI) (h : zlp3 (f_X4_isTwice_2) zF v1 v2 I = some r) : zG p l e R s m args below meth c d cy B0 3 bc bs (zQ below s args d cy B0 bc bs (.inl (some (.int r))) zSH zKn bc bs I L) 2 [(0, .ref (B0 + 26)), (1, .int v1), (2, .int v2)] [] zSH zKn bc bs I L :=
 zlp3_e (fun (v1 : Int32) (v2 : Int32) (I : zI) => zG p l e R s m args below meth c d cy B0 3 bc bs (zQ below s args d cy B0 bc bs (.inl (some (.int r))) zSH zKn bc bs I L) 2 [(0, .ref (B0 + 26)), (1, .int v1), (2, .int v2)] [] zSH zKn bc bs I L) (fun k9 hk9 v1 v2 I h => l_X4_isTwice_2 C L k9 hk9 v1 v2 I h) zF v1 v2 I h
set_option maxHeartbeats 4000000 in
set_option maxRecDepth 100000 in
theorem c_X4_isTwice {r : Int32} (hE : zE0 l s0 a0 d cy B0) (a1 : Int32) (I : zI) (L : zL) (h : f_X4_isTwice a1 I = some r) : zM l s0 d cy B0 yX4_isTwice cX4_isTwice 3 (some .boolean) 0 0 [.ref (B0 + 26), .int a1] zSH zKn bc bs I L (.inl (some (.int r))) zSH zKn bc bs I L := by
  refine z_meth yy_X4_isTwice hE (Nat.le_of_ble_eq_true rfl) (fun p e R s m args below meth c C => ?_)
  show zG p l e R s m args below meth c d cy B0 3 bc bs (zQ below s args d cy B0 bc bs (.inl (some (.int r))) zSH zKn bc bs I L) 0 [(0, .ref (B0 + 26)), (1, .int a1)] [] zSH zKn bc bs I L
  unfold f_X4_isTwice at h
  refine z_iconst C (v := 0) (by decide) dX4_isTwice_0 ?_
  refine z_istore_n C (lv' := [(2, .int (0 : Int32)), (0, .ref (B0 + 26)), (1, .int a1)]) rfl (by decide) rfl dX4_isTwice_1 ?_
  refine z_lv [1, 2, 0] (lv' := [(0, .ref (B0 + 26)), (1, .int a1), (2, .int (0 : Int32))]) rfl ?_
  exact L_X4_isTwice_2 C L a1 (0 : Int32) I h
theorem q_43 : Cond.selects "DeviceFind$Notes" ⟨"DeviceFind$Notes", "isTwice", "(I)Z"⟩ ⟨"DeviceFind$Notes", "isTwice", "(I)Z"⟩ ∈ lw_tbl := List.mem_of_getElem? (i := 43) (by decide +kernel)
theorem q_1130 : (Cond.code ({ cls := "DeviceFind$Notes", name := "nextTwice", desc := "(I)I" } : Jvm.MethodName) prog_6_method_6_code (5 : Nat) (Option.some Jvm.ClassFile.FieldType.int)) ∈ lw_tbl := List.mem_of_getElem? (i := 1130) (by decide +kernel)
theorem q_1131 : (Cond.methodLink "DeviceFind$Notes" (42 : Nat) ({ cls := "DeviceFind$Notes", name := "isTwice", desc := "(I)Z" } : Jvm.MethodName)) ∈ lw_tbl := List.mem_of_getElem? (i := 1131) (by decide +kernel)
theorem q_1133 : (Cond.instanceMethod ({ cls := "DeviceFind$Notes", name := "isTwice", desc := "(I)Z" } : Jvm.MethodName)) ∈ lw_tbl := List.mem_of_getElem? (i := 1133) (by decide +kernel)
theorem yy_X4_nextTwice : zY yX4_nextTwice cX4_nextTwice 5 (some .int) 1 := ⟨q_1130, q_82, by decide +kernel, by decide +kernel, by decide +kernel⟩
noncomputable def f_X4_nextTwice_48 (k4 : Int32 → Int32 → Int32 → zI → Option Int32) (v1 : Int32) (v2 : Int32) (v3 : Int32) (I : zI) : Option Int32 :=
  zlt (v3 + 1) (fun x3 => k4 v1 v2 x3 I)
noncomputable def f_X4_nextTwice_37 (k4 : Int32 → Int32 → Int32 → zI → Option Int32) (v1 : Int32) (v2 : Int32) (v3 : Int32) (v4 : Int32) (I : zI) : Option Int32 :=
  zb1 (f_X4_isTwice v3 I) (fun x5 => if x5 = 0 then (f_X4_nextTwice_48 k4 v1 v2 v3 I) else (f_X4_nextTwice_48 k4 v1 v4 v3 I))
noncomputable def f_X4_nextTwice_4 (k4 : Int32 → Int32 → Int32 → zI → Option Int32) (v1 : Int32) (v2 : Int32) (v3 : Int32) (I : zI) : Option Int32 :=
  if (I 26 0) ≤ v3 then (some v2) else (zck (zbd v3 40) (zlt (I 30 v3.toNatClampNeg) (fun x2 => if x2 ≤ v1 then (f_X4_nextTwice_48 k4 v1 v2 v3 I) else (if v2 = (-1 : Int32) then (f_X4_nextTwice_37 k4 v1 v2 v3 x2 I) else (if v2 ≤ x2 then (f_X4_nextTwice_48 k4 v1 v2 v3 I) else (f_X4_nextTwice_37 k4 v1 v2 v3 x2 I))))))
noncomputable def f_X4_nextTwice (a1 : Int32) (I : zI) : Option Int32 :=
  zlp4 (f_X4_nextTwice_4) zF a1 (-1 : Int32) (0 : Int32) I
set_option maxHeartbeats 4000000 in
set_option maxRecDepth 100000 in
theorem l_X4_nextTwice_48 {r : Int32} (C : zC p l e R s m args below meth c s0 a0 d cy B0 yX4_nextTwice.cls cX4_nextTwice 5 (some .int) bc bs bc bs 1 22 []) (L : zL) (k4 : Int32 → Int32 → Int32 → zI → Option Int32) (hk4 : ∀ (v1 : Int32) (v2 : Int32) (v3 : Int32) (I : zI), k4 v1 v2 v3 I = some r → zG p l e R s m args below meth c d cy B0 5 bc bs (zQ below s args d cy B0 bc bs (.inl (some (.int r))) zSH zKn bc bs I L) 4 [(0, .ref (B0 + 26)), (1, .int v1), (2, .int v2), (3, .int v3)] [] zSH zKn bc bs I L) (v1 : Int32) (v2 : Int32) (v3 : Int32) (I : zI) (h : f_X4_nextTwice_48 k4 v1 v2 v3 I = some r) : zG p l e R s m args below meth c d cy B0 5 bc bs (zQ below s args d cy B0 bc bs (.inl (some (.int r))) zSH zKn bc bs I L) 48 [(0, .ref (B0 + 26)), (1, .int v1), (2, .int v2), (3, .int v3)] [] zSH zKn bc bs I L := by
  unfold f_X4_nextTwice_48 at h
  obtain ⟨x3, ex3, h⟩ := zlt_e h
  refine z_iinc C (j := 3) (v := x3) (lv' := [(3, .int x3), (0, .ref (B0 + 26)), (1, .int v1), (2, .int v2)]) rfl (by rw [ex3]; rfl) (by decide) rfl dX4_nextTwice_48 ?_
  refine z_goto C 4 (by decide) dX4_nextTwice_51 ?_
  refine z_lv [1, 2, 3, 0] (lv' := [(0, .ref (B0 + 26)), (1, .int v1), (2, .int v2), (3, .int x3)]) rfl ?_
  exact hk4 v1 v2 x3 I h
set_option maxHeartbeats 4000000 in
set_option maxRecDepth 100000 in
theorem l_X4_nextTwice_37 {r : Int32} (C : zC p l e R s m args below meth c s0 a0 d cy B0 yX4_nextTwice.cls cX4_nextTwice 5 (some .int) bc bs bc bs 1 22 []) (L : zL) (k4 : Int32 → Int32 → Int32 → zI → Option Int32) (hk4 : ∀ (v1 : Int32) (v2 : Int32) (v3 : Int32) (I : zI), k4 v1 v2 v3 I = some r → zG p l e R s m args below meth c d cy B0 5 bc bs (zQ below s args d cy B0 bc bs (.inl (some (.int r))) zSH zKn bc bs I L) 4 [(0, .ref (B0 + 26)), (1, .int v1), (2, .int v2), (3, .int v3)] [] zSH zKn bc bs I L) (v1 : Int32) (v2 : Int32) (v3 : Int32) (v4 : Int32) (I : zI) (h : f_X4_nextTwice_37 k4 v1 v2 v3 v4 I = some r) : zG p l e R s m args below meth c d cy B0 5 bc bs (zQ below s args d cy B0 bc bs (.inl (some (.int r))) zSH zKn bc bs I L) 37 [(0, .ref (B0 + 26)), (1, .int v1), (2, .int v2), (3, .int v3), (4, .int v4)] [] zSH zKn bc bs I L := by
  unfold f_X4_nextTwice_37 at h
  refine z_aload_n C rfl 0 rfl dX4_nextTwice_37 ?_
  refine z_iload_n C rfl 3 rfl dX4_nextTwice_38 ?_
  obtain ⟨x5, hg4, h⟩ := zb1_e h
  refine z_callV C zc_4 rfl (by decide) dX4_nextTwice_39 yy_X4_isTwice (c_X4_isTwice C.2.2.2.2.1  v3 I L hg4) q_1131 q_1133 q_43 (by decide) (by decide) rfl rfl (Nat.le_of_ble_eq_true rfl) ⟨Nat.le_refl _, Nat.le_refl _, Nat.le_refl _, Nat.le_refl _⟩ ?_
  refine z_if_eq C 48 (by decide) dX4_nextTwice_42 (fun hc => ?_) (fun hc => ?_)
  · have h := zif_t hc h
    refine z_lv [0, 1, 2, 3] (lv' := [(0, .ref (B0 + 26)), (1, .int v1), (2, .int v2), (3, .int v3)]) rfl ?_
    exact l_X4_nextTwice_48 C L k4 hk4 v1 v2 v3 I h
  · have h := zif_f hc h
    refine z_iload C 4 rfl dX4_nextTwice_45 ?_
    refine z_istore_n C (lv' := [(2, .int v4), (0, .ref (B0 + 26)), (1, .int v1), (3, .int v3), (4, .int v4)]) rfl (by decide) rfl dX4_nextTwice_47 ?_
    refine z_lv [1, 2, 0, 3] (lv' := [(0, .ref (B0 + 26)), (1, .int v1), (2, .int v4), (3, .int v3)]) rfl ?_
    exact l_X4_nextTwice_48 C L k4 hk4 v1 v4 v3 I h
set_option maxHeartbeats 4000000 in
set_option maxRecDepth 100000 in
theorem l_X4_nextTwice_4 {r : Int32} (C : zC p l e R s m args below meth c s0 a0 d cy B0 yX4_nextTwice.cls cX4_nextTwice 5 (some .int) bc bs bc bs 1 22 []) (L : zL) (k4 : Int32 → Int32 → Int32 → zI → Option Int32) (hk4 : ∀ (v1 : Int32) (v2 : Int32) (v3 : Int32) (I : zI), k4 v1 v2 v3 I = some r → zG p l e R s m args below meth c d cy B0 5 bc bs (zQ below s args d cy B0 bc bs (.inl (some (.int r))) zSH zKn bc bs I L) 4 [(0, .ref (B0 + 26)), (1, .int v1), (2, .int v2), (3, .int v3)] [] zSH zKn bc bs I L) (v1 : Int32) (v2 : Int32) (v3 : Int32) (I : zI) (h : f_X4_nextTwice_4 k4 v1 v2 v3 I = some r) : zG p l e R s m args below meth c d cy B0 5 bc bs (zQ below s args d cy B0 bc bs (.inl (some (.int r))) zSH zKn bc bs I L) 4 [(0, .ref (B0 + 26)), (1, .int v1), (2, .int v2), (3, .int v3)] [] zSH zKn bc bs I L := by
  unfold f_X4_nextTwice_4 at h
  refine z_iload_n C rfl 3 rfl dX4_nextTwice_4 ?_
  refine z_aload_n C rfl 0 rfl dX4_nextTwice_5 ?_
  refine z_geti C zc_4 dX4_nextTwice_6 0 26 rfl (by decide) (by decide) q_298 rfl ?_
  refine z_icmp_ge C 54 (by decide) dX4_nextTwice_9 (fun hc => ?_) (fun hc => ?_)
  · have h := zif_t hc h
    refine z_iload_n C rfl 2 rfl dX4_nextTwice_54 ?_
    obtain rfl := Option.some.inj h
    exact z_iret C dX4_nextTwice_55 .int rfl rfl rfl
  · have h := zif_f hc h
    refine z_aload_n C rfl 0 rfl dX4_nextTwice_12 ?_
    refine z_getr C zc_4 dX4_nextTwice_13 4 26 30 rfl (by decide) (by decide) q_303 rfl rfl ?_
    refine z_iload_n C rfl 3 rfl dX4_nextTwice_16 ?_
    obtain ⟨hb1, h⟩ := zck_e h
    refine z_iaload C dX4_nextTwice_17 rfl rfl (by decide) (zbd_in hb1) ?_
    obtain ⟨x2, ex2, h⟩ := zlt_e h
    refine z_eqi C ex2 ?_
    refine z_istore C (lv' := [(4, .int x2), (0, .ref (B0 + 26)), (1, .int v1), (2, .int v2), (3, .int v3)]) (by decide) rfl dX4_nextTwice_18 ?_
    refine z_iload C 0 rfl dX4_nextTwice_20 ?_
    refine z_iload_n C rfl 2 rfl dX4_nextTwice_22 ?_
    refine z_icmp_le C 48 (by decide) dX4_nextTwice_23 (fun hc => ?_) (fun hc => ?_)
    · have h := zif_t hc h
      refine z_lv [1, 2, 3, 4] (lv' := [(0, .ref (B0 + 26)), (1, .int v1), (2, .int v2), (3, .int v3)]) rfl ?_
      exact l_X4_nextTwice_48 C L k4 hk4 v1 v2 v3 I h
    · have h := zif_f hc h
      refine z_iload_n C rfl 3 rfl dX4_nextTwice_26 ?_
      refine z_iconst C (v := -1) (by decide) dX4_nextTwice_27 ?_
      refine z_icmp_eq C 37 (by decide) dX4_nextTwice_28 (fun hc => ?_) (fun hc => ?_)
      · have h := zif_t hc h
        refine z_lv [1, 2, 3, 4, 0] (lv' := [(0, .ref (B0 + 26)), (1, .int v1), (2, .int v2), (3, .int v3), (4, .int x2)]) rfl ?_
        exact l_X4_nextTwice_37 C L k4 hk4 v1 v2 v3 x2 I h
      · have h := zif_f hc h
        refine z_iload C 0 rfl dX4_nextTwice_31 ?_
        refine z_iload_n C rfl 3 rfl dX4_nextTwice_33 ?_
        refine z_icmp_ge C 48 (by decide) dX4_nextTwice_34 (fun hc => ?_) (fun hc => ?_)
        · have h := zif_t hc h
          refine z_lv [1, 2, 3, 4] (lv' := [(0, .ref (B0 + 26)), (1, .int v1), (2, .int v2), (3, .int v3)]) rfl ?_
          exact l_X4_nextTwice_48 C L k4 hk4 v1 v2 v3 I h
        · have h := zif_f hc h
          refine z_lv [1, 2, 3, 4, 0] (lv' := [(0, .ref (B0 + 26)), (1, .int v1), (2, .int v2), (3, .int v3), (4, .int x2)]) rfl ?_
          exact l_X4_nextTwice_37 C L k4 hk4 v1 v2 v3 x2 I h
set_option maxHeartbeats 4000000 in
set_option maxRecDepth 100000 in
theorem L_X4_nextTwice_4 {r : Int32} (C : zC p l e R s m args below meth c s0 a0 d cy B0 yX4_nextTwice.cls cX4_nextTwice 5 (some .int) bc bs bc bs 1 22 []) (L : zL) (v1 : Int32) (v2 : Int32) (v3 : Int32) (I : zI) (h : zlp4 (f_X4_nextTwice_4) zF v1 v2 v3 I = some r) : zG p l e R s m args below meth c d cy B0 5 bc bs (zQ below s args d cy B0 bc bs (.inl (some (.int r))) zSH zKn bc bs I L) 4 [(0, .ref (B0 + 26)), (1, .int v1), (2, .int v2), (3, .int v3)] [] zSH zKn bc bs I L :=
 zlp4_e (fun (v1 : Int32) (v2 : Int32) (v3 : Int32) (I : zI) => zG p l e R s m args below meth c d cy B0 5 bc bs (zQ below s args d cy B0 bc bs (.inl (some (.int r))) zSH zKn bc bs I L) 4 [(0, .ref (B0 + 26)), (1, .int v1), (2, .int v2), (3, .int v3)] [] zSH zKn bc bs I L) (fun k9 hk9 v1 v2 v3 I h => l_X4_nextTwice_4 C L k9 hk9 v1 v2 v3 I h) zF v1 v2 v3 I h
set_option maxHeartbeats 4000000 in
set_option maxRecDepth 100000 in
theorem c_X4_nextTwice {r : Int32} (hE : zE0 l s0 a0 d cy B0) (a1 : Int32) (I : zI) (L : zL) (h : f_X4_nextTwice a1 I = some r) : zM l s0 d cy B0 yX4_nextTwice cX4_nextTwice 5 (some .int) 1 22 [.ref (B0 + 26), .int a1] zSH zKn bc bs I L (.inl (some (.int r))) zSH zKn bc bs I L := by
  refine z_meth yy_X4_nextTwice hE (Nat.le_of_ble_eq_true rfl) (fun p e R s m args below meth c C => ?_)
  show zG p l e R s m args below meth c d cy B0 5 bc bs (zQ below s args d cy B0 bc bs (.inl (some (.int r))) zSH zKn bc bs I L) 0 [(0, .ref (B0 + 26)), (1, .int a1)] [] zSH zKn bc bs I L
  unfold f_X4_nextTwice at h
  refine z_iconst C (v := -1) (by decide) dX4_nextTwice_0 ?_
  refine z_istore_n C (lv' := [(2, .int (-1 : Int32)), (0, .ref (B0 + 26)), (1, .int a1)]) rfl (by decide) rfl dX4_nextTwice_1 ?_
  refine z_iconst C (v := 0) (by decide) dX4_nextTwice_2 ?_
  refine z_istore_n C (lv' := [(3, .int (0 : Int32)), (2, .int (-1 : Int32)), (0, .ref (B0 + 26)), (1, .int a1)]) rfl (by decide) rfl dX4_nextTwice_3 ?_
  refine z_lv [2, 3, 1, 0] (lv' := [(0, .ref (B0 + 26)), (1, .int a1), (2, .int (-1 : Int32)), (3, .int (0 : Int32))]) rfl ?_
  exact L_X4_nextTwice_4 C L a1 (-1 : Int32) (0 : Int32) I h
theorem q_42 : Cond.selects "DeviceFind$Notes" ⟨"DeviceFind$Notes", "nextTwice", "(I)I"⟩ ⟨"DeviceFind$Notes", "nextTwice", "(I)I"⟩ ∈ lw_tbl := List.mem_of_getElem? (i := 42) (by decide +kernel)
theorem q_1126 : (Cond.code ({ cls := "DeviceFind$Notes", name := "twiceNamed", desc := "(I)I" } : Jvm.MethodName) prog_6_method_5_code (4 : Nat) (Option.some Jvm.ClassFile.FieldType.int)) ∈ lw_tbl := List.mem_of_getElem? (i := 1126) (by decide +kernel)
theorem q_1127 : (Cond.methodLink "DeviceFind$Notes" (38 : Nat) ({ cls := "DeviceFind$Notes", name := "nextTwice", desc := "(I)I" } : Jvm.MethodName)) ∈ lw_tbl := List.mem_of_getElem? (i := 1127) (by decide +kernel)
theorem q_1129 : (Cond.instanceMethod ({ cls := "DeviceFind$Notes", name := "nextTwice", desc := "(I)I" } : Jvm.MethodName)) ∈ lw_tbl := List.mem_of_getElem? (i := 1129) (by decide +kernel)
theorem yy_X4_twiceNamed : zY yX4_twiceNamed cX4_twiceNamed 4 (some .int) 1 := ⟨q_1126, q_82, by decide +kernel, by decide +kernel, by decide +kernel⟩
noncomputable def f_X4_twiceNamed_38 (v2 : Int32) (I : zI) : Option Int32 :=
  some v2
noncomputable def f_X4_twiceNamed_16 (k16 : Int32 → Int32 → Int32 → zI → Option Int32) (v1 : Int32) (v2 : Int32) (v3 : Int32) (I : zI) : Option Int32 :=
  if v1 ≤ v3 then (f_X4_twiceNamed_38 v2 I) else (if v2 = (-1 : Int32) then (f_X4_twiceNamed_38 v2 I) else (zb1 (f_X4_nextTwice v2 I) (fun x4 => zlt (v3 + 1) (fun x5 => k16 v1 x4 x5 I))))
noncomputable def f_X4_twiceNamed (a1 : Int32) (I : zI) : Option Int32 :=
  if a1 < (40 : Int32) then (zb1 (f_X4_nextTwice (-1 : Int32) I) (fun x2 => zlp4 (f_X4_twiceNamed_16) zF a1 x2 (0 : Int32) I)) else (some (-1 : Int32))
set_option maxHeartbeats 4000000 in
set_option maxRecDepth 100000 in
theorem l_X4_twiceNamed_38 {r : Int32} (C : zC p l e R s m args below meth c s0 a0 d cy B0 yX4_twiceNamed.cls cX4_twiceNamed 4 (some .int) bc bs bc bs 2 46 []) (L : zL) (v2 : Int32) (I : zI) (h : f_X4_twiceNamed_38 v2 I = some r) : zG p l e R s m args below meth c d cy B0 4 bc bs (zQ below s args d cy B0 bc bs (.inl (some (.int r))) zSH zKn bc bs I L) 38 [(2, .int v2)] [] zSH zKn bc bs I L := by
  unfold f_X4_twiceNamed_38 at h
  refine z_iload_n C rfl 0 rfl dX4_twiceNamed_38 ?_
  obtain rfl := Option.some.inj h
  exact z_iret C dX4_twiceNamed_39 .int rfl rfl rfl
set_option maxHeartbeats 4000000 in
set_option maxRecDepth 100000 in
theorem l_X4_twiceNamed_16 {r : Int32} (C : zC p l e R s m args below meth c s0 a0 d cy B0 yX4_twiceNamed.cls cX4_twiceNamed 4 (some .int) bc bs bc bs 2 46 []) (L : zL) (k16 : Int32 → Int32 → Int32 → zI → Option Int32) (hk16 : ∀ (v1 : Int32) (v2 : Int32) (v3 : Int32) (I : zI), k16 v1 v2 v3 I = some r → zG p l e R s m args below meth c d cy B0 4 bc bs (zQ below s args d cy B0 bc bs (.inl (some (.int r))) zSH zKn bc bs I L) 16 [(0, .ref (B0 + 26)), (1, .int v1), (2, .int v2), (3, .int v3)] [] zSH zKn bc bs I L) (v1 : Int32) (v2 : Int32) (v3 : Int32) (I : zI) (h : f_X4_twiceNamed_16 k16 v1 v2 v3 I = some r) : zG p l e R s m args below meth c d cy B0 4 bc bs (zQ below s args d cy B0 bc bs (.inl (some (.int r))) zSH zKn bc bs I L) 16 [(0, .ref (B0 + 26)), (1, .int v1), (2, .int v2), (3, .int v3)] [] zSH zKn bc bs I L := by
  unfold f_X4_twiceNamed_16 at h
  refine z_iload_n C rfl 3 rfl dX4_twiceNamed_16 ?_
  refine z_iload_n C rfl 1 rfl dX4_twiceNamed_17 ?_
  refine z_icmp_ge C 38 (by decide) dX4_twiceNamed_18 (fun hc => ?_) (fun hc => ?_)
  · have h := zif_t hc h
    refine z_lv [2] (lv' := [(2, .int v2)]) rfl ?_
    exact l_X4_twiceNamed_38 C L v2 I h
  · have h := zif_f hc h
    refine z_iload_n C rfl 2 rfl dX4_twiceNamed_21 ?_
    refine z_iconst C (v := -1) (by decide) dX4_twiceNamed_22 ?_
    refine z_icmp_eq C 38 (by decide) dX4_twiceNamed_23 (fun hc => ?_) (fun hc => ?_)
    · have h := zif_t hc h
      refine z_lv [2] (lv' := [(2, .int v2)]) rfl ?_
      exact l_X4_twiceNamed_38 C L v2 I h
    · have h := zif_f hc h
      refine z_aload_n C rfl 0 rfl dX4_twiceNamed_26 ?_
      refine z_iload_n C rfl 2 rfl dX4_twiceNamed_27 ?_
      obtain ⟨x4, hg3, h⟩ := zb1_e h
      refine z_callV C zc_4 rfl (by decide) dX4_twiceNamed_28 yy_X4_nextTwice (c_X4_nextTwice C.2.2.2.2.1  v2 I L hg3) q_1127 q_1129 q_42 (by decide) (by decide) rfl rfl (Nat.le_of_ble_eq_true rfl) ⟨Nat.le_refl _, Nat.le_refl _, Nat.le_refl _, Nat.le_refl _⟩ ?_
      refine z_istore_n C (lv' := [(2, .int x4), (0, .ref (B0 + 26)), (1, .int v1), (3, .int v3)]) rfl (by decide) rfl dX4_twiceNamed_31 ?_
      obtain ⟨x5, ex5, h⟩ := zlt_e h
      refine z_iinc C (j := 3) (v := x5) (lv' := [(3, .int x5), (2, .int x4), (0, .ref (B0 + 26)), (1, .int v1)]) rfl (by rw [ex5]; rfl) (by decide) rfl dX4_twiceNamed_32 ?_
      refine z_goto C 16 (by decide) dX4_twiceNamed_35 ?_
      refine z_lv [2, 3, 1, 0] (lv' := [(0, .ref (B0 + 26)), (1, .int v1), (2, .int x4), (3, .int x5)]) rfl ?_
      exact hk16 v1 x4 x5 I h
set_option maxHeartbeats 4000000 in
set_option maxRecDepth 100000 in
theorem L_X4_twiceNamed_16 {r : Int32} (C : zC p l e R s m args below meth c s0 a0 d cy B0 yX4_twiceNamed.cls cX4_twiceNamed 4 (some .int) bc bs bc bs 2 46 []) (L : zL) (v1 : Int32) (v2 : Int32) (v3 : Int32) (I : zI) (h : zlp4 (f_X4_twiceNamed_16) zF v1 v2 v3 I = some r) : zG p l e R s m args below meth c d cy B0 4 bc bs (zQ below s args d cy B0 bc bs (.inl (some (.int r))) zSH zKn bc bs I L) 16 [(0, .ref (B0 + 26)), (1, .int v1), (2, .int v2), (3, .int v3)] [] zSH zKn bc bs I L :=
 zlp4_e (fun (v1 : Int32) (v2 : Int32) (v3 : Int32) (I : zI) => zG p l e R s m args below meth c d cy B0 4 bc bs (zQ below s args d cy B0 bc bs (.inl (some (.int r))) zSH zKn bc bs I L) 16 [(0, .ref (B0 + 26)), (1, .int v1), (2, .int v2), (3, .int v3)] [] zSH zKn bc bs I L) (fun k9 hk9 v1 v2 v3 I h => l_X4_twiceNamed_16 C L k9 hk9 v1 v2 v3 I h) zF v1 v2 v3 I h
set_option maxHeartbeats 4000000 in
set_option maxRecDepth 100000 in
theorem c_X4_twiceNamed {r : Int32} (hE : zE0 l s0 a0 d cy B0) (a1 : Int32) (I : zI) (L : zL) (h : f_X4_twiceNamed a1 I = some r) : zM l s0 d cy B0 yX4_twiceNamed cX4_twiceNamed 4 (some .int) 2 46 [.ref (B0 + 26), .int a1] zSH zKn bc bs I L (.inl (some (.int r))) zSH zKn bc bs I L := by
  refine z_meth yy_X4_twiceNamed hE (Nat.le_of_ble_eq_true rfl) (fun p e R s m args below meth c C => ?_)
  show zG p l e R s m args below meth c d cy B0 4 bc bs (zQ below s args d cy B0 bc bs (.inl (some (.int r))) zSH zKn bc bs I L) 0 [(0, .ref (B0 + 26)), (1, .int a1)] [] zSH zKn bc bs I L
  unfold f_X4_twiceNamed at h
  refine z_iload_n C rfl 1 rfl dX4_twiceNamed_0 ?_
  refine z_bipush C (v := 40) (by decide) dX4_twiceNamed_1 ?_
  refine z_icmp_lt C 8 (by decide) dX4_twiceNamed_3 (fun hc => ?_) (fun hc => ?_)
  · have h := zif_t hc h
    refine z_aload_n C rfl 0 rfl dX4_twiceNamed_8 ?_
    refine z_iconst C (v := -1) (by decide) dX4_twiceNamed_9 ?_
    obtain ⟨x2, hg1, h⟩ := zb1_e h
    refine z_callV C zc_4 rfl (by decide) dX4_twiceNamed_10 yy_X4_nextTwice (c_X4_nextTwice C.2.2.2.2.1  (-1 : Int32) I L hg1) q_1127 q_1129 q_42 (by decide) (by decide) rfl rfl (Nat.le_of_ble_eq_true rfl) ⟨Nat.le_refl _, Nat.le_refl _, Nat.le_refl _, Nat.le_refl _⟩ ?_
    refine z_istore_n C (lv' := [(2, .int x2), (0, .ref (B0 + 26)), (1, .int a1)]) rfl (by decide) rfl dX4_twiceNamed_13 ?_
    refine z_iconst C (v := 0) (by decide) dX4_twiceNamed_14 ?_
    refine z_istore_n C (lv' := [(3, .int (0 : Int32)), (2, .int x2), (0, .ref (B0 + 26)), (1, .int a1)]) rfl (by decide) rfl dX4_twiceNamed_15 ?_
    refine z_lv [2, 3, 1, 0] (lv' := [(0, .ref (B0 + 26)), (1, .int a1), (2, .int x2), (3, .int (0 : Int32))]) rfl ?_
    exact L_X4_twiceNamed_16 C L a1 x2 (0 : Int32) I h
  · have h := zif_f hc h
    refine z_iconst C (v := -1) (by decide) dX4_twiceNamed_6 ?_
    obtain rfl := Option.some.inj h
    exact z_iret C dX4_twiceNamed_7 .int rfl rfl rfl
theorem q_80 : (Cond.initialized "DeviceFind$Plan") ∈ lw_tbl := List.mem_of_getElem? (i := 80) (by decide +kernel)
theorem q_196 : (Cond.fieldLink "DeviceFind$Plan" (49 : Nat) "DeviceFind$Plan" "layers" "I") ∈ lw_tbl := List.mem_of_getElem? (i := 196) (by decide +kernel)
theorem q_200 : (Cond.fieldLink "DeviceFind$Plan" (53 : Nat) "DeviceFind$Plan" "wires" "I") ∈ lw_tbl := List.mem_of_getElem? (i := 200) (by decide +kernel)
theorem q_205 : (Cond.fieldLink "DeviceFind$Plan" (56 : Nat) "DeviceFind$Plan" "joins" "I") ∈ lw_tbl := List.mem_of_getElem? (i := 205) (by decide +kernel)
theorem q_209 : (Cond.fieldLink "DeviceFind$Plan" (59 : Nat) "DeviceFind$Plan" "kinds" "I") ∈ lw_tbl := List.mem_of_getElem? (i := 209) (by decide +kernel)
theorem q_546 : (Cond.code ({ cls := "DeviceFind$Plan", name := "clear", desc := "()V" } : Jvm.MethodName) prog_9_method_2_code (1 : Nat) (Option.none : Option Jvm.ClassFile.FieldType)) ∈ lw_tbl := List.mem_of_getElem? (i := 546) (by decide +kernel)
theorem yy_X7_clear : zY yX7_clear cX7_clear 1 none 0 := ⟨q_546, q_80, by decide +kernel, by decide +kernel, by decide +kernel⟩
noncomputable def f_X7_clear (P : Nat) (I : zI) : Option zI :=
  zlt (zu I P 12 (0 : Int32)) (fun I1 => zlt (zu I1 P 13 (0 : Int32)) (fun I2 => zlt (zu I2 P 14 (0 : Int32)) (fun I3 => zlt (zu I3 P 15 (0 : Int32)) (fun I4 => some I4))))
set_option maxHeartbeats 4000000 in
set_option maxRecDepth 100000 in
theorem c_X7_clear {r : zI} (hE : zE0 l s0 a0 d cy B0) {P : Nat} (hP : zpl P) (I : zI) (L : zL) (h : f_X7_clear P I = some r) : zM l s0 d cy B0 yX7_clear cX7_clear 1 none 0 0 [.ref (B0 + P)] zSH zKn bc bs I L (.inl none) zSH zKn bc bs r L := by
  refine z_meth yy_X7_clear hE (Nat.le_of_ble_eq_true rfl) (fun p e R s m args below meth c C => ?_)
  show zG p l e R s m args below meth c d cy B0 1 bc bs (zQ below s args d cy B0 bc bs (.inl none) zSH zKn bc bs r L) 0 [(0, .ref (B0 + P))] [] zSH zKn bc bs I L
  unfold f_X7_clear at h
  refine z_aload_n C rfl 0 rfl dX7_clear_0 ?_
  refine z_iconst C (v := 0) (by decide) dX7_clear_1 ?_
  refine z_puti C zc_7 dX7_clear_2 12 P (zpl_k hP) (zpl_lt hP) (by decide) rfl q_196 rfl rfl rfl ?_
  obtain ⟨I1, eI1, h⟩ := zlt_e h
  refine z_eqI C eI1 ?_
  refine z_aload_n C rfl 0 rfl dX7_clear_5 ?_
  refine z_iconst C (v := 0) (by decide) dX7_clear_6 ?_
  refine z_puti C zc_7 dX7_clear_7 13 P (zpl_k hP) (zpl_lt hP) (by decide) rfl q_200 rfl rfl rfl ?_
  obtain ⟨I2, eI2, h⟩ := zlt_e h
  refine z_eqI C eI2 ?_
  refine z_aload_n C rfl 0 rfl dX7_clear_10 ?_
  refine z_iconst C (v := 0) (by decide) dX7_clear_11 ?_
  refine z_puti C zc_7 dX7_clear_12 14 P (zpl_k hP) (zpl_lt hP) (by decide) rfl q_205 rfl rfl rfl ?_
  obtain ⟨I3, eI3, h⟩ := zlt_e h
  refine z_eqI C eI3 ?_
  refine z_aload_n C rfl 0 rfl dX7_clear_15 ?_
  refine z_iconst C (v := 0) (by decide) dX7_clear_16 ?_
  refine z_puti C zc_7 dX7_clear_17 15 P (zpl_k hP) (zpl_lt hP) (by decide) rfl q_209 rfl rfl rfl ?_
  obtain ⟨I4, eI4, h⟩ := zlt_e h
  refine z_eqI C eI4 ?_
  obtain rfl := Option.some.inj h
  exact z_vret C dX7_clear_20 rfl rfl
theorem q_170 : (Cond.fieldLink "DeviceFind$Plan" (9 : Nat) "DeviceFind$Plan" "layerNames" "[J") ∈ lw_tbl := List.mem_of_getElem? (i := 170) (by decide +kernel)
theorem q_171 : (Cond.fieldLink "DeviceFind$Plan" (15 : Nat) "DeviceFind$Plan" "layerWays" "[I") ∈ lw_tbl := List.mem_of_getElem? (i := 171) (by decide +kernel)
theorem q_173 : (Cond.fieldLink "DeviceFind$Plan" (19 : Nat) "DeviceFind$Plan" "layerSources" "[I") ∈ lw_tbl := List.mem_of_getElem? (i := 173) (by decide +kernel)
theorem q_175 : (Cond.fieldLink "DeviceFind$Plan" (22 : Nat) "DeviceFind$Plan" "layerSeconds" "[I") ∈ lw_tbl := List.mem_of_getElem? (i := 175) (by decide +kernel)
theorem q_635 : (Cond.code ({ cls := "DeviceFind$Plan", name := "addLayer", desc := "(JIII)V" } : Jvm.MethodName) prog_9_method_3_code (6 : Nat) (Option.none : Option Jvm.ClassFile.FieldType)) ∈ lw_tbl := List.mem_of_getElem? (i := 635) (by decide +kernel)
theorem yy_X7_addLayer : zY yX7_addLayer cX7_addLayer 6 none 4 := ⟨q_635, q_80, by decide +kernel, by decide +kernel, by decide +kernel⟩
noncomputable def f_X7_addLayer (P : Nat) (a1 : Int64) (a2 : Int32) (a3 : Int32) (a4 : Int32) (I : zI) (L : zL) : Option (zI × zL) :=
  zck (zbd (I P 12) 24) (zlt (zul L ((P + 1 + 0)) (I P 12).toNatClampNeg a1) (fun L2 => zck (zbd (I P 12) 24) (zlt (zu I ((P + 1 + 1)) (I P 12).toNatClampNeg a2) (fun I4 => zck (zbd (I4 P 12) 24) (zlt (zu I4 ((P + 1 + 2)) (I4 P 12).toNatClampNeg a3) (fun I6 => zck (zbd (I6 P 12) 24) (zlt (zu I6 ((P + 1 + 3)) (I6 P 12).toNatClampNeg a4) (fun I8 => zlt ((I8 P 12) + (1 : Int32)) (fun x9 => zlt (zu I8 P 12 x9) (fun I10 => some (I10, L2)))))))))))
set_option maxHeartbeats 4000000 in
set_option maxRecDepth 100000 in
theorem c_X7_addLayer {r : zI × zL} (hE : zE0 l s0 a0 d cy B0) {P : Nat} (hP : zpl P) (a1 : Int64) (a2 : Int32) (a3 : Int32) (a4 : Int32) (I : zI) (L : zL) (h : f_X7_addLayer P a1 a2 a3 a4 I L = some r) : zM l s0 d cy B0 yX7_addLayer cX7_addLayer 6 none 0 0 [.ref (B0 + P), .long a1, .int a2, .int a3, .int a4] zSH zKn bc bs I L (.inl none) zSH zKn bc bs r.1 r.2 := by
  refine z_meth yy_X7_addLayer hE (Nat.le_of_ble_eq_true rfl) (fun p e R s m args below meth c C => ?_)
  show zG p l e R s m args below meth c d cy B0 6 bc bs (zQ below s args d cy B0 bc bs (.inl none) zSH zKn bc bs r.1 r.2) 0 [(0, .ref (B0 + P)), (1, .long a1), (3, .int a2), (4, .int a3), (5, .int a4)] [] zSH zKn bc bs I L
  unfold f_X7_addLayer at h
  refine z_aload_n C rfl 0 rfl dX7_addLayer_0 ?_
  refine z_getr C zc_7 dX7_addLayer_1 0 P (P + 1 + 0) (zpl_k hP) (zpl_lt hP) (by decide) q_170 rfl (zpl_r hP 0 (by decide)) ?_
  refine z_aload_n C rfl 0 rfl dX7_addLayer_4 ?_
  refine z_geti C zc_7 dX7_addLayer_5 12 P (zpl_k hP) (zpl_lt hP) (by decide) q_196 rfl ?_
  refine z_lload_n C rfl 1 rfl dX7_addLayer_8 ?_
  obtain ⟨hb1, h⟩ := zck_e h
  refine z_lastore C dX7_addLayer_9 (zpl_ak hP 0 (by decide)) (zpl_an hP 0 (by decide)) (zpl_a hP 0 (by decide)) (zbd_in hb1) ?_
  obtain ⟨L2, eL2, h⟩ := zlt_e h
  refine z_eqL C eL2 ?_
  refine z_aload_n C rfl 0 rfl dX7_addLayer_10 ?_
  refine z_getr C zc_7 dX7_addLayer_11 1 P (P + 1 + 1) (zpl_k hP) (zpl_lt hP) (by decide) q_171 rfl (zpl_r hP 1 (by decide)) ?_
  refine z_aload_n C rfl 0 rfl dX7_addLayer_14 ?_
  refine z_geti C zc_7 dX7_addLayer_15 12 P (zpl_k hP) (zpl_lt hP) (by decide) q_196 rfl ?_
  refine z_iload_n C rfl 2 rfl dX7_addLayer_18 ?_
  obtain ⟨hb3, h⟩ := zck_e h
  refine z_iastore C dX7_addLayer_19 (zpl_ak hP 1 (by decide)) (zpl_an hP 1 (by decide)) (zpl_a hP 1 (by decide)) (zbd_in hb3) ?_
  obtain ⟨I4, eI4, h⟩ := zlt_e h
  refine z_eqI C eI4 ?_
  refine z_aload_n C rfl 0 rfl dX7_addLayer_20 ?_
  refine z_getr C zc_7 dX7_addLayer_21 2 P (P + 1 + 2) (zpl_k hP) (zpl_lt hP) (by decide) q_173 rfl (zpl_r hP 2 (by decide)) ?_
  refine z_aload_n C rfl 0 rfl dX7_addLayer_24 ?_
  refine z_geti C zc_7 dX7_addLayer_25 12 P (zpl_k hP) (zpl_lt hP) (by decide) q_196 rfl ?_
  refine z_iload C 3 rfl dX7_addLayer_28 ?_
  obtain ⟨hb5, h⟩ := zck_e h
  refine z_iastore C dX7_addLayer_30 (zpl_ak hP 2 (by decide)) (zpl_an hP 2 (by decide)) (zpl_a hP 2 (by decide)) (zbd_in hb5) ?_
  obtain ⟨I6, eI6, h⟩ := zlt_e h
  refine z_eqI C eI6 ?_
  refine z_aload_n C rfl 0 rfl dX7_addLayer_31 ?_
  refine z_getr C zc_7 dX7_addLayer_32 3 P (P + 1 + 3) (zpl_k hP) (zpl_lt hP) (by decide) q_175 rfl (zpl_r hP 3 (by decide)) ?_
  refine z_aload_n C rfl 0 rfl dX7_addLayer_35 ?_
  refine z_geti C zc_7 dX7_addLayer_36 12 P (zpl_k hP) (zpl_lt hP) (by decide) q_196 rfl ?_
  refine z_iload C 4 rfl dX7_addLayer_39 ?_
  obtain ⟨hb7, h⟩ := zck_e h
  refine z_iastore C dX7_addLayer_41 (zpl_ak hP 3 (by decide)) (zpl_an hP 3 (by decide)) (zpl_a hP 3 (by decide)) (zbd_in hb7) ?_
  obtain ⟨I8, eI8, h⟩ := zlt_e h
  refine z_eqI C eI8 ?_
  refine z_aload_n C rfl 0 rfl dX7_addLayer_42 ?_
  refine z_dup C rfl dX7_addLayer_43 ?_
  refine z_geti C zc_7 dX7_addLayer_44 12 P (zpl_k hP) (zpl_lt hP) (by decide) q_196 rfl ?_
  refine z_iconst C (v := 1) (by decide) dX7_addLayer_47 ?_
  refine z_iadd C dX7_addLayer_48 ?_
  obtain ⟨x9, ex9, h⟩ := zlt_e h
  refine z_eqi C ex9 ?_
  refine z_puti C zc_7 dX7_addLayer_49 12 P (zpl_k hP) (zpl_lt hP) (by decide) rfl q_196 rfl rfl rfl ?_
  obtain ⟨I10, eI10, h⟩ := zlt_e h
  refine z_eqI C eI10 ?_
  obtain rfl := Option.some.inj h
  exact z_vret C dX7_addLayer_52 rfl rfl
theorem q_177 : (Cond.fieldLink "DeviceFind$Plan" (25 : Nat) "DeviceFind$Plan" "wireLayers" "[I") ∈ lw_tbl := List.mem_of_getElem? (i := 177) (by decide +kernel)
theorem q_668 : (Cond.code ({ cls := "DeviceFind$Plan", name := "addWire", desc := "(I)V" } : Jvm.MethodName) prog_9_method_4_code (2 : Nat) (Option.none : Option Jvm.ClassFile.FieldType)) ∈ lw_tbl := List.mem_of_getElem? (i := 668) (by decide +kernel)
theorem yy_X7_addWire : zY yX7_addWire cX7_addWire 2 none 1 := ⟨q_668, q_80, by decide +kernel, by decide +kernel, by decide +kernel⟩
noncomputable def f_X7_addWire (P : Nat) (a1 : Int32) (I : zI) : Option zI :=
  zck (zbd (I P 13) 8) (zlt (zu I ((P + 1 + 4)) (I P 13).toNatClampNeg a1) (fun I2 => zlt ((I2 P 13) + (1 : Int32)) (fun x3 => zlt (zu I2 P 13 x3) (fun I4 => some I4))))
set_option maxHeartbeats 4000000 in
set_option maxRecDepth 100000 in
theorem c_X7_addWire {r : zI} (hE : zE0 l s0 a0 d cy B0) {P : Nat} (hP : zpl P) (a1 : Int32) (I : zI) (L : zL) (h : f_X7_addWire P a1 I = some r) : zM l s0 d cy B0 yX7_addWire cX7_addWire 2 none 0 0 [.ref (B0 + P), .int a1] zSH zKn bc bs I L (.inl none) zSH zKn bc bs r L := by
  refine z_meth yy_X7_addWire hE (Nat.le_of_ble_eq_true rfl) (fun p e R s m args below meth c C => ?_)
  show zG p l e R s m args below meth c d cy B0 2 bc bs (zQ below s args d cy B0 bc bs (.inl none) zSH zKn bc bs r L) 0 [(0, .ref (B0 + P)), (1, .int a1)] [] zSH zKn bc bs I L
  unfold f_X7_addWire at h
  refine z_aload_n C rfl 0 rfl dX7_addWire_0 ?_
  refine z_getr C zc_7 dX7_addWire_1 4 P (P + 1 + 4) (zpl_k hP) (zpl_lt hP) (by decide) q_177 rfl (zpl_r hP 4 (by decide)) ?_
  refine z_aload_n C rfl 0 rfl dX7_addWire_4 ?_
  refine z_geti C zc_7 dX7_addWire_5 13 P (zpl_k hP) (zpl_lt hP) (by decide) q_200 rfl ?_
  refine z_iload_n C rfl 1 rfl dX7_addWire_8 ?_
  obtain ⟨hb1, h⟩ := zck_e h
  refine z_iastore C dX7_addWire_9 (zpl_ak hP 4 (by decide)) (zpl_an hP 4 (by decide)) (zpl_a hP 4 (by decide)) (zbd_in hb1) ?_
  obtain ⟨I2, eI2, h⟩ := zlt_e h
  refine z_eqI C eI2 ?_
  refine z_aload_n C rfl 0 rfl dX7_addWire_10 ?_
  refine z_dup C rfl dX7_addWire_11 ?_
  refine z_geti C zc_7 dX7_addWire_12 13 P (zpl_k hP) (zpl_lt hP) (by decide) q_200 rfl ?_
  refine z_iconst C (v := 1) (by decide) dX7_addWire_15 ?_
  refine z_iadd C dX7_addWire_16 ?_
  obtain ⟨x3, ex3, h⟩ := zlt_e h
  refine z_eqi C ex3 ?_
  refine z_puti C zc_7 dX7_addWire_17 13 P (zpl_k hP) (zpl_lt hP) (by decide) rfl q_200 rfl rfl rfl ?_
  obtain ⟨I4, eI4, h⟩ := zlt_e h
  refine z_eqI C eI4 ?_
  obtain rfl := Option.some.inj h
  exact z_vret C dX7_addWire_20 rfl rfl
theorem q_180 : (Cond.fieldLink "DeviceFind$Plan" (28 : Nat) "DeviceFind$Plan" "joinFirsts" "[I") ∈ lw_tbl := List.mem_of_getElem? (i := 180) (by decide +kernel)
theorem q_182 : (Cond.fieldLink "DeviceFind$Plan" (31 : Nat) "DeviceFind$Plan" "joinSeconds" "[I") ∈ lw_tbl := List.mem_of_getElem? (i := 182) (by decide +kernel)
theorem q_184 : (Cond.fieldLink "DeviceFind$Plan" (34 : Nat) "DeviceFind$Plan" "joinLayers" "[I") ∈ lw_tbl := List.mem_of_getElem? (i := 184) (by decide +kernel)
theorem q_686 : (Cond.code ({ cls := "DeviceFind$Plan", name := "addJoin", desc := "(III)V" } : Jvm.MethodName) prog_9_method_5_code (4 : Nat) (Option.none : Option Jvm.ClassFile.FieldType)) ∈ lw_tbl := List.mem_of_getElem? (i := 686) (by decide +kernel)
theorem yy_X7_addJoin : zY yX7_addJoin cX7_addJoin 4 none 3 := ⟨q_686, q_80, by decide +kernel, by decide +kernel, by decide +kernel⟩
noncomputable def f_X7_addJoin (P : Nat) (a1 : Int32) (a2 : Int32) (a3 : Int32) (I : zI) : Option zI :=
  zck (zbd (I P 14) 16) (zlt (zu I ((P + 1 + 5)) (I P 14).toNatClampNeg a1) (fun I2 => zck (zbd (I2 P 14) 16) (zlt (zu I2 ((P + 1 + 6)) (I2 P 14).toNatClampNeg a2) (fun I4 => zck (zbd (I4 P 14) 16) (zlt (zu I4 ((P + 1 + 7)) (I4 P 14).toNatClampNeg a3) (fun I6 => zlt ((I6 P 14) + (1 : Int32)) (fun x7 => zlt (zu I6 P 14 x7) (fun I8 => some I8))))))))
set_option maxHeartbeats 4000000 in
set_option maxRecDepth 100000 in
theorem c_X7_addJoin {r : zI} (hE : zE0 l s0 a0 d cy B0) {P : Nat} (hP : zpl P) (a1 : Int32) (a2 : Int32) (a3 : Int32) (I : zI) (L : zL) (h : f_X7_addJoin P a1 a2 a3 I = some r) : zM l s0 d cy B0 yX7_addJoin cX7_addJoin 4 none 0 0 [.ref (B0 + P), .int a1, .int a2, .int a3] zSH zKn bc bs I L (.inl none) zSH zKn bc bs r L := by
  refine z_meth yy_X7_addJoin hE (Nat.le_of_ble_eq_true rfl) (fun p e R s m args below meth c C => ?_)
  show zG p l e R s m args below meth c d cy B0 4 bc bs (zQ below s args d cy B0 bc bs (.inl none) zSH zKn bc bs r L) 0 [(0, .ref (B0 + P)), (1, .int a1), (2, .int a2), (3, .int a3)] [] zSH zKn bc bs I L
  unfold f_X7_addJoin at h
  refine z_aload_n C rfl 0 rfl dX7_addJoin_0 ?_
  refine z_getr C zc_7 dX7_addJoin_1 5 P (P + 1 + 5) (zpl_k hP) (zpl_lt hP) (by decide) q_180 rfl (zpl_r hP 5 (by decide)) ?_
  refine z_aload_n C rfl 0 rfl dX7_addJoin_4 ?_
  refine z_geti C zc_7 dX7_addJoin_5 14 P (zpl_k hP) (zpl_lt hP) (by decide) q_205 rfl ?_
  refine z_iload_n C rfl 1 rfl dX7_addJoin_8 ?_
  obtain ⟨hb1, h⟩ := zck_e h
  refine z_iastore C dX7_addJoin_9 (zpl_ak hP 5 (by decide)) (zpl_an hP 5 (by decide)) (zpl_a hP 5 (by decide)) (zbd_in hb1) ?_
  obtain ⟨I2, eI2, h⟩ := zlt_e h
  refine z_eqI C eI2 ?_
  refine z_aload_n C rfl 0 rfl dX7_addJoin_10 ?_
  refine z_getr C zc_7 dX7_addJoin_11 6 P (P + 1 + 6) (zpl_k hP) (zpl_lt hP) (by decide) q_182 rfl (zpl_r hP 6 (by decide)) ?_
  refine z_aload_n C rfl 0 rfl dX7_addJoin_14 ?_
  refine z_geti C zc_7 dX7_addJoin_15 14 P (zpl_k hP) (zpl_lt hP) (by decide) q_205 rfl ?_
  refine z_iload_n C rfl 2 rfl dX7_addJoin_18 ?_
  obtain ⟨hb3, h⟩ := zck_e h
  refine z_iastore C dX7_addJoin_19 (zpl_ak hP 6 (by decide)) (zpl_an hP 6 (by decide)) (zpl_a hP 6 (by decide)) (zbd_in hb3) ?_
  obtain ⟨I4, eI4, h⟩ := zlt_e h
  refine z_eqI C eI4 ?_
  refine z_aload_n C rfl 0 rfl dX7_addJoin_20 ?_
  refine z_getr C zc_7 dX7_addJoin_21 7 P (P + 1 + 7) (zpl_k hP) (zpl_lt hP) (by decide) q_184 rfl (zpl_r hP 7 (by decide)) ?_
  refine z_aload_n C rfl 0 rfl dX7_addJoin_24 ?_
  refine z_geti C zc_7 dX7_addJoin_25 14 P (zpl_k hP) (zpl_lt hP) (by decide) q_205 rfl ?_
  refine z_iload_n C rfl 3 rfl dX7_addJoin_28 ?_
  obtain ⟨hb5, h⟩ := zck_e h
  refine z_iastore C dX7_addJoin_29 (zpl_ak hP 7 (by decide)) (zpl_an hP 7 (by decide)) (zpl_a hP 7 (by decide)) (zbd_in hb5) ?_
  obtain ⟨I6, eI6, h⟩ := zlt_e h
  refine z_eqI C eI6 ?_
  refine z_aload_n C rfl 0 rfl dX7_addJoin_30 ?_
  refine z_dup C rfl dX7_addJoin_31 ?_
  refine z_geti C zc_7 dX7_addJoin_32 14 P (zpl_k hP) (zpl_lt hP) (by decide) q_205 rfl ?_
  refine z_iconst C (v := 1) (by decide) dX7_addJoin_35 ?_
  refine z_iadd C dX7_addJoin_36 ?_
  obtain ⟨x7, ex7, h⟩ := zlt_e h
  refine z_eqi C ex7 ?_
  refine z_puti C zc_7 dX7_addJoin_37 14 P (zpl_k hP) (zpl_lt hP) (by decide) rfl q_205 rfl rfl rfl ?_
  obtain ⟨I8, eI8, h⟩ := zlt_e h
  refine z_eqI C eI8 ?_
  obtain rfl := Option.some.inj h
  exact z_vret C dX7_addJoin_40 rfl rfl
theorem q_186 : (Cond.fieldLink "DeviceFind$Plan" (37 : Nat) "DeviceFind$Plan" "kindNames" "[J") ∈ lw_tbl := List.mem_of_getElem? (i := 186) (by decide +kernel)
theorem q_187 : (Cond.fieldLink "DeviceFind$Plan" (40 : Nat) "DeviceFind$Plan" "kindLayers" "[I") ∈ lw_tbl := List.mem_of_getElem? (i := 187) (by decide +kernel)
theorem q_189 : (Cond.fieldLink "DeviceFind$Plan" (43 : Nat) "DeviceFind$Plan" "pinCounts" "[I") ∈ lw_tbl := List.mem_of_getElem? (i := 189) (by decide +kernel)
theorem q_708 : (Cond.code ({ cls := "DeviceFind$Plan", name := "addKind", desc := "(JII)V" } : Jvm.MethodName) prog_9_method_6_code (5 : Nat) (Option.none : Option Jvm.ClassFile.FieldType)) ∈ lw_tbl := List.mem_of_getElem? (i := 708) (by decide +kernel)
theorem yy_X7_addKind : zY yX7_addKind cX7_addKind 5 none 3 := ⟨q_708, q_80, by decide +kernel, by decide +kernel, by decide +kernel⟩
noncomputable def f_X7_addKind (P : Nat) (a1 : Int64) (a2 : Int32) (a3 : Int32) (I : zI) (L : zL) : Option (zI × zL) :=
  zck (zbd (I P 15) 8) (zlt (zul L ((P + 1 + 8)) (I P 15).toNatClampNeg a1) (fun L2 => zck (zbd (I P 15) 8) (zlt (zu I ((P + 1 + 9)) (I P 15).toNatClampNeg a2) (fun I4 => zck (zbd (I4 P 15) 8) (zlt (zu I4 ((P + 1 + 10)) (I4 P 15).toNatClampNeg a3) (fun I6 => zlt ((I6 P 15) + (1 : Int32)) (fun x7 => zlt (zu I6 P 15 x7) (fun I8 => some (I8, L2)))))))))
set_option maxHeartbeats 4000000 in
set_option maxRecDepth 100000 in
theorem c_X7_addKind {r : zI × zL} (hE : zE0 l s0 a0 d cy B0) {P : Nat} (hP : zpl P) (a1 : Int64) (a2 : Int32) (a3 : Int32) (I : zI) (L : zL) (h : f_X7_addKind P a1 a2 a3 I L = some r) : zM l s0 d cy B0 yX7_addKind cX7_addKind 5 none 0 0 [.ref (B0 + P), .long a1, .int a2, .int a3] zSH zKn bc bs I L (.inl none) zSH zKn bc bs r.1 r.2 := by
  refine z_meth yy_X7_addKind hE (Nat.le_of_ble_eq_true rfl) (fun p e R s m args below meth c C => ?_)
  show zG p l e R s m args below meth c d cy B0 5 bc bs (zQ below s args d cy B0 bc bs (.inl none) zSH zKn bc bs r.1 r.2) 0 [(0, .ref (B0 + P)), (1, .long a1), (3, .int a2), (4, .int a3)] [] zSH zKn bc bs I L
  unfold f_X7_addKind at h
  refine z_aload_n C rfl 0 rfl dX7_addKind_0 ?_
  refine z_getr C zc_7 dX7_addKind_1 8 P (P + 1 + 8) (zpl_k hP) (zpl_lt hP) (by decide) q_186 rfl (zpl_r hP 8 (by decide)) ?_
  refine z_aload_n C rfl 0 rfl dX7_addKind_4 ?_
  refine z_geti C zc_7 dX7_addKind_5 15 P (zpl_k hP) (zpl_lt hP) (by decide) q_209 rfl ?_
  refine z_lload_n C rfl 1 rfl dX7_addKind_8 ?_
  obtain ⟨hb1, h⟩ := zck_e h
  refine z_lastore C dX7_addKind_9 (zpl_ak hP 8 (by decide)) (zpl_an hP 8 (by decide)) (zpl_a hP 8 (by decide)) (zbd_in hb1) ?_
  obtain ⟨L2, eL2, h⟩ := zlt_e h
  refine z_eqL C eL2 ?_
  refine z_aload_n C rfl 0 rfl dX7_addKind_10 ?_
  refine z_getr C zc_7 dX7_addKind_11 9 P (P + 1 + 9) (zpl_k hP) (zpl_lt hP) (by decide) q_187 rfl (zpl_r hP 9 (by decide)) ?_
  refine z_aload_n C rfl 0 rfl dX7_addKind_14 ?_
  refine z_geti C zc_7 dX7_addKind_15 15 P (zpl_k hP) (zpl_lt hP) (by decide) q_209 rfl ?_
  refine z_iload_n C rfl 2 rfl dX7_addKind_18 ?_
  obtain ⟨hb3, h⟩ := zck_e h
  refine z_iastore C dX7_addKind_19 (zpl_ak hP 9 (by decide)) (zpl_an hP 9 (by decide)) (zpl_a hP 9 (by decide)) (zbd_in hb3) ?_
  obtain ⟨I4, eI4, h⟩ := zlt_e h
  refine z_eqI C eI4 ?_
  refine z_aload_n C rfl 0 rfl dX7_addKind_20 ?_
  refine z_getr C zc_7 dX7_addKind_21 10 P (P + 1 + 10) (zpl_k hP) (zpl_lt hP) (by decide) q_189 rfl (zpl_r hP 10 (by decide)) ?_
  refine z_aload_n C rfl 0 rfl dX7_addKind_24 ?_
  refine z_geti C zc_7 dX7_addKind_25 15 P (zpl_k hP) (zpl_lt hP) (by decide) q_209 rfl ?_
  refine z_iload C 3 rfl dX7_addKind_28 ?_
  obtain ⟨hb5, h⟩ := zck_e h
  refine z_iastore C dX7_addKind_30 (zpl_ak hP 10 (by decide)) (zpl_an hP 10 (by decide)) (zpl_a hP 10 (by decide)) (zbd_in hb5) ?_
  obtain ⟨I6, eI6, h⟩ := zlt_e h
  refine z_eqI C eI6 ?_
  refine z_aload_n C rfl 0 rfl dX7_addKind_31 ?_
  refine z_dup C rfl dX7_addKind_32 ?_
  refine z_geti C zc_7 dX7_addKind_33 15 P (zpl_k hP) (zpl_lt hP) (by decide) q_209 rfl ?_
  refine z_iconst C (v := 1) (by decide) dX7_addKind_36 ?_
  refine z_iadd C dX7_addKind_37 ?_
  obtain ⟨x7, ex7, h⟩ := zlt_e h
  refine z_eqi C ex7 ?_
  refine z_puti C zc_7 dX7_addKind_38 15 P (zpl_k hP) (zpl_lt hP) (by decide) rfl q_209 rfl rfl rfl ?_
  obtain ⟨I8, eI8, h⟩ := zlt_e h
  refine z_eqI C eI8 ?_
  obtain rfl := Option.some.inj h
  exact z_vret C dX7_addKind_41 rfl rfl
theorem q_622 : (Cond.code ({ cls := "DeviceFind$Plan", name := "layerNamed", desc := "(J)I" } : Jvm.MethodName) prog_9_method_7_code (4 : Nat) (Option.some Jvm.ClassFile.FieldType.int)) ∈ lw_tbl := List.mem_of_getElem? (i := 622) (by decide +kernel)
theorem yy_X7_layerNamed : zY yX7_layerNamed cX7_layerNamed 4 (some .int) 1 := ⟨q_622, q_80, by decide +kernel, by decide +kernel, by decide +kernel⟩
noncomputable def f_X7_layerNamed_2 (P : Nat) (k2 : Int64 → Int32 → zI → zL → Option Int32) (v1 : Int64) (v3 : Int32) (I : zI) (L : zL) : Option Int32 :=
  if (I P 12) ≤ v3 then (some (-1 : Int32)) else (zck (zbd v3 24) (if (L ((P + 1 + 0)) v3.toNatClampNeg) = v1 then (some v3) else (zlt (v3 + 1) (fun x2 => k2 v1 x2 I L))))
noncomputable def f_X7_layerNamed (P : Nat) (a1 : Int64) (I : zI) (L : zL) : Option Int32 :=
  zlp4 (f_X7_layerNamed_2 P) zF a1 (0 : Int32) I L
set_option maxHeartbeats 4000000 in
set_option maxRecDepth 100000 in
theorem l_X7_layerNamed_2 {r : Int32} (C : zC p l e R s m args below meth c s0 a0 d cy B0 yX7_layerNamed.cls cX7_layerNamed 4 (some .int) bc bs bc bs 0 0 []) {P : Nat} (hP : zpl P) (k2 : Int64 → Int32 → zI → zL → Option Int32) (hk2 : ∀ (v1 : Int64) (v3 : Int32) (I : zI) (L : zL), k2 v1 v3 I L = some r → zG p l e R s m args below meth c d cy B0 4 bc bs (zQ below s args d cy B0 bc bs (.inl (some (.int r))) zSH zKn bc bs I L) 2 [(0, .ref (B0 + P)), (1, .long v1), (3, .int v3)] [] zSH zKn bc bs I L) (v1 : Int64) (v3 : Int32) (I : zI) (L : zL) (h : f_X7_layerNamed_2 P k2 v1 v3 I L = some r) : zG p l e R s m args below meth c d cy B0 4 bc bs (zQ below s args d cy B0 bc bs (.inl (some (.int r))) zSH zKn bc bs I L) 2 [(0, .ref (B0 + P)), (1, .long v1), (3, .int v3)] [] zSH zKn bc bs I L := by
  unfold f_X7_layerNamed_2 at h
  refine z_iload_n C rfl 2 rfl dX7_layerNamed_2 ?_
  refine z_aload_n C rfl 0 rfl dX7_layerNamed_3 ?_
  refine z_geti C zc_7 dX7_layerNamed_4 12 P (zpl_k hP) (zpl_lt hP) (by decide) q_196 rfl ?_
  refine z_icmp_ge C 29 (by decide) dX7_layerNamed_7 (fun hc => ?_) (fun hc => ?_)
  · have h := zif_t hc h
    refine z_iconst C (v := -1) (by decide) dX7_layerNamed_29 ?_
    obtain rfl := Option.some.inj h
    exact z_iret C dX7_layerNamed_30 .int rfl rfl rfl
  · have h := zif_f hc h
    refine z_aload_n C rfl 0 rfl dX7_layerNamed_10 ?_
    refine z_getr C zc_7 dX7_layerNamed_11 0 P (P + 1 + 0) (zpl_k hP) (zpl_lt hP) (by decide) q_170 rfl (zpl_r hP 0 (by decide)) ?_
    refine z_iload_n C rfl 2 rfl dX7_layerNamed_14 ?_
    obtain ⟨hb1, h⟩ := zck_e h
    refine z_laload C dX7_layerNamed_15 (zpl_ak hP 0 (by decide)) (zpl_an hP 0 (by decide)) (zpl_a hP 0 (by decide)) (zbd_in hb1) ?_
    refine z_lload_n C rfl 1 rfl dX7_layerNamed_16 ?_
    refine z_lif_ne C 23 (by decide) dX7_layerNamed_17 dX7_layerNamed_18 (fun hc => ?_) (fun hc => ?_)
    · have h := zif_f hc h
      obtain ⟨x2, ex2, h⟩ := zlt_e h
      refine z_iinc C (j := 2) (v := x2) (lv' := [(3, .int x2), (0, .ref (B0 + P)), (1, .long v1)]) rfl (by rw [ex2]; rfl) (by decide) rfl dX7_layerNamed_23 ?_
      refine z_goto C 2 (by decide) dX7_layerNamed_26 ?_
      refine z_lv [1, 2, 0] (lv' := [(0, .ref (B0 + P)), (1, .long v1), (3, .int x2)]) rfl ?_
      exact hk2 v1 x2 I L h
    · have h := zif_t hc h
      refine z_iload_n C rfl 2 rfl dX7_layerNamed_21 ?_
      obtain rfl := Option.some.inj h
      exact z_iret C dX7_layerNamed_22 .int rfl rfl rfl
set_option maxHeartbeats 4000000 in
set_option maxRecDepth 100000 in
theorem L_X7_layerNamed_2 {r : Int32} (C : zC p l e R s m args below meth c s0 a0 d cy B0 yX7_layerNamed.cls cX7_layerNamed 4 (some .int) bc bs bc bs 0 0 []) {P : Nat} (hP : zpl P) (v1 : Int64) (v3 : Int32) (I : zI) (L : zL) (h : zlp4 (f_X7_layerNamed_2 P) zF v1 v3 I L = some r) : zG p l e R s m args below meth c d cy B0 4 bc bs (zQ below s args d cy B0 bc bs (.inl (some (.int r))) zSH zKn bc bs I L) 2 [(0, .ref (B0 + P)), (1, .long v1), (3, .int v3)] [] zSH zKn bc bs I L :=
 zlp4_e (fun (v1 : Int64) (v3 : Int32) (I : zI) (L : zL) => zG p l e R s m args below meth c d cy B0 4 bc bs (zQ below s args d cy B0 bc bs (.inl (some (.int r))) zSH zKn bc bs I L) 2 [(0, .ref (B0 + P)), (1, .long v1), (3, .int v3)] [] zSH zKn bc bs I L) (fun k9 hk9 v1 v3 I L h => l_X7_layerNamed_2 C hP k9 hk9 v1 v3 I L h) zF v1 v3 I L h
set_option maxHeartbeats 4000000 in
set_option maxRecDepth 100000 in
theorem c_X7_layerNamed {r : Int32} (hE : zE0 l s0 a0 d cy B0) {P : Nat} (hP : zpl P) (a1 : Int64) (I : zI) (L : zL) (h : f_X7_layerNamed P a1 I L = some r) : zM l s0 d cy B0 yX7_layerNamed cX7_layerNamed 4 (some .int) 0 0 [.ref (B0 + P), .long a1] zSH zKn bc bs I L (.inl (some (.int r))) zSH zKn bc bs I L := by
  refine z_meth yy_X7_layerNamed hE (Nat.le_of_ble_eq_true rfl) (fun p e R s m args below meth c C => ?_)
  show zG p l e R s m args below meth c d cy B0 4 bc bs (zQ below s args d cy B0 bc bs (.inl (some (.int r))) zSH zKn bc bs I L) 0 [(0, .ref (B0 + P)), (1, .long a1)] [] zSH zKn bc bs I L
  unfold f_X7_layerNamed at h
  refine z_iconst C (v := 0) (by decide) dX7_layerNamed_0 ?_
  refine z_istore_n C (lv' := [(3, .int (0 : Int32)), (0, .ref (B0 + P)), (1, .long a1)]) rfl (by decide) rfl dX7_layerNamed_1 ?_
  refine z_lv [1, 2, 0] (lv' := [(0, .ref (B0 + P)), (1, .long a1), (3, .int (0 : Int32))]) rfl ?_
  exact L_X7_layerNamed_2 C hP a1 (0 : Int32) I L h
theorem q_664 : (Cond.code ({ cls := "DeviceFind$Plan", name := "wireOf", desc := "(I)I" } : Jvm.MethodName) prog_9_method_8_code (3 : Nat) (Option.some Jvm.ClassFile.FieldType.int)) ∈ lw_tbl := List.mem_of_getElem? (i := 664) (by decide +kernel)
theorem yy_X7_wireOf : zY yX7_wireOf cX7_wireOf 3 (some .int) 1 := ⟨q_664, q_80, by decide +kernel, by decide +kernel, by decide +kernel⟩
noncomputable def f_X7_wireOf_2 (P : Nat) (k2 : Int32 → Int32 → zI → Option Int32) (v1 : Int32) (v2 : Int32) (I : zI) : Option Int32 :=
  if (I P 13) ≤ v2 then (some (-1 : Int32)) else (zck (zbd v2 8) (if (I ((P + 1 + 4)) v2.toNatClampNeg) = v1 then (some v2) else (zlt (v2 + 1) (fun x2 => k2 v1 x2 I))))
noncomputable def f_X7_wireOf (P : Nat) (a1 : Int32) (I : zI) : Option Int32 :=
  zlp3 (f_X7_wireOf_2 P) zF a1 (0 : Int32) I
set_option maxHeartbeats 4000000 in
set_option maxRecDepth 100000 in
theorem l_X7_wireOf_2 {r : Int32} (C : zC p l e R s m args below meth c s0 a0 d cy B0 yX7_wireOf.cls cX7_wireOf 3 (some .int) bc bs bc bs 0 0 []) {P : Nat} (hP : zpl P) (L : zL) (k2 : Int32 → Int32 → zI → Option Int32) (hk2 : ∀ (v1 : Int32) (v2 : Int32) (I : zI), k2 v1 v2 I = some r → zG p l e R s m args below meth c d cy B0 3 bc bs (zQ below s args d cy B0 bc bs (.inl (some (.int r))) zSH zKn bc bs I L) 2 [(0, .ref (B0 + P)), (1, .int v1), (2, .int v2)] [] zSH zKn bc bs I L) (v1 : Int32) (v2 : Int32) (I : zI) (h : f_X7_wireOf_2 P k2 v1 v2 I = some r) : zG p l e R s m args below meth c d cy B0 3 bc bs (zQ below s args d cy B0 bc bs (.inl (some (.int r))) zSH zKn bc bs I L) 2 [(0, .ref (B0 + P)), (1, .int v1), (2, .int v2)] [] zSH zKn bc bs I L := by
  unfold f_X7_wireOf_2 at h
  refine z_iload_n C rfl 2 rfl dX7_wireOf_2 ?_
  refine z_aload_n C rfl 0 rfl dX7_wireOf_3 ?_
  refine z_geti C zc_7 dX7_wireOf_4 13 P (zpl_k hP) (zpl_lt hP) (by decide) q_200 rfl ?_
  refine z_icmp_ge C 28 (by decide) dX7_wireOf_7 (fun hc => ?_) (fun hc => ?_)
  · have h := zif_t hc h
    refine z_iconst C (v := -1) (by decide) dX7_wireOf_28 ?_
    obtain rfl := Option.some.inj h
    exact z_iret C dX7_wireOf_29 .int rfl rfl rfl
  · have h := zif_f hc h
    refine z_aload_n C rfl 0 rfl dX7_wireOf_10 ?_
    refine z_getr C zc_7 dX7_wireOf_11 4 P (P + 1 + 4) (zpl_k hP) (zpl_lt hP) (by decide) q_177 rfl (zpl_r hP 4 (by decide)) ?_
    refine z_iload_n C rfl 2 rfl dX7_wireOf_14 ?_
    obtain ⟨hb1, h⟩ := zck_e h
    refine z_iaload C dX7_wireOf_15 (zpl_ak hP 4 (by decide)) (zpl_an hP 4 (by decide)) (zpl_a hP 4 (by decide)) (zbd_in hb1) ?_
    refine z_iload_n C rfl 1 rfl dX7_wireOf_16 ?_
    refine z_icmp_ne C 22 (by decide) dX7_wireOf_17 (fun hc => ?_) (fun hc => ?_)
    · have h := zif_f hc h
      obtain ⟨x2, ex2, h⟩ := zlt_e h
      refine z_iinc C (j := 2) (v := x2) (lv' := [(2, .int x2), (0, .ref (B0 + P)), (1, .int v1)]) rfl (by rw [ex2]; rfl) (by decide) rfl dX7_wireOf_22 ?_
      refine z_goto C 2 (by decide) dX7_wireOf_25 ?_
      refine z_lv [1, 2, 0] (lv' := [(0, .ref (B0 + P)), (1, .int v1), (2, .int x2)]) rfl ?_
      exact hk2 v1 x2 I h
    · have h := zif_t hc h
      refine z_iload_n C rfl 2 rfl dX7_wireOf_20 ?_
      obtain rfl := Option.some.inj h
      exact z_iret C dX7_wireOf_21 .int rfl rfl rfl
set_option maxHeartbeats 4000000 in
set_option maxRecDepth 100000 in
theorem L_X7_wireOf_2 {r : Int32} (C : zC p l e R s m args below meth c s0 a0 d cy B0 yX7_wireOf.cls cX7_wireOf 3 (some .int) bc bs bc bs 0 0 []) {P : Nat} (hP : zpl P) (L : zL) (v1 : Int32) (v2 : Int32) (I : zI) (h : zlp3 (f_X7_wireOf_2 P) zF v1 v2 I = some r) : zG p l e R s m args below meth c d cy B0 3 bc bs (zQ below s args d cy B0 bc bs (.inl (some (.int r))) zSH zKn bc bs I L) 2 [(0, .ref (B0 + P)), (1, .int v1), (2, .int v2)] [] zSH zKn bc bs I L :=
 zlp3_e (fun (v1 : Int32) (v2 : Int32) (I : zI) => zG p l e R s m args below meth c d cy B0 3 bc bs (zQ below s args d cy B0 bc bs (.inl (some (.int r))) zSH zKn bc bs I L) 2 [(0, .ref (B0 + P)), (1, .int v1), (2, .int v2)] [] zSH zKn bc bs I L) (fun k9 hk9 v1 v2 I h => l_X7_wireOf_2 C hP L k9 hk9 v1 v2 I h) zF v1 v2 I h
set_option maxHeartbeats 4000000 in
set_option maxRecDepth 100000 in
theorem c_X7_wireOf {r : Int32} (hE : zE0 l s0 a0 d cy B0) {P : Nat} (hP : zpl P) (a1 : Int32) (I : zI) (L : zL) (h : f_X7_wireOf P a1 I = some r) : zM l s0 d cy B0 yX7_wireOf cX7_wireOf 3 (some .int) 0 0 [.ref (B0 + P), .int a1] zSH zKn bc bs I L (.inl (some (.int r))) zSH zKn bc bs I L := by
  refine z_meth yy_X7_wireOf hE (Nat.le_of_ble_eq_true rfl) (fun p e R s m args below meth c C => ?_)
  show zG p l e R s m args below meth c d cy B0 3 bc bs (zQ below s args d cy B0 bc bs (.inl (some (.int r))) zSH zKn bc bs I L) 0 [(0, .ref (B0 + P)), (1, .int a1)] [] zSH zKn bc bs I L
  unfold f_X7_wireOf at h
  refine z_iconst C (v := 0) (by decide) dX7_wireOf_0 ?_
  refine z_istore_n C (lv' := [(2, .int (0 : Int32)), (0, .ref (B0 + P)), (1, .int a1)]) rfl (by decide) rfl dX7_wireOf_1 ?_
  refine z_lv [1, 2, 0] (lv' := [(0, .ref (B0 + P)), (1, .int a1), (2, .int (0 : Int32))]) rfl ?_
  exact L_X7_wireOf_2 C hP L a1 (0 : Int32) I h
theorem q_699 : (Cond.code ({ cls := "DeviceFind$Plan", name := "hasKind", desc := "(J)Z" } : Jvm.MethodName) prog_9_method_9_code (4 : Nat) (Option.some Jvm.ClassFile.FieldType.boolean)) ∈ lw_tbl := List.mem_of_getElem? (i := 699) (by decide +kernel)
theorem yy_X7_hasKind : zY yX7_hasKind cX7_hasKind 4 (some .boolean) 1 := ⟨q_699, q_80, by decide +kernel, by decide +kernel, by decide +kernel⟩
noncomputable def f_X7_hasKind_2 (P : Nat) (k2 : Int64 → Int32 → zI → zL → Option Int32) (v1 : Int64) (v3 : Int32) (I : zI) (L : zL) : Option Int32 :=
  if (I P 15) ≤ v3 then (some (0 : Int32)) else (zck (zbd v3 8) (if (L ((P + 1 + 8)) v3.toNatClampNeg) = v1 then (some (1 : Int32)) else (zlt (v3 + 1) (fun x2 => k2 v1 x2 I L))))
noncomputable def f_X7_hasKind (P : Nat) (a1 : Int64) (I : zI) (L : zL) : Option Int32 :=
  zlp4 (f_X7_hasKind_2 P) zF a1 (0 : Int32) I L
set_option maxHeartbeats 4000000 in
set_option maxRecDepth 100000 in
theorem l_X7_hasKind_2 {r : Int32} (C : zC p l e R s m args below meth c s0 a0 d cy B0 yX7_hasKind.cls cX7_hasKind 4 (some .boolean) bc bs bc bs 0 0 []) {P : Nat} (hP : zpl P) (k2 : Int64 → Int32 → zI → zL → Option Int32) (hk2 : ∀ (v1 : Int64) (v3 : Int32) (I : zI) (L : zL), k2 v1 v3 I L = some r → zG p l e R s m args below meth c d cy B0 4 bc bs (zQ below s args d cy B0 bc bs (.inl (some (.int r))) zSH zKn bc bs I L) 2 [(0, .ref (B0 + P)), (1, .long v1), (3, .int v3)] [] zSH zKn bc bs I L) (v1 : Int64) (v3 : Int32) (I : zI) (L : zL) (h : f_X7_hasKind_2 P k2 v1 v3 I L = some r) : zG p l e R s m args below meth c d cy B0 4 bc bs (zQ below s args d cy B0 bc bs (.inl (some (.int r))) zSH zKn bc bs I L) 2 [(0, .ref (B0 + P)), (1, .long v1), (3, .int v3)] [] zSH zKn bc bs I L := by
  unfold f_X7_hasKind_2 at h
  refine z_iload_n C rfl 2 rfl dX7_hasKind_2 ?_
  refine z_aload_n C rfl 0 rfl dX7_hasKind_3 ?_
  refine z_geti C zc_7 dX7_hasKind_4 15 P (zpl_k hP) (zpl_lt hP) (by decide) q_209 rfl ?_
  refine z_icmp_ge C 29 (by decide) dX7_hasKind_7 (fun hc => ?_) (fun hc => ?_)
  · have h := zif_t hc h
    refine z_iconst C (v := 0) (by decide) dX7_hasKind_29 ?_
    obtain rfl := Option.some.inj h
    exact z_iret C dX7_hasKind_30 .boolean rfl rfl rfl
  · have h := zif_f hc h
    refine z_aload_n C rfl 0 rfl dX7_hasKind_10 ?_
    refine z_getr C zc_7 dX7_hasKind_11 8 P (P + 1 + 8) (zpl_k hP) (zpl_lt hP) (by decide) q_186 rfl (zpl_r hP 8 (by decide)) ?_
    refine z_iload_n C rfl 2 rfl dX7_hasKind_14 ?_
    obtain ⟨hb1, h⟩ := zck_e h
    refine z_laload C dX7_hasKind_15 (zpl_ak hP 8 (by decide)) (zpl_an hP 8 (by decide)) (zpl_a hP 8 (by decide)) (zbd_in hb1) ?_
    refine z_lload_n C rfl 1 rfl dX7_hasKind_16 ?_
    refine z_lif_ne C 23 (by decide) dX7_hasKind_17 dX7_hasKind_18 (fun hc => ?_) (fun hc => ?_)
    · have h := zif_f hc h
      obtain ⟨x2, ex2, h⟩ := zlt_e h
      refine z_iinc C (j := 2) (v := x2) (lv' := [(3, .int x2), (0, .ref (B0 + P)), (1, .long v1)]) rfl (by rw [ex2]; rfl) (by decide) rfl dX7_hasKind_23 ?_
      refine z_goto C 2 (by decide) dX7_hasKind_26 ?_
      refine z_lv [1, 2, 0] (lv' := [(0, .ref (B0 + P)), (1, .long v1), (3, .int x2)]) rfl ?_
      exact hk2 v1 x2 I L h
    · have h := zif_t hc h
      refine z_iconst C (v := 1) (by decide) dX7_hasKind_21 ?_
      obtain rfl := Option.some.inj h
      exact z_iret C dX7_hasKind_22 .boolean rfl rfl rfl
set_option maxHeartbeats 4000000 in
set_option maxRecDepth 100000 in
theorem L_X7_hasKind_2 {r : Int32} (C : zC p l e R s m args below meth c s0 a0 d cy B0 yX7_hasKind.cls cX7_hasKind 4 (some .boolean) bc bs bc bs 0 0 []) {P : Nat} (hP : zpl P) (v1 : Int64) (v3 : Int32) (I : zI) (L : zL) (h : zlp4 (f_X7_hasKind_2 P) zF v1 v3 I L = some r) : zG p l e R s m args below meth c d cy B0 4 bc bs (zQ below s args d cy B0 bc bs (.inl (some (.int r))) zSH zKn bc bs I L) 2 [(0, .ref (B0 + P)), (1, .long v1), (3, .int v3)] [] zSH zKn bc bs I L :=
 zlp4_e (fun (v1 : Int64) (v3 : Int32) (I : zI) (L : zL) => zG p l e R s m args below meth c d cy B0 4 bc bs (zQ below s args d cy B0 bc bs (.inl (some (.int r))) zSH zKn bc bs I L) 2 [(0, .ref (B0 + P)), (1, .long v1), (3, .int v3)] [] zSH zKn bc bs I L) (fun k9 hk9 v1 v3 I L h => l_X7_hasKind_2 C hP k9 hk9 v1 v3 I L h) zF v1 v3 I L h
set_option maxHeartbeats 4000000 in
set_option maxRecDepth 100000 in
theorem c_X7_hasKind {r : Int32} (hE : zE0 l s0 a0 d cy B0) {P : Nat} (hP : zpl P) (a1 : Int64) (I : zI) (L : zL) (h : f_X7_hasKind P a1 I L = some r) : zM l s0 d cy B0 yX7_hasKind cX7_hasKind 4 (some .boolean) 0 0 [.ref (B0 + P), .long a1] zSH zKn bc bs I L (.inl (some (.int r))) zSH zKn bc bs I L := by
  refine z_meth yy_X7_hasKind hE (Nat.le_of_ble_eq_true rfl) (fun p e R s m args below meth c C => ?_)
  show zG p l e R s m args below meth c d cy B0 4 bc bs (zQ below s args d cy B0 bc bs (.inl (some (.int r))) zSH zKn bc bs I L) 0 [(0, .ref (B0 + P)), (1, .long a1)] [] zSH zKn bc bs I L
  unfold f_X7_hasKind at h
  refine z_iconst C (v := 0) (by decide) dX7_hasKind_0 ?_
  refine z_istore_n C (lv' := [(3, .int (0 : Int32)), (0, .ref (B0 + P)), (1, .long a1)]) rfl (by decide) rfl dX7_hasKind_1 ?_
  refine z_lv [1, 2, 0] (lv' := [(0, .ref (B0 + P)), (1, .long a1), (3, .int (0 : Int32))]) rfl ?_
  exact L_X7_hasKind_2 C hP a1 (0 : Int32) I L h
theorem q_78 : (Cond.initialized "DeviceFind$Reader") ∈ lw_tbl := List.mem_of_getElem? (i := 78) (by decide +kernel)
theorem q_249 : (Cond.fieldLink "DeviceFind$Reader" (29 : Nat) "DeviceFind$Reader" "plan" "LDeviceFind$Plan;") ∈ lw_tbl := List.mem_of_getElem? (i := 249) (by decide +kernel)
theorem q_712 : (Cond.code ({ cls := "DeviceFind$Reader", name := "exchange", desc := "(LDeviceFind$Plan;)LDeviceFind$Plan;" } : Jvm.MethodName) prog_10_method_2_code (3 : Nat) (Option.some (Jvm.ClassFile.FieldType.object "DeviceFind$Plan"))) ∈ lw_tbl := List.mem_of_getElem? (i := 712) (by decide +kernel)
theorem yy_X8_exchange : zY yX8_exchange cX8_exchange 3 (some (.object "DeviceFind$Plan")) 1 := ⟨q_712, q_78, by decide +kernel, by decide +kernel, by decide +kernel⟩
noncomputable def f_X8_exchange (P : Nat) (Q : Nat) (I : zI) : Option zI :=
  zck (decide (I 3 3 = nI (Q + 1))) (zlt (zu I 3 3 (nI (P + 1))) (fun I2 => some I2))
set_option maxHeartbeats 4000000 in
set_option maxRecDepth 100000 in
theorem c_X8_exchange {r : zI} (hE : zE0 l s0 a0 d cy B0) {P : Nat} (hP : zpl P) {Q : Nat} (hQ : zpl Q) (I : zI) (L : zL) (h : f_X8_exchange P Q I = some r) : zM l s0 d cy B0 yX8_exchange cX8_exchange 3 (some (.object "DeviceFind$Plan")) 0 0 [.ref (B0 + 3), .ref (B0 + P)] zSH zKn bc bs I L (.inl (some (.ref (B0 + Q)))) zSH zKn bc bs r L := by
  refine z_meth yy_X8_exchange hE (Nat.le_of_ble_eq_true rfl) (fun p e R s m args below meth c C => ?_)
  show zG p l e R s m args below meth c d cy B0 3 bc bs (zQ below s args d cy B0 bc bs (.inl (some (.ref (B0 + Q)))) zSH zKn bc bs r L) 0 [(0, .ref (B0 + 3)), (1, .ref (B0 + P))] [] zSH zKn bc bs I L
  unfold f_X8_exchange at h
  refine z_aload_n C rfl 0 rfl dX8_exchange_0 ?_
  obtain ⟨hb1, h⟩ := zck_e h
  refine z_getm C zc_8 dX8_exchange_1 3 3 Q rfl (by decide) (by decide) q_249 rfl (of_decide_eq_true hb1) (zpl_lt2 hQ) ?_
  refine z_astore_n C (lv' := [(2, .ref (B0 + Q)), (0, .ref (B0 + 3)), (1, .ref (B0 + P))]) rfl (by decide) rfl dX8_exchange_4 ?_
  refine z_aload_n C rfl 1 rfl dX8_exchange_5 ?_
  refine z_aload_n C rfl 2 rfl dX8_exchange_6 ?_
  refine z_putr C zc_8 dX8_exchange_7 3 3 rfl (by decide) (by decide) rfl q_249 (zpl_lt2 hP) rfl rfl rfl ?_
  obtain ⟨I2, eI2, h⟩ := zlt_e h
  refine z_eqI C eI2 ?_
  refine z_aload_n C rfl 0 rfl dX8_exchange_10 ?_
  obtain rfl := Option.some.inj h
  exact z_aret C dX8_exchange_11 _ rfl (Or.inl ⟨_, rfl⟩) rfl
theorem q_79 : (Cond.initialized "DeviceFind$Words") ∈ lw_tbl := List.mem_of_getElem? (i := 79) (by decide +kernel)
theorem q_534 : (Cond.code ({ cls := "DeviceFind$Words", name := "sortOf", desc := "(C)I" } : Jvm.MethodName) prog_12_method_4_code (1 : Nat) (Option.some Jvm.ClassFile.FieldType.int)) ∈ lw_tbl := List.mem_of_getElem? (i := 534) (by decide +kernel)
theorem yy_X10_sortOf : zY yX10_sortOf cX10_sortOf 1 (some .int) 1 := ⟨q_534, q_79, by decide +kernel, by decide +kernel, by decide +kernel⟩
noncomputable def f_X10_sortOf_45 (w0 : Int32) : Option Int32 :=
  some w0
noncomputable def f_X10_sortOf_40 : Option Int32 :=
  f_X10_sortOf_45 (4 : Int32)
noncomputable def f_X10_sortOf_28 (v0 : Int32) : Option Int32 :=
  if v0 = (32 : Int32) then (f_X10_sortOf_40 ) else (if v0 = (10 : Int32) then (f_X10_sortOf_40 ) else (f_X10_sortOf_45 (3 : Int32)))
noncomputable def f_X10_sortOf_14 (v0 : Int32) : Option Int32 :=
  if v0 < (48 : Int32) then (f_X10_sortOf_28 v0) else (if (57 : Int32) < v0 then (f_X10_sortOf_28 v0) else (some (2 : Int32)))
noncomputable def f_X10_sortOf (a0 : Int32) : Option Int32 :=
  if a0 < (97 : Int32) then (f_X10_sortOf_14 a0) else (if (122 : Int32) < a0 then (f_X10_sortOf_14 a0) else (some (1 : Int32)))
set_option maxHeartbeats 4000000 in
set_option maxRecDepth 100000 in
theorem l_X10_sortOf_45 {r : Int32} (C : zC p l e R s m args below meth c s0 a0 d cy B0 yX10_sortOf.cls cX10_sortOf 1 (some .int) bc bs bc bs 0 0 []) (I : zI) (L : zL) (w0 : Int32) (h : f_X10_sortOf_45 w0 = some r) : zG p l e R s m args below meth c d cy B0 1 bc bs (zQ below s args d cy B0 bc bs (.inl (some (.int r))) zSH zKn bc bs I L) 45 [] [.int w0] zSH zKn bc bs I L := by
  unfold f_X10_sortOf_45 at h
  obtain rfl := Option.some.inj h
  exact z_iret C dX10_sortOf_45 .int rfl rfl rfl
set_option maxHeartbeats 4000000 in
set_option maxRecDepth 100000 in
theorem l_X10_sortOf_40 {r : Int32} (C : zC p l e R s m args below meth c s0 a0 d cy B0 yX10_sortOf.cls cX10_sortOf 1 (some .int) bc bs bc bs 0 0 []) (I : zI) (L : zL) (h : f_X10_sortOf_40 = some r) : zG p l e R s m args below meth c d cy B0 1 bc bs (zQ below s args d cy B0 bc bs (.inl (some (.int r))) zSH zKn bc bs I L) 40 [] [] zSH zKn bc bs I L := by
  unfold f_X10_sortOf_40 at h
  refine z_iconst C (v := 4) (by decide) dX10_sortOf_40 ?_
  refine z_goto C 45 (by decide) dX10_sortOf_41 ?_
  exact l_X10_sortOf_45 C I L (4 : Int32) h
set_option maxHeartbeats 4000000 in
set_option maxRecDepth 100000 in
theorem l_X10_sortOf_28 {r : Int32} (C : zC p l e R s m args below meth c s0 a0 d cy B0 yX10_sortOf.cls cX10_sortOf 1 (some .int) bc bs bc bs 0 0 []) (I : zI) (L : zL) (v0 : Int32) (h : f_X10_sortOf_28 v0 = some r) : zG p l e R s m args below meth c d cy B0 1 bc bs (zQ below s args d cy B0 bc bs (.inl (some (.int r))) zSH zKn bc bs I L) 28 [(0, .int v0)] [] zSH zKn bc bs I L := by
  unfold f_X10_sortOf_28 at h
  refine z_iload_n C rfl 0 rfl dX10_sortOf_28 ?_
  refine z_bipush C (v := 32) (by decide) dX10_sortOf_29 ?_
  refine z_icmp_eq C 40 (by decide) dX10_sortOf_31 (fun hc => ?_) (fun hc => ?_)
  · have h := zif_t hc h
    refine z_lv [] (lv' := []) rfl ?_
    exact l_X10_sortOf_40 C I L  h
  · have h := zif_f hc h
    refine z_iload_n C rfl 0 rfl dX10_sortOf_34 ?_
    refine z_bipush C (v := 10) (by decide) dX10_sortOf_35 ?_
    refine z_icmp_ne C 44 (by decide) dX10_sortOf_37 (fun hc => ?_) (fun hc => ?_)
    · have h := zif_f hc h
      refine z_iconst C (v := 3) (by decide) dX10_sortOf_44 ?_
      refine z_lv [] (lv' := []) rfl ?_
      exact l_X10_sortOf_45 C I L (3 : Int32) h
    · have h := zif_t hc h
      refine z_lv [] (lv' := []) rfl ?_
      exact l_X10_sortOf_40 C I L  h
set_option maxHeartbeats 4000000 in
set_option maxRecDepth 100000 in
theorem l_X10_sortOf_14 {r : Int32} (C : zC p l e R s m args below meth c s0 a0 d cy B0 yX10_sortOf.cls cX10_sortOf 1 (some .int) bc bs bc bs 0 0 []) (I : zI) (L : zL) (v0 : Int32) (h : f_X10_sortOf_14 v0 = some r) : zG p l e R s m args below meth c d cy B0 1 bc bs (zQ below s args d cy B0 bc bs (.inl (some (.int r))) zSH zKn bc bs I L) 14 [(0, .int v0)] [] zSH zKn bc bs I L := by
  unfold f_X10_sortOf_14 at h
  refine z_iload_n C rfl 0 rfl dX10_sortOf_14 ?_
  refine z_bipush C (v := 48) (by decide) dX10_sortOf_15 ?_
  refine z_icmp_lt C 28 (by decide) dX10_sortOf_17 (fun hc => ?_) (fun hc => ?_)
  · have h := zif_t hc h
    exact l_X10_sortOf_28 C I L v0 h
  · have h := zif_f hc h
    refine z_iload_n C rfl 0 rfl dX10_sortOf_20 ?_
    refine z_bipush C (v := 57) (by decide) dX10_sortOf_21 ?_
    refine z_icmp_gt C 28 (by decide) dX10_sortOf_23 (fun hc => ?_) (fun hc => ?_)
    · have h := zif_t hc h
      exact l_X10_sortOf_28 C I L v0 h
    · have h := zif_f hc h
      refine z_iconst C (v := 2) (by decide) dX10_sortOf_26 ?_
      obtain rfl := Option.some.inj h
      exact z_iret C dX10_sortOf_27 .int rfl rfl rfl
set_option maxHeartbeats 4000000 in
set_option maxRecDepth 100000 in
theorem c_X10_sortOf {r : Int32} (hE : zE0 l s0 a0 d cy B0) (a0 : Int32) (I : zI) (L : zL) (h : f_X10_sortOf a0 = some r) : zM l s0 d cy B0 yX10_sortOf cX10_sortOf 1 (some .int) 0 0 [.int a0] zSH zKn bc bs I L (.inl (some (.int r))) zSH zKn bc bs I L := by
  refine z_meth yy_X10_sortOf hE (Nat.le_of_ble_eq_true rfl) (fun p e R s m args below meth c C => ?_)
  show zG p l e R s m args below meth c d cy B0 1 bc bs (zQ below s args d cy B0 bc bs (.inl (some (.int r))) zSH zKn bc bs I L) 0 [(0, .int a0)] [] zSH zKn bc bs I L
  unfold f_X10_sortOf at h
  refine z_iload_n C rfl 0 rfl dX10_sortOf_0 ?_
  refine z_bipush C (v := 97) (by decide) dX10_sortOf_1 ?_
  refine z_icmp_lt C 14 (by decide) dX10_sortOf_3 (fun hc => ?_) (fun hc => ?_)
  · have h := zif_t hc h
    exact l_X10_sortOf_14 C I L a0 h
  · have h := zif_f hc h
    refine z_iload_n C rfl 0 rfl dX10_sortOf_6 ?_
    refine z_bipush C (v := 122) (by decide) dX10_sortOf_7 ?_
    refine z_icmp_gt C 14 (by decide) dX10_sortOf_9 (fun hc => ?_) (fun hc => ?_)
    · have h := zif_t hc h
      exact l_X10_sortOf_14 C I L a0 h
    · have h := zif_f hc h
      refine z_iconst C (v := 1) (by decide) dX10_sortOf_12 ?_
      obtain rfl := Option.some.inj h
      exact z_iret C dX10_sortOf_13 .int rfl rfl rfl
end Zp05_06_walk
