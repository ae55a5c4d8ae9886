section Zp05_13_walk
variable {p : Program} {l : Launch} {e : Env} {R : Room} {s : State} {m : MethodId} {args : Array Value} {below : List Frame} {meth : Method} {c : Code} {s0 : State} {a0 : Array Value} {d : va_G} {cy : Nat → ClassId} {B0 : Nat} {bc bs : Nat}
theorem q_426 : (Cond.fieldLink "DeviceFind" (170 : Nat) "DeviceFind$Devices" "kinds" "[I") ∈ lw_tbl := List.mem_of_getElem? (i := 426) (by decide +kernel)
theorem q_428 : (Cond.fieldLink "DeviceFind" (172 : Nat) "DeviceFind$Devices" "shapes" "[I") ∈ lw_tbl := List.mem_of_getElem? (i := 428) (by decide +kernel)
theorem q_430 : (Cond.fieldLink "DeviceFind" (175 : Nat) "DeviceFind$Devices" "faults" "[I") ∈ lw_tbl := List.mem_of_getElem? (i := 430) (by decide +kernel)
theorem q_432 : (Cond.fieldLink "DeviceFind" (178 : Nat) "DeviceFind$Devices" "firsts" "[I") ∈ lw_tbl := List.mem_of_getElem? (i := 432) (by decide +kernel)
theorem q_1077 : (Cond.code ({ cls := "DeviceFind", name := "device", desc := "(II)I" } : Jvm.MethodName) prog_1_method_9_code (3 : Nat) (Option.some Jvm.ClassFile.FieldType.int)) ∈ lw_tbl := List.mem_of_getElem? (i := 1077) (by decide +kernel)
theorem q_1078 : (Cond.methodLink "DeviceFind" (181 : Nat) ({ cls := "DeviceFind", name := "columnOf", desc := "(I)I" } : Jvm.MethodName)) ∈ lw_tbl := List.mem_of_getElem? (i := 1078) (by decide +kernel)
theorem q_1079 : (Cond.methodLink "DeviceFind" (184 : Nat) ({ cls := "DeviceFind", name := "rowOf", desc := "(I)I" } : Jvm.MethodName)) ∈ lw_tbl := List.mem_of_getElem? (i := 1079) (by decide +kernel)
theorem yy_X11_device : zY yX11_device cX11_device 3 (some .int) 2 := ⟨q_1077, q_75, by decide +kernel, by decide +kernel, by decide +kernel⟩
noncomputable def f_X11_device (a1 : Int32) (a2 : Int32) (I : zI) : Option ((Int32 ⊕ Nat)) :=
  zb1 (f_X11_mustBeBelow a2 (5 : Int32)) (fun x2 => zsm x2 (fun x3 => zb1 (f_X11_mustBeTrue (I 0 10)) (fun x6 => zsm x6 (fun x7 => zb1 (f_X11_mustBeBelow a1 (I 73 7)) (fun x10 => zsm x10 (fun x11 => if a2 = (0 : Int32) then (zck (zbd a1 300) (zlt (I 77 a1.toNatClampNeg) (fun x14 => some (.inl x14)))) else (if a2 = (1 : Int32) then (zck (zbd a1 300) (zlt (I 78 a1.toNatClampNeg) (fun x16 => some (.inl x16)))) else (if a2 = (2 : Int32) then (zck (zbd a1 300) (zlt (I 79 a1.toNatClampNeg) (fun x18 => some (.inl x18)))) else (if a2 = (3 : Int32) then (zck (zbd a1 300) (zb1 (f_X11_columnOf (I 80 a1.toNatClampNeg)) (fun x21 => some (.inl x21)))) else (zck (zbd a1 300) (zb1 (f_X11_rowOf (I 80 a1.toNatClampNeg)) (fun x24 => some (.inl x24)))))))) (fun k12 => some (.inr k12)))) (fun k8 => some (.inr k8)))) (fun k4 => some (.inr k4)))
set_option maxHeartbeats 4000000 in
set_option maxRecDepth 100000 in
theorem c_X11_device {r : (Int32 ⊕ Nat)} (hE : zE0 l s0 a0 d cy B0) (a1 : Int32) (a2 : Int32) (I : zI) (L : zL) (h : f_X11_device a1 a2 I = some r) : zM l s0 d cy B0 yX11_device cX11_device 3 (some .int) 7 110 [.ref (B0 + 0), .int a1, .int a2] zSH zKn bc bs I L (zri r) zSH zKn (zfc r bc) (zfs r bs) I L := by
  refine z_meth yy_X11_device hE (Nat.le_of_ble_eq_true rfl) (fun p e R s m args below meth c C => ?_)
  show zG p l e R s m args below meth c d cy B0 3 bc bs (zQ below s args d cy B0 bc bs (zri r) zSH zKn (zfc r bc) (zfs r bs) I L) 0 [(0, .ref (B0 + 0)), (1, .int a1), (2, .int a2)] [] zSH zKn bc bs I L
  unfold f_X11_device at h
  refine z_iload_n C rfl 2 rfl dX11_device_0 ?_
  refine z_iconst C (v := 5) (by decide) dX11_device_1 ?_
  obtain ⟨x2, hg1, h⟩ := zb1_e h
  rcases x2 with x3 | k4
  · have h := zsm_l h
    refine z_callS C dX11_device_2 yy_X11_mustBeBelow (cn_X11_mustBeBelow C.2.2.2.2.1  a2 (5 : Int32) I L hg1) q_726 q_727 (by decide) (by decide) rfl rfl (Nat.le_of_ble_eq_true rfl) ⟨Nat.le_refl _, zfc_le _ _, Nat.le_refl _, zfs_le _ _⟩ ?_
    refine z_aload_n C rfl 0 rfl dX11_device_5 ?_
    refine z_geti C zc_11 dX11_device_6 10 0 rfl (by decide) (by decide) q_479 rfl ?_
    obtain ⟨x6, hg5, h⟩ := zb1_e h
    rcases x6 with x7 | k8
    · have h := zsm_l h
      refine z_callS C dX11_device_9 yy_X11_mustBeTrue (cn_X11_mustBeTrue C.2.2.2.2.1  (I 0 10) I L hg5) q_793 q_794 (by decide) (by decide) rfl rfl (Nat.le_of_ble_eq_true rfl) ⟨Nat.le_refl _, zfc_le _ _, Nat.le_refl _, zfs_le _ _⟩ ?_
      refine z_iload_n C rfl 1 rfl dX11_device_12 ?_
      refine z_aload_n C rfl 0 rfl dX11_device_13 ?_
      refine z_getr C zc_11 dX11_device_14 7 0 73 rfl (by decide) (by decide) q_476 rfl rfl ?_
      refine z_geti C zc_0 dX11_device_17 7 73 rfl (by decide) (by decide) q_440 rfl ?_
      obtain ⟨x10, hg9, h⟩ := zb1_e h
      rcases x10 with x11 | k12
      · have h := zsm_l h
        refine z_callS C dX11_device_20 yy_X11_mustBeBelow (cn_X11_mustBeBelow C.2.2.2.2.1  a1 (I 73 7) I L hg9) q_726 q_727 (by decide) (by decide) rfl rfl (Nat.le_of_ble_eq_true rfl) ⟨Nat.le_refl _, zfc_le _ _, Nat.le_refl _, zfs_le _ _⟩ ?_
        refine z_iload_n C rfl 2 rfl dX11_device_23 ?_
        by_cases hc0 : a2 = (0 : Int32)
        · have h := zif_t hc0 h
          refine z_tableIn C 56 (by rw [hc0]; decide) (by rw [hc0]; decide) (by rw [hc0]; rfl) (by decide) dX11_device_24 ?_
          refine z_aload_n C rfl 0 rfl dX11_device_56 ?_
          refine z_getr C zc_11 dX11_device_57 7 0 73 rfl (by decide) (by decide) q_476 rfl rfl ?_
          refine z_getr C zc_0 dX11_device_60 0 73 77 rfl (by decide) (by decide) q_426 rfl rfl ?_
          refine z_iload_n C rfl 1 rfl dX11_device_63 ?_
          obtain ⟨hb13, h⟩ := zck_e h
          refine z_iaload C dX11_device_64 rfl rfl (by decide) (zbd_in hb13) ?_
          obtain ⟨x14, ex14, h⟩ := zlt_e h
          refine z_eqi C ex14 ?_
          obtain rfl := Option.some.inj h
          exact z_iret C dX11_device_65 .int rfl rfl rfl
        · have h := zif_f hc0 h
          by_cases hc1 : a2 = (1 : Int32)
          · have h := zif_t hc1 h
            refine z_tableIn C 66 (by rw [hc1]; decide) (by rw [hc1]; decide) (by rw [hc1]; rfl) (by decide) dX11_device_24 ?_
            refine z_aload_n C rfl 0 rfl dX11_device_66 ?_
            refine z_getr C zc_11 dX11_device_67 7 0 73 rfl (by decide) (by decide) q_476 rfl rfl ?_
            refine z_getr C zc_0 dX11_device_70 1 73 78 rfl (by decide) (by decide) q_428 rfl rfl ?_
            refine z_iload_n C rfl 1 rfl dX11_device_73 ?_
            obtain ⟨hb15, h⟩ := zck_e h
            refine z_iaload C dX11_device_74 rfl rfl (by decide) (zbd_in hb15) ?_
            obtain ⟨x16, ex16, h⟩ := zlt_e h
            refine z_eqi C ex16 ?_
            obtain rfl := Option.some.inj h
            exact z_iret C dX11_device_75 .int rfl rfl rfl
          · have h := zif_f hc1 h
            by_cases hc2 : a2 = (2 : Int32)
            · have h := zif_t hc2 h
              refine z_tableIn C 76 (by rw [hc2]; decide) (by rw [hc2]; decide) (by rw [hc2]; rfl) (by decide) dX11_device_24 ?_
              refine z_aload_n C rfl 0 rfl dX11_device_76 ?_
              refine z_getr C zc_11 dX11_device_77 7 0 73 rfl (by decide) (by decide) q_476 rfl rfl ?_
              refine z_getr C zc_0 dX11_device_80 2 73 79 rfl (by decide) (by decide) q_430 rfl rfl ?_
              refine z_iload_n C rfl 1 rfl dX11_device_83 ?_
              obtain ⟨hb17, h⟩ := zck_e h
              refine z_iaload C dX11_device_84 rfl rfl (by decide) (zbd_in hb17) ?_
              obtain ⟨x18, ex18, h⟩ := zlt_e h
              refine z_eqi C ex18 ?_
              obtain rfl := Option.some.inj h
              exact z_iret C dX11_device_85 .int rfl rfl rfl
            · have h := zif_f hc2 h
              by_cases hc3 : a2 = (3 : Int32)
              · have h := zif_t hc3 h
                refine z_tableIn C 86 (by rw [hc3]; decide) (by rw [hc3]; decide) (by rw [hc3]; rfl) (by decide) dX11_device_24 ?_
                refine z_aload_n C rfl 0 rfl dX11_device_86 ?_
                refine z_getr C zc_11 dX11_device_87 7 0 73 rfl (by decide) (by decide) q_476 rfl rfl ?_
                refine z_getr C zc_0 dX11_device_90 3 73 80 rfl (by decide) (by decide) q_432 rfl rfl ?_
                refine z_iload_n C rfl 1 rfl dX11_device_93 ?_
                obtain ⟨hb19, h⟩ := zck_e h
                refine z_iaload C dX11_device_94 rfl rfl (by decide) (zbd_in hb19) ?_
                obtain ⟨x21, hg20, h⟩ := zb1_e h
                refine z_callS C dX11_device_95 yy_X11_columnOf (c_X11_columnOf C.2.2.2.2.1  (I 80 a1.toNatClampNeg) I L hg20) q_1078 q_949 (by decide) (by decide) rfl rfl (Nat.le_of_ble_eq_true rfl) ⟨Nat.le_refl _, zfc_le _ _, Nat.le_refl _, zfs_le _ _⟩ ?_
                obtain rfl := Option.some.inj h
                exact z_iret C dX11_device_98 .int rfl rfl rfl
              · have h := zif_f hc3 h
                refine z_tableOut C 99 (z_sw (n := 4) (by decide) (fun k hk => by match k, hk with | 0, _ => exact hc0 | 1, _ => exact hc1 | 2, _ => exact hc2 | 3, _ => exact hc3)) (by decide) dX11_device_24 ?_
                refine z_aload_n C rfl 0 rfl dX11_device_99 ?_
                refine z_getr C zc_11 dX11_device_100 7 0 73 rfl (by decide) (by decide) q_476 rfl rfl ?_
                refine z_getr C zc_0 dX11_device_103 3 73 80 rfl (by decide) (by decide) q_432 rfl rfl ?_
                refine z_iload_n C rfl 1 rfl dX11_device_106 ?_
                obtain ⟨hb22, h⟩ := zck_e h
                refine z_iaload C dX11_device_107 rfl rfl (by decide) (zbd_in hb22) ?_
                obtain ⟨x24, hg23, h⟩ := zb1_e h
                refine z_callS C dX11_device_108 yy_X11_rowOf (c_X11_rowOf C.2.2.2.2.1  (I 80 a1.toNatClampNeg) I L hg23) q_1079 q_952 (by decide) (by decide) rfl rfl (Nat.le_of_ble_eq_true rfl) ⟨Nat.le_refl _, zfc_le _ _, Nat.le_refl _, zfs_le _ _⟩ ?_
                obtain rfl := Option.some.inj h
                exact z_iret C dX11_device_111 .int rfl rfl rfl
      · have h := zsm_r h
        obtain rfl := Option.some.inj h
        exact z_callSX C dX11_device_20 yy_X11_mustBeBelow (cx_X11_mustBeBelow C.2.2.2.2.1  a1 (I 73 7) I L hg9) q_726 q_727 (by decide) (by decide) rfl rfl (Nat.le_of_ble_eq_true rfl) ⟨Nat.le_succ _, Nat.le_refl _, Nat.le_add_right _ _, Nat.le_refl _⟩ rfl rfl
    · have h := zsm_r h
      obtain rfl := Option.some.inj h
      exact z_callSX C dX11_device_9 yy_X11_mustBeTrue (cx_X11_mustBeTrue C.2.2.2.2.1  (I 0 10) I L hg5) q_793 q_794 (by decide) (by decide) rfl rfl (Nat.le_of_ble_eq_true rfl) ⟨Nat.le_succ _, Nat.le_refl _, Nat.le_add_right _ _, Nat.le_refl _⟩ rfl rfl
  · have h := zsm_r h
    obtain rfl := Option.some.inj h
    exact z_callSX C dX11_device_2 yy_X11_mustBeBelow (cx_X11_mustBeBelow C.2.2.2.2.1  a2 (5 : Int32) I L hg1) q_726 q_727 (by decide) (by decide) rfl rfl (Nat.le_of_ble_eq_true rfl) ⟨Nat.le_succ _, Nat.le_refl _, Nat.le_add_right _ _, Nat.le_refl _⟩ rfl rfl
set_option maxHeartbeats 4000000 in
set_option maxRecDepth 100000 in
theorem cn_X11_device {v9 : Int32} (hE : zE0 l s0 a0 d cy B0) (a1 : Int32) (a2 : Int32) (I : zI) (L : zL) (h : f_X11_device a1 a2 I = some (.inl v9)) : zM l s0 d cy B0 yX11_device cX11_device 3 (some .int) 7 110 [.ref (B0 + 0), .int a1, .int a2] zSH zKn bc bs I L (.inl (some (.int v9))) zSH zKn bc bs I L := c_X11_device (r := (.inl v9)) hE a1 a2 I L h
set_option maxHeartbeats 4000000 in
set_option maxRecDepth 100000 in
theorem cx_X11_device {k9 : Nat} (hE : zE0 l s0 a0 d cy B0) (a1 : Int32) (a2 : Int32) (I : zI) (L : zL) (h : f_X11_device a1 a2 I = some (.inr k9)) : zM l s0 d cy B0 yX11_device cX11_device 3 (some .int) 7 110 [.ref (B0 + 0), .int a1, .int a2] zSH zKn bc bs I L (.inr (zex k9)) zSH zKn (bc + 1) (bs + 6) I L := c_X11_device (r := (.inr k9)) hE a1 a2 I L h
theorem q_434 : (Cond.fieldLink "DeviceFind" (187 : Nat) "DeviceFind$Devices" "sizes" "[I") ∈ lw_tbl := List.mem_of_getElem? (i := 434) (by decide +kernel)
theorem q_1086 : (Cond.code ({ cls := "DeviceFind", name := "size", desc := "(II)J" } : Jvm.MethodName) prog_1_method_10_code (3 : Nat) (Option.some Jvm.ClassFile.FieldType.long)) ∈ lw_tbl := List.mem_of_getElem? (i := 1086) (by decide +kernel)
theorem yy_X11_size : zY yX11_size cX11_size 3 (some .long) 2 := ⟨q_1086, q_75, by decide +kernel, by decide +kernel, by decide +kernel⟩
noncomputable def f_X11_size (a1 : Int32) (a2 : Int32) (I : zI) : Option ((Int64 ⊕ Nat)) :=
  zb1 (f_X11_mustBeBelow a2 (3 : Int32)) (fun x2 => zsm x2 (fun x3 => zb1 (f_X11_mustBeTrue (I 0 10)) (fun x6 => zsm x6 (fun x7 => zb1 (f_X11_mustBeBelow a1 (I 73 7)) (fun x10 => zsm x10 (fun x11 => zlt ((a1 * (3 : Int32)) + a2) (fun x13 => zck (zbd x13 900) (zlt ((I 81 x13.toNatClampNeg).toInt64) (fun x15 => some (.inl x15))))) (fun k12 => some (.inr k12)))) (fun k8 => some (.inr k8)))) (fun k4 => some (.inr k4)))
set_option maxHeartbeats 4000000 in
set_option maxRecDepth 100000 in
theorem c_X11_size {r : (Int64 ⊕ Nat)} (hE : zE0 l s0 a0 d cy B0) (a1 : Int32) (a2 : Int32) (I : zI) (L : zL) (h : f_X11_size a1 a2 I = some r) : zM l s0 d cy B0 yX11_size cX11_size 3 (some .long) 7 110 [.ref (B0 + 0), .int a1, .int a2] zSH zKn bc bs I L (zrl r) zSH zKn (zfc r bc) (zfs r bs) I L := by
  refine z_meth yy_X11_size hE (Nat.le_of_ble_eq_true rfl) (fun p e R s m args below meth c C => ?_)
  show zG p l e R s m args below meth c d cy B0 3 bc bs (zQ below s args d cy B0 bc bs (zrl r) zSH zKn (zfc r bc) (zfs r bs) I L) 0 [(0, .ref (B0 + 0)), (1, .int a1), (2, .int a2)] [] zSH zKn bc bs I L
  unfold f_X11_size at h
  refine z_iload_n C rfl 2 rfl dX11_size_0 ?_
  refine z_iconst C (v := 3) (by decide) dX11_size_1 ?_
  obtain ⟨x2, hg1, h⟩ := zb1_e h
  rcases x2 with x3 | k4
  · have h := zsm_l h
    refine z_callS C dX11_size_2 yy_X11_mustBeBelow (cn_X11_mustBeBelow C.2.2.2.2.1  a2 (3 : Int32) I L hg1) q_726 q_727 (by decide) (by decide) rfl rfl (Nat.le_of_ble_eq_true rfl) ⟨Nat.le_refl _, zfc_le _ _, Nat.le_refl _, zfs_le _ _⟩ ?_
    refine z_aload_n C rfl 0 rfl dX11_size_5 ?_
    refine z_geti C zc_11 dX11_size_6 10 0 rfl (by decide) (by decide) q_479 rfl ?_
    obtain ⟨x6, hg5, h⟩ := zb1_e h
    rcases x6 with x7 | k8
    · have h := zsm_l h
      refine z_callS C dX11_size_9 yy_X11_mustBeTrue (cn_X11_mustBeTrue C.2.2.2.2.1  (I 0 10) I L hg5) q_793 q_794 (by decide) (by decide) rfl rfl (Nat.le_of_ble_eq_true rfl) ⟨Nat.le_refl _, zfc_le _ _, Nat.le_refl _, zfs_le _ _⟩ ?_
      refine z_iload_n C rfl 1 rfl dX11_size_12 ?_
      refine z_aload_n C rfl 0 rfl dX11_size_13 ?_
      refine z_getr C zc_11 dX11_size_14 7 0 73 rfl (by decide) (by decide) q_476 rfl rfl ?_
      refine z_geti C zc_0 dX11_size_17 7 73 rfl (by decide) (by decide) q_440 rfl ?_
      obtain ⟨x10, hg9, h⟩ := zb1_e h
      rcases x10 with x11 | k12
      · have h := zsm_l h
        refine z_callS C dX11_size_20 yy_X11_mustBeBelow (cn_X11_mustBeBelow C.2.2.2.2.1  a1 (I 73 7) I L hg9) q_726 q_727 (by decide) (by decide) rfl rfl (Nat.le_of_ble_eq_true rfl) ⟨Nat.le_refl _, zfc_le _ _, Nat.le_refl _, zfs_le _ _⟩ ?_
        refine z_aload_n C rfl 0 rfl dX11_size_23 ?_
        refine z_getr C zc_11 dX11_size_24 7 0 73 rfl (by decide) (by decide) q_476 rfl rfl ?_
        refine z_getr C zc_0 dX11_size_27 4 73 81 rfl (by decide) (by decide) q_434 rfl rfl ?_
        refine z_iload_n C rfl 1 rfl dX11_size_30 ?_
        refine z_iconst C (v := 3) (by decide) dX11_size_31 ?_
        refine z_imul C dX11_size_32 ?_
        refine z_iload_n C rfl 2 rfl dX11_size_33 ?_
        refine z_iadd C dX11_size_34 ?_
        obtain ⟨x13, ex13, h⟩ := zlt_e h
        refine z_eqi C ex13 ?_
        obtain ⟨hb14, h⟩ := zck_e h
        refine z_iaload C dX11_size_35 rfl rfl (by decide) (zbd_in hb14) ?_
        refine z_i2l C dX11_size_36 ?_
        obtain ⟨x15, ex15, h⟩ := zlt_e h
        refine z_eql C ex15 ?_
        obtain rfl := Option.some.inj h
        exact z_lret C dX11_size_37 rfl rfl
      · have h := zsm_r h
        obtain rfl := Option.some.inj h
        exact z_callSX C dX11_size_20 yy_X11_mustBeBelow (cx_X11_mustBeBelow C.2.2.2.2.1  a1 (I 73 7) I L hg9) q_726 q_727 (by decide) (by decide) rfl rfl (Nat.le_of_ble_eq_true rfl) ⟨Nat.le_succ _, Nat.le_refl _, Nat.le_add_right _ _, Nat.le_refl _⟩ rfl rfl
    · have h := zsm_r h
      obtain rfl := Option.some.inj h
      exact z_callSX C dX11_size_9 yy_X11_mustBeTrue (cx_X11_mustBeTrue C.2.2.2.2.1  (I 0 10) I L hg5) q_793 q_794 (by decide) (by decide) rfl rfl (Nat.le_of_ble_eq_true rfl) ⟨Nat.le_succ _, Nat.le_refl _, Nat.le_add_right _ _, Nat.le_refl _⟩ rfl rfl
  · have h := zsm_r h
    obtain rfl := Option.some.inj h
    exact z_callSX C dX11_size_2 yy_X11_mustBeBelow (cx_X11_mustBeBelow C.2.2.2.2.1  a2 (3 : Int32) I L hg1) q_726 q_727 (by decide) (by decide) rfl rfl (Nat.le_of_ble_eq_true rfl) ⟨Nat.le_succ _, Nat.le_refl _, Nat.le_add_right _ _, Nat.le_refl _⟩ rfl rfl
set_option maxHeartbeats 4000000 in
set_option maxRecDepth 100000 in
theorem cn_X11_size {v9 : Int64} (hE : zE0 l s0 a0 d cy B0) (a1 : Int32) (a2 : Int32) (I : zI) (L : zL) (h : f_X11_size a1 a2 I = some (.inl v9)) : zM l s0 d cy B0 yX11_size cX11_size 3 (some .long) 7 110 [.ref (B0 + 0), .int a1, .int a2] zSH zKn bc bs I L (.inl (some (.long v9))) zSH zKn bc bs I L := c_X11_size (r := (.inl v9)) hE a1 a2 I L h
set_option maxHeartbeats 4000000 in
set_option maxRecDepth 100000 in
theorem cx_X11_size {k9 : Nat} (hE : zE0 l s0 a0 d cy B0) (a1 : Int32) (a2 : Int32) (I : zI) (L : zL) (h : f_X11_size a1 a2 I = some (.inr k9)) : zM l s0 d cy B0 yX11_size cX11_size 3 (some .long) 7 110 [.ref (B0 + 0), .int a1, .int a2] zSH zKn bc bs I L (.inr (zex k9)) zSH zKn (bc + 1) (bs + 6) I L := c_X11_size (r := (.inr k9)) hE a1 a2 I L h
theorem q_192 : (Cond.fieldLink "DeviceFind" (190 : Nat) "DeviceFind$Plan" "pinCounts" "[I") ∈ lw_tbl := List.mem_of_getElem? (i := 192) (by decide +kernel)
theorem q_436 : (Cond.fieldLink "DeviceFind" (193 : Nat) "DeviceFind$Devices" "pinNets" "[I") ∈ lw_tbl := List.mem_of_getElem? (i := 436) (by decide +kernel)
theorem q_1093 : (Cond.code ({ cls := "DeviceFind", name := "pin", desc := "(II)I" } : Jvm.MethodName) prog_1_method_11_code (3 : Nat) (Option.some Jvm.ClassFile.FieldType.int)) ∈ lw_tbl := List.mem_of_getElem? (i := 1093) (by decide +kernel)
theorem yy_X11_pin : zY yX11_pin cX11_pin 3 (some .int) 2 := ⟨q_1093, q_75, by decide +kernel, by decide +kernel, by decide +kernel⟩
noncomputable def f_X11_pin (P : Nat) (a1 : Int32) (a2 : Int32) (I : zI) : Option ((Int32 ⊕ Nat)) :=
  zb1 (f_X11_mustBeTrue (I 0 10)) (fun x2 => zsm x2 (fun x3 => zb1 (f_X11_mustBeBelow a1 (I 73 7)) (fun x6 => zsm x6 (fun x7 => zck (decide (I 0 8 = nI (P + 1))) (zck (zbd a1 300) (zlt (I 77 a1.toNatClampNeg) (fun x11 => zck (zbd x11 8) (zb1 (f_X11_mustBeBelow a2 (I ((P + 1 + 10)) x11.toNatClampNeg)) (fun x14 => zsm x14 (fun x15 => zlt ((a1 * (4 : Int32)) + a2) (fun x17 => zck (zbd x17 1200) (zlt (I 82 x17.toNatClampNeg) (fun x19 => some (.inl x19))))) (fun k16 => some (.inr k16)))))))) (fun k8 => some (.inr k8)))) (fun k4 => some (.inr k4)))
set_option maxHeartbeats 4000000 in
set_option maxRecDepth 100000 in
theorem c_X11_pin {r : (Int32 ⊕ Nat)} (hE : zE0 l s0 a0 d cy B0) {P : Nat} (hP : zpl P) (a1 : Int32) (a2 : Int32) (I : zI) (L : zL) (h : f_X11_pin P a1 a2 I = some r) : zM l s0 d cy B0 yX11_pin cX11_pin 3 (some .int) 7 110 [.ref (B0 + 0), .int a1, .int a2] zSH zKn bc bs I L (zri r) zSH zKn (zfc r bc) (zfs r bs) I L := by
  refine z_meth yy_X11_pin hE (Nat.le_of_ble_eq_true rfl) (fun p e R s m args below meth c C => ?_)
  show zG p l e R s m args below meth c d cy B0 3 bc bs (zQ below s args d cy B0 bc bs (zri r) zSH zKn (zfc r bc) (zfs r bs) I L) 0 [(0, .ref (B0 + 0)), (1, .int a1), (2, .int a2)] [] zSH zKn bc bs I L
  unfold f_X11_pin at h
  refine z_aload_n C rfl 0 rfl dX11_pin_0 ?_
  refine z_geti C zc_11 dX11_pin_1 10 0 rfl (by decide) (by decide) q_479 rfl ?_
  obtain ⟨x2, hg1, h⟩ := zb1_e h
  rcases x2 with x3 | k4
  · have h := zsm_l h
    refine z_callS C dX11_pin_4 yy_X11_mustBeTrue (cn_X11_mustBeTrue C.2.2.2.2.1  (I 0 10) I L hg1) q_793 q_794 (by decide) (by decide) rfl rfl (Nat.le_of_ble_eq_true rfl) ⟨Nat.le_refl _, zfc_le _ _, Nat.le_refl _, zfs_le _ _⟩ ?_
    refine z_iload_n C rfl 1 rfl dX11_pin_7 ?_
    refine z_aload_n C rfl 0 rfl dX11_pin_8 ?_
    refine z_getr C zc_11 dX11_pin_9 7 0 73 rfl (by decide) (by decide) q_476 rfl rfl ?_
    refine z_geti C zc_0 dX11_pin_12 7 73 rfl (by decide) (by decide) q_440 rfl ?_
    obtain ⟨x6, hg5, h⟩ := zb1_e h
    rcases x6 with x7 | k8
    · have h := zsm_l h
      refine z_callS C dX11_pin_15 yy_X11_mustBeBelow (cn_X11_mustBeBelow C.2.2.2.2.1  a1 (I 73 7) I L hg5) q_726 q_727 (by decide) (by decide) rfl rfl (Nat.le_of_ble_eq_true rfl) ⟨Nat.le_refl _, zfc_le _ _, Nat.le_refl _, zfs_le _ _⟩ ?_
      refine z_iload_n C rfl 2 rfl dX11_pin_18 ?_
      refine z_aload_n C rfl 0 rfl dX11_pin_19 ?_
      obtain ⟨hb9, h⟩ := zck_e h
      refine z_getm C zc_11 dX11_pin_20 8 0 P rfl (by decide) (by decide) q_477 rfl (of_decide_eq_true hb9) (zpl_lt2 hP) ?_
      refine z_getr C zc_7 dX11_pin_23 10 P (P + 1 + 10) (zpl_k hP) (zpl_lt hP) (by decide) q_192 rfl (zpl_r hP 10 (by decide)) ?_
      refine z_aload_n C rfl 0 rfl dX11_pin_26 ?_
      refine z_getr C zc_11 dX11_pin_27 7 0 73 rfl (by decide) (by decide) q_476 rfl rfl ?_
      refine z_getr C zc_0 dX11_pin_30 0 73 77 rfl (by decide) (by decide) q_426 rfl rfl ?_
      refine z_iload_n C rfl 1 rfl dX11_pin_33 ?_
      obtain ⟨hb10, h⟩ := zck_e h
      refine z_iaload C dX11_pin_34 rfl rfl (by decide) (zbd_in hb10) ?_
      obtain ⟨x11, ex11, h⟩ := zlt_e h
      refine z_eqi C ex11 ?_
      obtain ⟨hb12, h⟩ := zck_e h
      refine z_iaload C dX11_pin_35 (zpl_ak hP 10 (by decide)) (zpl_an hP 10 (by decide)) (zpl_a hP 10 (by decide)) (zbd_in hb12) ?_
      obtain ⟨x14, hg13, h⟩ := zb1_e h
      rcases x14 with x15 | k16
      · have h := zsm_l h
        refine z_callS C dX11_pin_36 yy_X11_mustBeBelow (cn_X11_mustBeBelow C.2.2.2.2.1  a2 (I ((P + 1 + 10)) x11.toNatClampNeg) I L hg13) q_726 q_727 (by decide) (by decide) rfl rfl (Nat.le_of_ble_eq_true rfl) ⟨Nat.le_refl _, zfc_le _ _, Nat.le_refl _, zfs_le _ _⟩ ?_
        refine z_aload_n C rfl 0 rfl dX11_pin_39 ?_
        refine z_getr C zc_11 dX11_pin_40 7 0 73 rfl (by decide) (by decide) q_476 rfl rfl ?_
        refine z_getr C zc_0 dX11_pin_43 5 73 82 rfl (by decide) (by decide) q_436 rfl rfl ?_
        refine z_iload_n C rfl 1 rfl dX11_pin_46 ?_
        refine z_iconst C (v := 4) (by decide) dX11_pin_47 ?_
        refine z_imul C dX11_pin_48 ?_
        refine z_iload_n C rfl 2 rfl dX11_pin_49 ?_
        refine z_iadd C dX11_pin_50 ?_
        obtain ⟨x17, ex17, h⟩ := zlt_e h
        refine z_eqi C ex17 ?_
        obtain ⟨hb18, h⟩ := zck_e h
        refine z_iaload C dX11_pin_51 rfl rfl (by decide) (zbd_in hb18) ?_
        obtain ⟨x19, ex19, h⟩ := zlt_e h
        refine z_eqi C ex19 ?_
        obtain rfl := Option.some.inj h
        exact z_iret C dX11_pin_52 .int rfl rfl rfl
      · have h := zsm_r h
        obtain rfl := Option.some.inj h
        exact z_callSX C dX11_pin_36 yy_X11_mustBeBelow (cx_X11_mustBeBelow C.2.2.2.2.1  a2 (I ((P + 1 + 10)) x11.toNatClampNeg) I L hg13) q_726 q_727 (by decide) (by decide) rfl rfl (Nat.le_of_ble_eq_true rfl) ⟨Nat.le_succ _, Nat.le_refl _, Nat.le_add_right _ _, Nat.le_refl _⟩ rfl rfl
    · have h := zsm_r h
      obtain rfl := Option.some.inj h
      exact z_callSX C dX11_pin_15 yy_X11_mustBeBelow (cx_X11_mustBeBelow C.2.2.2.2.1  a1 (I 73 7) I L hg5) q_726 q_727 (by decide) (by decide) rfl rfl (Nat.le_of_ble_eq_true rfl) ⟨Nat.le_succ _, Nat.le_refl _, Nat.le_add_right _ _, Nat.le_refl _⟩ rfl rfl
  · have h := zsm_r h
    obtain rfl := Option.some.inj h
    exact z_callSX C dX11_pin_4 yy_X11_mustBeTrue (cx_X11_mustBeTrue C.2.2.2.2.1  (I 0 10) I L hg1) q_793 q_794 (by decide) (by decide) rfl rfl (Nat.le_of_ble_eq_true rfl) ⟨Nat.le_succ _, Nat.le_refl _, Nat.le_add_right _ _, Nat.le_refl _⟩ rfl rfl
set_option maxHeartbeats 4000000 in
set_option maxRecDepth 100000 in
theorem cn_X11_pin {v9 : Int32} (hE : zE0 l s0 a0 d cy B0) {P : Nat} (hP : zpl P) (a1 : Int32) (a2 : Int32) (I : zI) (L : zL) (h : f_X11_pin P a1 a2 I = some (.inl v9)) : zM l s0 d cy B0 yX11_pin cX11_pin 3 (some .int) 7 110 [.ref (B0 + 0), .int a1, .int a2] zSH zKn bc bs I L (.inl (some (.int v9))) zSH zKn bc bs I L := c_X11_pin (r := (.inl v9)) hE hP a1 a2 I L h
set_option maxHeartbeats 4000000 in
set_option maxRecDepth 100000 in
theorem cx_X11_pin {k9 : Nat} (hE : zE0 l s0 a0 d cy B0) {P : Nat} (hP : zpl P) (a1 : Int32) (a2 : Int32) (I : zI) (L : zL) (h : f_X11_pin P a1 a2 I = some (.inr k9)) : zM l s0 d cy B0 yX11_pin cX11_pin 3 (some .int) 7 110 [.ref (B0 + 0), .int a1, .int a2] zSH zKn bc bs I L (.inr (zex k9)) zSH zKn (bc + 1) (bs + 6) I L := c_X11_pin (r := (.inr k9)) hE hP a1 a2 I L h
theorem q_204 : (Cond.fieldLink "DeviceFind" (196 : Nat) "DeviceFind$Plan" "wires" "I") ∈ lw_tbl := List.mem_of_getElem? (i := 204) (by decide +kernel)
theorem q_1100 : (Cond.code ({ cls := "DeviceFind", name := "net", desc := "(IJJ)I" } : Jvm.MethodName) prog_1_method_12_code (6 : Nat) (Option.some Jvm.ClassFile.FieldType.int)) ∈ lw_tbl := List.mem_of_getElem? (i := 1100) (by decide +kernel)
theorem q_1101 : (Cond.methodLink "DeviceFind" (199 : Nat) ({ cls := "DeviceFind$Nets", name := "netAt", desc := "(II)I" } : Jvm.MethodName)) ∈ lw_tbl := List.mem_of_getElem? (i := 1101) (by decide +kernel)
theorem yy_X11_net : zY yX11_net cX11_net 6 (some .int) 3 := ⟨q_1100, q_75, by decide +kernel, by decide +kernel, by decide +kernel⟩
noncomputable def f_X11_net (P : Nat) (a1 : Int32) (a2 : Int64) (a3 : Int64) (I : zI) : Option ((Int32 ⊕ Nat)) :=
  zb1 (f_X11_mustBeSquare a2 a3) (fun x2 => zsm x2 (fun x3 => zb1 (f_X11_mustBeTrue (I 0 10)) (fun x6 => zsm x6 (fun x7 => zck (decide (I 0 8 = nI (P + 1))) (zb1 (f_X11_mustBeBelow a1 (I P 13)) (fun x11 => zsm x11 (fun x12 => zb1 (f_X11_squareAt a2.toInt32 a3.toInt32) (fun x15 => zb1 (f_X3_netAt a1 x15 I) (fun x17 => some (.inl x17)))) (fun k13 => some (.inr k13))))) (fun k8 => some (.inr k8)))) (fun k4 => some (.inr k4)))
set_option maxHeartbeats 4000000 in
set_option maxRecDepth 100000 in
theorem c_X11_net {r : (Int32 ⊕ Nat)} (hE : zE0 l s0 a0 d cy B0) {P : Nat} (hP : zpl P) (a1 : Int32) (a2 : Int64) (a3 : Int64) (I : zI) (L : zL) (h : f_X11_net P a1 a2 a3 I = some r) : zM l s0 d cy B0 yX11_net cX11_net 6 (some .int) 7 112 [.ref (B0 + 0), .int a1, .long a2, .long a3] zSH zKn bc bs I L (zri r) zSH zKn (zfc r bc) (zfs r bs) I L := by
  refine z_meth yy_X11_net hE (Nat.le_of_ble_eq_true rfl) (fun p e R s m args below meth c C => ?_)
  show zG p l e R s m args below meth c d cy B0 6 bc bs (zQ below s args d cy B0 bc bs (zri r) zSH zKn (zfc r bc) (zfs r bs) I L) 0 [(0, .ref (B0 + 0)), (1, .int a1), (2, .long a2), (4, .long a3)] [] zSH zKn bc bs I L
  unfold f_X11_net at h
  refine z_lload_n C rfl 2 rfl dX11_net_0 ?_
  refine z_lload C 3 rfl dX11_net_1 ?_
  obtain ⟨x2, hg1, h⟩ := zb1_e h
  rcases x2 with x3 | k4
  · have h := zsm_l h
    refine z_callS C dX11_net_3 yy_X11_mustBeSquare (cn_X11_mustBeSquare C.2.2.2.2.1  a2 a3 I L hg1) q_854 q_855 (by decide) (by decide) rfl rfl (Nat.le_of_ble_eq_true rfl) ⟨Nat.le_refl _, zfc_le _ _, Nat.le_refl _, zfs_le _ _⟩ ?_
    refine z_aload_n C rfl 0 rfl dX11_net_6 ?_
    refine z_geti C zc_11 dX11_net_7 10 0 rfl (by decide) (by decide) q_479 rfl ?_
    obtain ⟨x6, hg5, h⟩ := zb1_e h
    rcases x6 with x7 | k8
    · have h := zsm_l h
      refine z_callS C dX11_net_10 yy_X11_mustBeTrue (cn_X11_mustBeTrue C.2.2.2.2.1  (I 0 10) I L hg5) q_793 q_794 (by decide) (by decide) rfl rfl (Nat.le_of_ble_eq_true rfl) ⟨Nat.le_refl _, zfc_le _ _, Nat.le_refl _, zfs_le _ _⟩ ?_
      refine z_iload_n C rfl 1 rfl dX11_net_13 ?_
      refine z_aload_n C rfl 0 rfl dX11_net_14 ?_
      obtain ⟨hb9, h⟩ := zck_e h
      refine z_getm C zc_11 dX11_net_15 8 0 P rfl (by decide) (by decide) q_477 rfl (of_decide_eq_true hb9) (zpl_lt2 hP) ?_
      refine z_geti C zc_7 dX11_net_18 13 P (zpl_k hP) (zpl_lt hP) (by decide) q_204 rfl ?_
      obtain ⟨x11, hg10, h⟩ := zb1_e h
      rcases x11 with x12 | k13
      · have h := zsm_l h
        refine z_callS C dX11_net_21 yy_X11_mustBeBelow (cn_X11_mustBeBelow C.2.2.2.2.1  a1 (I P 13) I L hg10) q_726 q_727 (by decide) (by decide) rfl rfl (Nat.le_of_ble_eq_true rfl) ⟨Nat.le_refl _, zfc_le _ _, Nat.le_refl _, zfs_le _ _⟩ ?_
        refine z_aload_n C rfl 0 rfl dX11_net_24 ?_
        refine z_getr C zc_11 dX11_net_25 6 0 61 rfl (by decide) (by decide) q_475 rfl rfl ?_
        refine z_iload_n C rfl 1 rfl dX11_net_28 ?_
        refine z_lload_n C rfl 2 rfl dX11_net_29 ?_
        refine z_l2i C dX11_net_30 ?_
        refine z_lload C 3 rfl dX11_net_31 ?_
        refine z_l2i C dX11_net_33 ?_
        obtain ⟨x15, hg14, h⟩ := zb1_e h
        refine z_callS C dX11_net_34 yy_X11_squareAt (c_X11_squareAt C.2.2.2.2.1  a2.toInt32 a3.toInt32 I L hg14) q_857 q_858 (by decide) (by decide) rfl rfl (Nat.le_of_ble_eq_true rfl) ⟨Nat.le_refl _, zfc_le _ _, Nat.le_refl _, zfs_le _ _⟩ ?_
        obtain ⟨x17, hg16, h⟩ := zb1_e h
        refine z_callV C zc_3 rfl (by decide) dX11_net_37 yy_X3_netAt (c_X3_netAt C.2.2.2.2.1  a1 x15 I L hg16) q_1101 q_981 q_982 (by decide) (by decide) rfl rfl (Nat.le_of_ble_eq_true rfl) ⟨Nat.le_refl _, zfc_le _ _, Nat.le_refl _, zfs_le _ _⟩ ?_
        obtain rfl := Option.some.inj h
        exact z_iret C dX11_net_40 .int rfl rfl rfl
      · have h := zsm_r h
        obtain rfl := Option.some.inj h
        exact z_callSX C dX11_net_21 yy_X11_mustBeBelow (cx_X11_mustBeBelow C.2.2.2.2.1  a1 (I P 13) I L hg10) q_726 q_727 (by decide) (by decide) rfl rfl (Nat.le_of_ble_eq_true rfl) ⟨Nat.le_succ _, Nat.le_refl _, Nat.le_add_right _ _, Nat.le_refl _⟩ rfl rfl
    · have h := zsm_r h
      obtain rfl := Option.some.inj h
      exact z_callSX C dX11_net_10 yy_X11_mustBeTrue (cx_X11_mustBeTrue C.2.2.2.2.1  (I 0 10) I L hg5) q_793 q_794 (by decide) (by decide) rfl rfl (Nat.le_of_ble_eq_true rfl) ⟨Nat.le_succ _, Nat.le_refl _, Nat.le_add_right _ _, Nat.le_refl _⟩ rfl rfl
  · have h := zsm_r h
    obtain rfl := Option.some.inj h
    exact z_callSX C dX11_net_3 yy_X11_mustBeSquare (cx_X11_mustBeSquare C.2.2.2.2.1  a2 a3 I L hg1) q_854 q_855 (by decide) (by decide) rfl rfl (Nat.le_of_ble_eq_true rfl) ⟨Nat.le_succ _, Nat.le_refl _, Nat.le_add_right _ _, Nat.le_refl _⟩ rfl rfl
set_option maxHeartbeats 4000000 in
set_option maxRecDepth 100000 in
theorem cn_X11_net {v9 : Int32} (hE : zE0 l s0 a0 d cy B0) {P : Nat} (hP : zpl P) (a1 : Int32) (a2 : Int64) (a3 : Int64) (I : zI) (L : zL) (h : f_X11_net P a1 a2 a3 I = some (.inl v9)) : zM l s0 d cy B0 yX11_net cX11_net 6 (some .int) 7 112 [.ref (B0 + 0), .int a1, .long a2, .long a3] zSH zKn bc bs I L (.inl (some (.int v9))) zSH zKn bc bs I L := c_X11_net (r := (.inl v9)) hE hP a1 a2 a3 I L h
set_option maxHeartbeats 4000000 in
set_option maxRecDepth 100000 in
theorem cx_X11_net {k9 : Nat} (hE : zE0 l s0 a0 d cy B0) {P : Nat} (hP : zpl P) (a1 : Int32) (a2 : Int64) (a3 : Int64) (I : zI) (L : zL) (h : f_X11_net P a1 a2 a3 I = some (.inr k9)) : zM l s0 d cy B0 yX11_net cX11_net 6 (some .int) 7 112 [.ref (B0 + 0), .int a1, .long a2, .long a3] zSH zKn bc bs I L (.inr (zex k9)) zSH zKn (bc + 1) (bs + 6) I L := c_X11_net (r := (.inr k9)) hE hP a1 a2 a3 I L h
end Zp05_13_walk
