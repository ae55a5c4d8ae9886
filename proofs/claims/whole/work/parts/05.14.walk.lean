section Zp05_14_walk
variable {p : Program} {l : Launch} {e : Env} {R : Room} {s : State} {m : MethodId} {args : Array Value} {below : List Frame} {meth : Method} {c : Code} {s0 : State} {a0 : Array Value} {d : va_G} {cy : Nat → ClassId} {B0 : Nat} {bc bs : Nat}
theorem q_373 : (Cond.fieldLink "DeviceFind" (202 : Nat) "DeviceFind$Nets" "total" "I") ∈ lw_tbl := List.mem_of_getElem? (i := 373) (by decide +kernel)
theorem q_1108 : (Cond.code ({ cls := "DeviceFind", name := "named", desc := "(I)I" } : Jvm.MethodName) prog_1_method_13_code (2 : Nat) (Option.some Jvm.ClassFile.FieldType.int)) ∈ lw_tbl := List.mem_of_getElem? (i := 1108) (by decide +kernel)
theorem q_1109 : (Cond.methodLink "DeviceFind" (203 : Nat) ({ cls := "DeviceFind$Notes", name := "leastName", desc := "(I)I" } : Jvm.MethodName)) ∈ lw_tbl := List.mem_of_getElem? (i := 1109) (by decide +kernel)
theorem q_1110 : (Cond.instanceMethod ({ cls := "DeviceFind$Notes", name := "leastName", desc := "(I)I" } : Jvm.MethodName)) ∈ lw_tbl := List.mem_of_getElem? (i := 1110) (by decide +kernel)
theorem q_1111 : (Cond.selects "DeviceFind$Notes" ({ cls := "DeviceFind$Notes", name := "leastName", desc := "(I)I" } : Jvm.MethodName) ({ cls := "DeviceFind$Notes", name := "leastName", desc := "(I)I" } : Jvm.MethodName)) ∈ lw_tbl := List.mem_of_getElem? (i := 1111) (by decide +kernel)
theorem yy_X11_named : zY yX11_named cX11_named 2 (some .int) 1 := ⟨q_1108, q_75, by decide +kernel, by decide +kernel, by decide +kernel⟩
noncomputable def f_X11_named (a1 : Int32) (I : zI) : Option ((Int32 ⊕ Nat)) :=
  zb1 (f_X11_mustBeTrue (I 0 10)) (fun x2 => zsm x2 (fun x3 => zb1 (f_X11_mustBeBelow a1 (I 61 1)) (fun x6 => zsm x6 (fun x7 => zb1 (f_X4_leastName a1 I) (fun x10 => some (.inl x10))) (fun k8 => some (.inr k8)))) (fun k4 => some (.inr k4)))
set_option maxHeartbeats 4000000 in
set_option maxRecDepth 100000 in
theorem c_X11_named {r : (Int32 ⊕ Nat)} (hE : zE0 l s0 a0 d cy B0) (a1 : Int32) (I : zI) (L : zL) (h : f_X11_named a1 I = some r) : zM l s0 d cy B0 yX11_named cX11_named 2 (some .int) 7 110 [.ref (B0 + 0), .int a1] zSH zKn bc bs I L (zri r) zSH zKn (zfc r bc) (zfs r bs) I L := by
  refine z_meth yy_X11_named hE (Nat.le_of_ble_eq_true rfl) (fun p e R s m args below meth c C => ?_)
  show zG p l e R s m args below meth c d cy B0 2 bc bs (zQ below s args d cy B0 bc bs (zri r) zSH zKn (zfc r bc) (zfs r bs) I L) 0 [(0, .ref (B0 + 0)), (1, .int a1)] [] zSH zKn bc bs I L
  unfold f_X11_named at h
  refine z_aload_n C rfl 0 rfl dX11_named_0 ?_
  refine z_geti C zc_11 dX11_named_1 10 0 rfl (by decide) (by decide) q_479 rfl ?_
  obtain ⟨x2, hg1, h⟩ := zb1_e h
  rcases x2 with x3 | k4
  · have h := zsm_l h
    refine z_callS C dX11_named_4 yy_X11_mustBeTrue (cn_X11_mustBeTrue C.2.2.2.2.1  (I 0 10) I L hg1) q_793 q_794 (by decide) (by decide) rfl rfl (Nat.le_of_ble_eq_true rfl) ⟨Nat.le_refl _, zfc_le _ _, Nat.le_refl _, zfs_le _ _⟩ ?_
    refine z_iload_n C rfl 1 rfl dX11_named_7 ?_
    refine z_aload_n C rfl 0 rfl dX11_named_8 ?_
    refine z_getr C zc_11 dX11_named_9 6 0 61 rfl (by decide) (by decide) q_475 rfl rfl ?_
    refine z_geti C zc_3 dX11_named_12 1 61 rfl (by decide) (by decide) q_373 rfl ?_
    obtain ⟨x6, hg5, h⟩ := zb1_e h
    rcases x6 with x7 | k8
    · have h := zsm_l h
      refine z_callS C dX11_named_15 yy_X11_mustBeBelow (cn_X11_mustBeBelow C.2.2.2.2.1  a1 (I 61 1) I L hg5) q_726 q_727 (by decide) (by decide) rfl rfl (Nat.le_of_ble_eq_true rfl) ⟨Nat.le_refl _, zfc_le _ _, Nat.le_refl _, zfs_le _ _⟩ ?_
      refine z_aload_n C rfl 0 rfl dX11_named_18 ?_
      refine z_getr C zc_11 dX11_named_19 4 0 26 rfl (by decide) (by decide) q_473 rfl rfl ?_
      refine z_iload_n C rfl 1 rfl dX11_named_22 ?_
      obtain ⟨x10, hg9, h⟩ := zb1_e h
      refine z_callV C zc_4 rfl (by decide) dX11_named_23 yy_X4_leastName (c_X4_leastName C.2.2.2.2.1  a1 I L hg9) q_1109 q_1110 q_1111 (by decide) (by decide) rfl rfl (Nat.le_of_ble_eq_true rfl) ⟨Nat.le_refl _, zfc_le _ _, Nat.le_refl _, zfs_le _ _⟩ ?_
      obtain rfl := Option.some.inj h
      exact z_iret C dX11_named_26 .int rfl rfl rfl
    · have h := zsm_r h
      obtain rfl := Option.some.inj h
      exact z_callSX C dX11_named_15 yy_X11_mustBeBelow (cx_X11_mustBeBelow C.2.2.2.2.1  a1 (I 61 1) I L hg5) q_726 q_727 (by decide) (by decide) rfl rfl (Nat.le_of_ble_eq_true rfl) ⟨Nat.le_succ _, Nat.le_refl _, Nat.le_add_right _ _, Nat.le_refl _⟩ rfl rfl
  · have h := zsm_r h
    obtain rfl := Option.some.inj h
    exact z_callSX C dX11_named_4 yy_X11_mustBeTrue (cx_X11_mustBeTrue C.2.2.2.2.1  (I 0 10) I L hg1) q_793 q_794 (by decide) (by decide) rfl rfl (Nat.le_of_ble_eq_true rfl) ⟨Nat.le_succ _, Nat.le_refl _, Nat.le_add_right _ _, Nat.le_refl _⟩ rfl rfl
set_option maxHeartbeats 4000000 in
set_option maxRecDepth 100000 in
theorem cn_X11_named {v9 : Int32} (hE : zE0 l s0 a0 d cy B0) (a1 : Int32) (I : zI) (L : zL) (h : f_X11_named a1 I = some (.inl v9)) : zM l s0 d cy B0 yX11_named cX11_named 2 (some .int) 7 110 [.ref (B0 + 0), .int a1] zSH zKn bc bs I L (.inl (some (.int v9))) zSH zKn bc bs I L := c_X11_named (r := (.inl v9)) hE a1 I L h
set_option maxHeartbeats 4000000 in
set_option maxRecDepth 100000 in
theorem cx_X11_named {k9 : Nat} (hE : zE0 l s0 a0 d cy B0) (a1 : Int32) (I : zI) (L : zL) (h : f_X11_named a1 I = some (.inr k9)) : zM l s0 d cy B0 yX11_named cX11_named 2 (some .int) 7 110 [.ref (B0 + 0), .int a1] zSH zKn bc bs I L (.inr (zex k9)) zSH zKn (bc + 1) (bs + 6) I L := c_X11_named (r := (.inr k9)) hE a1 I L h
theorem q_1122 : (Cond.code ({ cls := "DeviceFind", name := "mustNotBeNegative", desc := "(I)V" } : Jvm.MethodName) prog_1_method_20_code (1 : Nat) (Option.none : Option Jvm.ClassFile.FieldType)) ∈ lw_tbl := List.mem_of_getElem? (i := 1122) (by decide +kernel)
theorem yy_X11_mustNotBeNegative : zY yX11_mustNotBeNegative cX11_mustNotBeNegative 1 none 1 := ⟨q_1122, q_75, by decide +kernel, by decide +kernel, by decide +kernel⟩
noncomputable def f_X11_mustNotBeNegative (a0 : Int32) : Option ((Unit ⊕ Nat)) :=
  if 0 ≤ a0 then (some (.inl ())) else (some (.inr 0))
set_option maxHeartbeats 4000000 in
set_option maxRecDepth 100000 in
theorem c_X11_mustNotBeNegative {r : (Unit ⊕ Nat)} (hE : zE0 l s0 a0 d cy B0) (a0 : Int32) (I : zI) (L : zL) (h : f_X11_mustNotBeNegative a0 = some r) : zM l s0 d cy B0 yX11_mustNotBeNegative cX11_mustNotBeNegative 1 none 6 89 [.int a0] zSH zKn bc bs I L (zrv r) zSH zKn (zfc r bc) (zfs r bs) I L := by
  refine z_meth yy_X11_mustNotBeNegative hE (Nat.le_of_ble_eq_true rfl) (fun p e R s m args below meth c C => ?_)
  show zG p l e R s m args below meth c d cy B0 1 bc bs (zQ below s args d cy B0 bc bs (zrv r) zSH zKn (zfc r bc) (zfs r bs) I L) 0 [(0, .int a0)] [] zSH zKn bc bs I L
  unfold f_X11_mustNotBeNegative at h
  refine z_iload_n C rfl 0 rfl dX11_mustNotBeNegative_0 ?_
  refine z_if_ge C 12 (by decide) dX11_mustNotBeNegative_1 (fun hc => ?_) (fun hc => ?_)
  · have h := zif_t hc h
    obtain rfl := Option.some.inj h
    exact z_vret C dX11_mustNotBeNegative_12 rfl rfl
  · have h := zif_f hc h
    obtain rfl := Option.some.inj h
    exact z_throw C dX11_mustNotBeNegative_4 dX11_mustNotBeNegative_7 dX11_mustNotBeNegative_8 dX11_mustNotBeNegative_11 (by decide +kernel) q_729 q_96 xat_X11_241 rfl (by decide) (Nat.le_of_ble_eq_true rfl) ⟨rfl, rfl⟩ rfl rfl rfl rfl
set_option maxHeartbeats 4000000 in
set_option maxRecDepth 100000 in
theorem cn_X11_mustNotBeNegative {v9 : Unit} (hE : zE0 l s0 a0 d cy B0) (a0 : Int32) (I : zI) (L : zL) (h : f_X11_mustNotBeNegative a0 = some (.inl v9)) : zM l s0 d cy B0 yX11_mustNotBeNegative cX11_mustNotBeNegative 1 none 6 89 [.int a0] zSH zKn bc bs I L (.inl none) zSH zKn bc bs I L := c_X11_mustNotBeNegative (r := (.inl v9)) hE a0 I L h
set_option maxHeartbeats 4000000 in
set_option maxRecDepth 100000 in
theorem cx_X11_mustNotBeNegative {k9 : Nat} (hE : zE0 l s0 a0 d cy B0) (a0 : Int32) (I : zI) (L : zL) (h : f_X11_mustNotBeNegative a0 = some (.inr k9)) : zM l s0 d cy B0 yX11_mustNotBeNegative cX11_mustNotBeNegative 1 none 6 89 [.int a0] zSH zKn bc bs I L (.inr (zex k9)) zSH zKn (bc + 1) (bs + 6) I L := c_X11_mustNotBeNegative (r := (.inr k9)) hE a0 I L h
theorem q_1119 : (Cond.code ({ cls := "DeviceFind", name := "twice", desc := "(I)I" } : Jvm.MethodName) prog_1_method_14_code (2 : Nat) (Option.some Jvm.ClassFile.FieldType.int)) ∈ lw_tbl := List.mem_of_getElem? (i := 1119) (by decide +kernel)
theorem q_1120 : (Cond.methodLink "DeviceFind" (206 : Nat) ({ cls := "DeviceFind", name := "mustNotBeNegative", desc := "(I)V" } : Jvm.MethodName)) ∈ lw_tbl := List.mem_of_getElem? (i := 1120) (by decide +kernel)
theorem q_1121 : (Cond.static ({ cls := "DeviceFind", name := "mustNotBeNegative", desc := "(I)V" } : Jvm.MethodName)) ∈ lw_tbl := List.mem_of_getElem? (i := 1121) (by decide +kernel)
theorem q_1123 : (Cond.methodLink "DeviceFind" (210 : Nat) ({ cls := "DeviceFind$Notes", name := "twiceNamed", desc := "(I)I" } : Jvm.MethodName)) ∈ lw_tbl := List.mem_of_getElem? (i := 1123) (by decide +kernel)
theorem q_1124 : (Cond.instanceMethod ({ cls := "DeviceFind$Notes", name := "twiceNamed", desc := "(I)I" } : Jvm.MethodName)) ∈ lw_tbl := List.mem_of_getElem? (i := 1124) (by decide +kernel)
theorem q_1125 : (Cond.selects "DeviceFind$Notes" ({ cls := "DeviceFind$Notes", name := "twiceNamed", desc := "(I)I" } : Jvm.MethodName) ({ cls := "DeviceFind$Notes", name := "twiceNamed", desc := "(I)I" } : Jvm.MethodName)) ∈ lw_tbl := List.mem_of_getElem? (i := 1125) (by decide +kernel)
theorem yy_X11_twice : zY yX11_twice cX11_twice 2 (some .int) 1 := ⟨q_1119, q_75, by decide +kernel, by decide +kernel, by decide +kernel⟩
noncomputable def f_X11_twice (a1 : Int32) (I : zI) : Option ((Int32 ⊕ Nat)) :=
  zb1 (f_X11_mustNotBeNegative a1) (fun x2 => zsm x2 (fun x3 => zb1 (f_X11_mustBeTrue (I 0 10)) (fun x6 => zsm x6 (fun x7 => zb1 (f_X4_twiceNamed a1 I) (fun x10 => some (.inl x10))) (fun k8 => some (.inr k8)))) (fun k4 => some (.inr k4)))
set_option maxHeartbeats 4000000 in
set_option maxRecDepth 100000 in
theorem c_X11_twice {r : (Int32 ⊕ Nat)} (hE : zE0 l s0 a0 d cy B0) (a1 : Int32) (I : zI) (L : zL) (h : f_X11_twice a1 I = some r) : zM l s0 d cy B0 yX11_twice cX11_twice 2 (some .int) 7 109 [.ref (B0 + 0), .int a1] zSH zKn bc bs I L (zri r) zSH zKn (zfc r bc) (zfs r bs) I L := by
  refine z_meth yy_X11_twice hE (Nat.le_of_ble_eq_true rfl) (fun p e R s m args below meth c C => ?_)
  show zG p l e R s m args below meth c d cy B0 2 bc bs (zQ below s args d cy B0 bc bs (zri r) zSH zKn (zfc r bc) (zfs r bs) I L) 0 [(0, .ref (B0 + 0)), (1, .int a1)] [] zSH zKn bc bs I L
  unfold f_X11_twice at h
  refine z_iload_n C rfl 1 rfl dX11_twice_0 ?_
  obtain ⟨x2, hg1, h⟩ := zb1_e h
  rcases x2 with x3 | k4
  · have h := zsm_l h
    refine z_callS C dX11_twice_1 yy_X11_mustNotBeNegative (cn_X11_mustNotBeNegative C.2.2.2.2.1  a1 I L hg1) q_1120 q_1121 (by decide) (by decide) rfl rfl (Nat.le_of_ble_eq_true rfl) ⟨Nat.le_refl _, zfc_le _ _, Nat.le_refl _, zfs_le _ _⟩ ?_
    refine z_aload_n C rfl 0 rfl dX11_twice_4 ?_
    refine z_geti C zc_11 dX11_twice_5 10 0 rfl (by decide) (by decide) q_479 rfl ?_
    obtain ⟨x6, hg5, h⟩ := zb1_e h
    rcases x6 with x7 | k8
    · have h := zsm_l h
      refine z_callS C dX11_twice_8 yy_X11_mustBeTrue (cn_X11_mustBeTrue C.2.2.2.2.1  (I 0 10) I L hg5) q_793 q_794 (by decide) (by decide) rfl rfl (Nat.le_of_ble_eq_true rfl) ⟨Nat.le_refl _, zfc_le _ _, Nat.le_refl _, zfs_le _ _⟩ ?_
      refine z_aload_n C rfl 0 rfl dX11_twice_11 ?_
      refine z_getr C zc_11 dX11_twice_12 4 0 26 rfl (by decide) (by decide) q_473 rfl rfl ?_
      refine z_iload_n C rfl 1 rfl dX11_twice_15 ?_
      obtain ⟨x10, hg9, h⟩ := zb1_e h
      refine z_callV C zc_4 rfl (by decide) dX11_twice_16 yy_X4_twiceNamed (c_X4_twiceNamed C.2.2.2.2.1  a1 I L hg9) q_1123 q_1124 q_1125 (by decide) (by decide) rfl rfl (Nat.le_of_ble_eq_true rfl) ⟨Nat.le_refl _, zfc_le _ _, Nat.le_refl _, zfs_le _ _⟩ ?_
      obtain rfl := Option.some.inj h
      exact z_iret C dX11_twice_19 .int rfl rfl rfl
    · have h := zsm_r h
      obtain rfl := Option.some.inj h
      exact z_callSX C dX11_twice_8 yy_X11_mustBeTrue (cx_X11_mustBeTrue C.2.2.2.2.1  (I 0 10) I L hg5) q_793 q_794 (by decide) (by decide) rfl rfl (Nat.le_of_ble_eq_true rfl) ⟨Nat.le_succ _, Nat.le_refl _, Nat.le_add_right _ _, Nat.le_refl _⟩ rfl rfl
  · have h := zsm_r h
    obtain rfl := Option.some.inj h
    exact z_callSX C dX11_twice_1 yy_X11_mustNotBeNegative (cx_X11_mustNotBeNegative C.2.2.2.2.1  a1 I L hg1) q_1120 q_1121 (by decide) (by decide) rfl rfl (Nat.le_of_ble_eq_true rfl) ⟨Nat.le_succ _, Nat.le_refl _, Nat.le_add_right _ _, Nat.le_refl _⟩ rfl rfl
set_option maxHeartbeats 4000000 in
set_option maxRecDepth 100000 in
theorem cn_X11_twice {v9 : Int32} (hE : zE0 l s0 a0 d cy B0) (a1 : Int32) (I : zI) (L : zL) (h : f_X11_twice a1 I = some (.inl v9)) : zM l s0 d cy B0 yX11_twice cX11_twice 2 (some .int) 7 109 [.ref (B0 + 0), .int a1] zSH zKn bc bs I L (.inl (some (.int v9))) zSH zKn bc bs I L := c_X11_twice (r := (.inl v9)) hE a1 I L h
set_option maxHeartbeats 4000000 in
set_option maxRecDepth 100000 in
theorem cx_X11_twice {k9 : Nat} (hE : zE0 l s0 a0 d cy B0) (a1 : Int32) (I : zI) (L : zL) (h : f_X11_twice a1 I = some (.inr k9)) : zM l s0 d cy B0 yX11_twice cX11_twice 2 (some .int) 7 109 [.ref (B0 + 0), .int a1] zSH zKn bc bs I L (.inr (zex k9)) zSH zKn (bc + 1) (bs + 6) I L := c_X11_twice (r := (.inr k9)) hE a1 I L h
theorem q_1141 : (Cond.code ({ cls := "DeviceFind", name := "bad", desc := "(I)I" } : Jvm.MethodName) prog_1_method_15_code (2 : Nat) (Option.some Jvm.ClassFile.FieldType.int)) ∈ lw_tbl := List.mem_of_getElem? (i := 1141) (by decide +kernel)
theorem q_1142 : (Cond.methodLink "DeviceFind" (213 : Nat) ({ cls := "DeviceFind$Devices", name := "faulty", desc := "(I)I" } : Jvm.MethodName)) ∈ lw_tbl := List.mem_of_getElem? (i := 1142) (by decide +kernel)
theorem q_1143 : (Cond.instanceMethod ({ cls := "DeviceFind$Devices", name := "faulty", desc := "(I)I" } : Jvm.MethodName)) ∈ lw_tbl := List.mem_of_getElem? (i := 1143) (by decide +kernel)
theorem q_1144 : (Cond.selects "DeviceFind$Devices" ({ cls := "DeviceFind$Devices", name := "faulty", desc := "(I)I" } : Jvm.MethodName) ({ cls := "DeviceFind$Devices", name := "faulty", desc := "(I)I" } : Jvm.MethodName)) ∈ lw_tbl := List.mem_of_getElem? (i := 1144) (by decide +kernel)
theorem yy_X11_bad : zY yX11_bad cX11_bad 2 (some .int) 1 := ⟨q_1141, q_75, by decide +kernel, by decide +kernel, by decide +kernel⟩
noncomputable def f_X11_bad (a1 : Int32) (I : zI) : Option ((Int32 ⊕ Nat)) :=
  zb1 (f_X11_mustNotBeNegative a1) (fun x2 => zsm x2 (fun x3 => zb1 (f_X11_mustBeTrue (I 0 10)) (fun x6 => zsm x6 (fun x7 => zb1 (f_X0_faulty a1 I) (fun x10 => some (.inl x10))) (fun k8 => some (.inr k8)))) (fun k4 => some (.inr k4)))
set_option maxHeartbeats 4000000 in
set_option maxRecDepth 100000 in
theorem c_X11_bad {r : (Int32 ⊕ Nat)} (hE : zE0 l s0 a0 d cy B0) (a1 : Int32) (I : zI) (L : zL) (h : f_X11_bad a1 I = some r) : zM l s0 d cy B0 yX11_bad cX11_bad 2 (some .int) 7 109 [.ref (B0 + 0), .int a1] zSH zKn bc bs I L (zri r) zSH zKn (zfc r bc) (zfs r bs) I L := by
  refine z_meth yy_X11_bad hE (Nat.le_of_ble_eq_true rfl) (fun p e R s m args below meth c C => ?_)
  show zG p l e R s m args below meth c d cy B0 2 bc bs (zQ below s args d cy B0 bc bs (zri r) zSH zKn (zfc r bc) (zfs r bs) I L) 0 [(0, .ref (B0 + 0)), (1, .int a1)] [] zSH zKn bc bs I L
  unfold f_X11_bad at h
  refine z_iload_n C rfl 1 rfl dX11_bad_0 ?_
  obtain ⟨x2, hg1, h⟩ := zb1_e h
  rcases x2 with x3 | k4
  · have h := zsm_l h
    refine z_callS C dX11_bad_1 yy_X11_mustNotBeNegative (cn_X11_mustNotBeNegative C.2.2.2.2.1  a1 I L hg1) q_1120 q_1121 (by decide) (by decide) rfl rfl (Nat.le_of_ble_eq_true rfl) ⟨Nat.le_refl _, zfc_le _ _, Nat.le_refl _, zfs_le _ _⟩ ?_
    refine z_aload_n C rfl 0 rfl dX11_bad_4 ?_
    refine z_geti C zc_11 dX11_bad_5 10 0 rfl (by decide) (by decide) q_479 rfl ?_
    obtain ⟨x6, hg5, h⟩ := zb1_e h
    rcases x6 with x7 | k8
    · have h := zsm_l h
      refine z_callS C dX11_bad_8 yy_X11_mustBeTrue (cn_X11_mustBeTrue C.2.2.2.2.1  (I 0 10) I L hg5) q_793 q_794 (by decide) (by decide) rfl rfl (Nat.le_of_ble_eq_true rfl) ⟨Nat.le_refl _, zfc_le _ _, Nat.le_refl _, zfs_le _ _⟩ ?_
      refine z_aload_n C rfl 0 rfl dX11_bad_11 ?_
      refine z_getr C zc_11 dX11_bad_12 7 0 73 rfl (by decide) (by decide) q_476 rfl rfl ?_
      refine z_iload_n C rfl 1 rfl dX11_bad_15 ?_
      obtain ⟨x10, hg9, h⟩ := zb1_e h
      refine z_callV C zc_0 rfl (by decide) dX11_bad_16 yy_X0_faulty (c_X0_faulty C.2.2.2.2.1  a1 I L hg9) q_1142 q_1143 q_1144 (by decide) (by decide) rfl rfl (Nat.le_of_ble_eq_true rfl) ⟨Nat.le_refl _, zfc_le _ _, Nat.le_refl _, zfs_le _ _⟩ ?_
      obtain rfl := Option.some.inj h
      exact z_iret C dX11_bad_19 .int rfl rfl rfl
    · have h := zsm_r h
      obtain rfl := Option.some.inj h
      exact z_callSX C dX11_bad_8 yy_X11_mustBeTrue (cx_X11_mustBeTrue C.2.2.2.2.1  (I 0 10) I L hg5) q_793 q_794 (by decide) (by decide) rfl rfl (Nat.le_of_ble_eq_true rfl) ⟨Nat.le_succ _, Nat.le_refl _, Nat.le_add_right _ _, Nat.le_refl _⟩ rfl rfl
  · have h := zsm_r h
    obtain rfl := Option.some.inj h
    exact z_callSX C dX11_bad_1 yy_X11_mustNotBeNegative (cx_X11_mustNotBeNegative C.2.2.2.2.1  a1 I L hg1) q_1120 q_1121 (by decide) (by decide) rfl rfl (Nat.le_of_ble_eq_true rfl) ⟨Nat.le_succ _, Nat.le_refl _, Nat.le_add_right _ _, Nat.le_refl _⟩ rfl rfl
set_option maxHeartbeats 4000000 in
set_option maxRecDepth 100000 in
theorem cn_X11_bad {v9 : Int32} (hE : zE0 l s0 a0 d cy B0) (a1 : Int32) (I : zI) (L : zL) (h : f_X11_bad a1 I = some (.inl v9)) : zM l s0 d cy B0 yX11_bad cX11_bad 2 (some .int) 7 109 [.ref (B0 + 0), .int a1] zSH zKn bc bs I L (.inl (some (.int v9))) zSH zKn bc bs I L := c_X11_bad (r := (.inl v9)) hE a1 I L h
set_option maxHeartbeats 4000000 in
set_option maxRecDepth 100000 in
theorem cx_X11_bad {k9 : Nat} (hE : zE0 l s0 a0 d cy B0) (a1 : Int32) (I : zI) (L : zL) (h : f_X11_bad a1 I = some (.inr k9)) : zM l s0 d cy B0 yX11_bad cX11_bad 2 (some .int) 7 109 [.ref (B0 + 0), .int a1] zSH zKn bc bs I L (.inr (zex k9)) zSH zKn (bc + 1) (bs + 6) I L := c_X11_bad (r := (.inr k9)) hE a1 I L h
theorem q_438 : (Cond.fieldLink "DeviceFind" (216 : Nat) "DeviceFind$Devices" "different" "[I") ∈ lw_tbl := List.mem_of_getElem? (i := 438) (by decide +kernel)
theorem q_1152 : (Cond.code ({ cls := "DeviceFind", name := "joined", desc := "(I)I" } : Jvm.MethodName) prog_1_method_16_code (2 : Nat) (Option.some Jvm.ClassFile.FieldType.int)) ∈ lw_tbl := List.mem_of_getElem? (i := 1152) (by decide +kernel)
theorem yy_X11_joined : zY yX11_joined cX11_joined 2 (some .int) 1 := ⟨q_1152, q_75, by decide +kernel, by decide +kernel, by decide +kernel⟩
noncomputable def f_X11_joined (P : Nat) (a1 : Int32) (I : zI) : Option ((Int32 ⊕ Nat)) :=
  zb1 (f_X11_mustBeTrue (I 0 10)) (fun x2 => zsm x2 (fun x3 => zck (decide (I 0 8 = nI (P + 1))) (zb1 (f_X11_mustBeBelow a1 (I P 15)) (fun x7 => zsm x7 (fun x8 => zck (zbd a1 8) (zlt (I 83 a1.toNatClampNeg) (fun x11 => some (.inl x11)))) (fun k9 => some (.inr k9))))) (fun k4 => some (.inr k4)))
set_option maxHeartbeats 4000000 in
set_option maxRecDepth 100000 in
theorem c_X11_joined {r : (Int32 ⊕ Nat)} (hE : zE0 l s0 a0 d cy B0) {P : Nat} (hP : zpl P) (a1 : Int32) (I : zI) (L : zL) (h : f_X11_joined P a1 I = some r) : zM l s0 d cy B0 yX11_joined cX11_joined 2 (some .int) 7 110 [.ref (B0 + 0), .int a1] zSH zKn bc bs I L (zri r) zSH zKn (zfc r bc) (zfs r bs) I L := by
  refine z_meth yy_X11_joined hE (Nat.le_of_ble_eq_true rfl) (fun p e R s m args below meth c C => ?_)
  show zG p l e R s m args below meth c d cy B0 2 bc bs (zQ below s args d cy B0 bc bs (zri r) zSH zKn (zfc r bc) (zfs r bs) I L) 0 [(0, .ref (B0 + 0)), (1, .int a1)] [] zSH zKn bc bs I L
  unfold f_X11_joined at h
  refine z_aload_n C rfl 0 rfl dX11_joined_0 ?_
  refine z_geti C zc_11 dX11_joined_1 10 0 rfl (by decide) (by decide) q_479 rfl ?_
  obtain ⟨x2, hg1, h⟩ := zb1_e h
  rcases x2 with x3 | k4
  · have h := zsm_l h
    refine z_callS C dX11_joined_4 yy_X11_mustBeTrue (cn_X11_mustBeTrue C.2.2.2.2.1  (I 0 10) I L hg1) q_793 q_794 (by decide) (by decide) rfl rfl (Nat.le_of_ble_eq_true rfl) ⟨Nat.le_refl _, zfc_le _ _, Nat.le_refl _, zfs_le _ _⟩ ?_
    refine z_iload_n C rfl 1 rfl dX11_joined_7 ?_
    refine z_aload_n C rfl 0 rfl dX11_joined_8 ?_
    obtain ⟨hb5, h⟩ := zck_e h
    refine z_getm C zc_11 dX11_joined_9 8 0 P rfl (by decide) (by decide) q_477 rfl (of_decide_eq_true hb5) (zpl_lt2 hP) ?_
    refine z_geti C zc_7 dX11_joined_12 15 P (zpl_k hP) (zpl_lt hP) (by decide) q_211 rfl ?_
    obtain ⟨x7, hg6, h⟩ := zb1_e h
    rcases x7 with x8 | k9
    · have h := zsm_l h
      refine z_callS C dX11_joined_15 yy_X11_mustBeBelow (cn_X11_mustBeBelow C.2.2.2.2.1  a1 (I P 15) I L hg6) q_726 q_727 (by decide) (by decide) rfl rfl (Nat.le_of_ble_eq_true rfl) ⟨Nat.le_refl _, zfc_le _ _, Nat.le_refl _, zfs_le _ _⟩ ?_
      refine z_aload_n C rfl 0 rfl dX11_joined_18 ?_
      refine z_getr C zc_11 dX11_joined_19 7 0 73 rfl (by decide) (by decide) q_476 rfl rfl ?_
      refine z_getr C zc_0 dX11_joined_22 6 73 83 rfl (by decide) (by decide) q_438 rfl rfl ?_
      refine z_iload_n C rfl 1 rfl dX11_joined_25 ?_
      obtain ⟨hb10, h⟩ := zck_e h
      refine z_iaload C dX11_joined_26 rfl rfl (by decide) (zbd_in hb10) ?_
      obtain ⟨x11, ex11, h⟩ := zlt_e h
      refine z_eqi C ex11 ?_
      obtain rfl := Option.some.inj h
      exact z_iret C dX11_joined_27 .int rfl rfl rfl
    · have h := zsm_r h
      obtain rfl := Option.some.inj h
      exact z_callSX C dX11_joined_15 yy_X11_mustBeBelow (cx_X11_mustBeBelow C.2.2.2.2.1  a1 (I P 15) I L hg6) q_726 q_727 (by decide) (by decide) rfl rfl (Nat.le_of_ble_eq_true rfl) ⟨Nat.le_succ _, Nat.le_refl _, Nat.le_add_right _ _, Nat.le_refl _⟩ rfl rfl
  · have h := zsm_r h
    obtain rfl := Option.some.inj h
    exact z_callSX C dX11_joined_4 yy_X11_mustBeTrue (cx_X11_mustBeTrue C.2.2.2.2.1  (I 0 10) I L hg1) q_793 q_794 (by decide) (by decide) rfl rfl (Nat.le_of_ble_eq_true rfl) ⟨Nat.le_succ _, Nat.le_refl _, Nat.le_add_right _ _, Nat.le_refl _⟩ rfl rfl
set_option maxHeartbeats 4000000 in
set_option maxRecDepth 100000 in
theorem cn_X11_joined {v9 : Int32} (hE : zE0 l s0 a0 d cy B0) {P : Nat} (hP : zpl P) (a1 : Int32) (I : zI) (L : zL) (h : f_X11_joined P a1 I = some (.inl v9)) : zM l s0 d cy B0 yX11_joined cX11_joined 2 (some .int) 7 110 [.ref (B0 + 0), .int a1] zSH zKn bc bs I L (.inl (some (.int v9))) zSH zKn bc bs I L := c_X11_joined (r := (.inl v9)) hE hP a1 I L h
set_option maxHeartbeats 4000000 in
set_option maxRecDepth 100000 in
theorem cx_X11_joined {k9 : Nat} (hE : zE0 l s0 a0 d cy B0) {P : Nat} (hP : zpl P) (a1 : Int32) (I : zI) (L : zL) (h : f_X11_joined P a1 I = some (.inr k9)) : zM l s0 d cy B0 yX11_joined cX11_joined 2 (some .int) 7 110 [.ref (B0 + 0), .int a1] zSH zKn bc bs I L (.inr (zex k9)) zSH zKn (bc + 1) (bs + 6) I L := c_X11_joined (r := (.inr k9)) hE hP a1 I L h
theorem q_199 : (Cond.fieldLink "DeviceFind" (219 : Nat) "DeviceFind$Plan" "layers" "I") ∈ lw_tbl := List.mem_of_getElem? (i := 199) (by decide +kernel)
theorem q_208 : (Cond.fieldLink "DeviceFind" (221 : Nat) "DeviceFind$Plan" "joins" "I") ∈ lw_tbl := List.mem_of_getElem? (i := 208) (by decide +kernel)
theorem q_1159 : (Cond.code ({ cls := "DeviceFind", name := "count", desc := "(I)I" } : Jvm.MethodName) prog_1_method_17_code (2 : Nat) (Option.some Jvm.ClassFile.FieldType.int)) ∈ lw_tbl := List.mem_of_getElem? (i := 1159) (by decide +kernel)
theorem yy_X11_count : zY yX11_count cX11_count 2 (some .int) 1 := ⟨q_1159, q_75, by decide +kernel, by decide +kernel, by decide +kernel⟩
noncomputable def f_X11_count_102 (P : Nat) (w0 : Int32) (I : zI) : Option ((Int32 ⊕ Nat)) :=
  some (.inl w0)
noncomputable def f_X11_count_121 (P : Nat) (w0 : Int32) (I : zI) : Option ((Int32 ⊕ Nat)) :=
  some (.inl w0)
noncomputable def f_X11_count (P : Nat) (a1 : Int32) (I : zI) : Option ((Int32 ⊕ Nat)) :=
  zb1 (f_X11_mustBeBelow a1 (9 : Int32)) (fun x2 => zsm x2 (fun x3 => if a1 = (0 : Int32) then (zck (decide (I 0 8 = nI (P + 1))) (zlt (I P 12) (fun x6 => some (.inl x6)))) else (if a1 = (1 : Int32) then (zck (decide (I 0 8 = nI (P + 1))) (zlt (I P 13) (fun x8 => some (.inl x8)))) else (if a1 = (2 : Int32) then (zck (decide (I 0 8 = nI (P + 1))) (zlt (I P 14) (fun x10 => some (.inl x10)))) else (if a1 = (3 : Int32) then (zck (decide (I 0 8 = nI (P + 1))) (zlt (I P 15) (fun x12 => some (.inl x12)))) else (if a1 = (4 : Int32) then (if (I 0 10) = 0 then (f_X11_count_102 P (0 : Int32) I) else (f_X11_count_102 P (I 73 7) I)) else (if a1 = (5 : Int32) then (if (I 0 10) = 0 then (f_X11_count_121 P (0 : Int32) I) else (f_X11_count_121 P (I 61 1) I)) else (if a1 = (6 : Int32) then (zlt (I 20 5) (fun x13 => some (.inl x13))) else (if a1 = (7 : Int32) then (zlt (I 26 0) (fun x14 => some (.inl x14))) else (zlt (I 1 1) (fun x15 => some (.inl x15))))))))))) (fun k4 => some (.inr k4)))
set_option maxHeartbeats 4000000 in
set_option maxRecDepth 100000 in
theorem l_X11_count_102 {r : (Int32 ⊕ Nat)} (C : zC p l e R s m args below meth c s0 a0 d cy B0 yX11_count.cls cX11_count 2 (some .int) bc bs (zfc r bc) (zfs r bs) 7 110 []) {P : Nat} (hP : zpl P) (L : zL) (w0 : Int32) (I : zI) (h : f_X11_count_102 P w0 I = some r) : zG p l e R s m args below meth c d cy B0 2 bc bs (zQ below s args d cy B0 bc bs (zri r) zSH zKn (zfc r bc) (zfs r bs) I L) 102 [] [.int w0] zSH zKn bc bs I L := by
  unfold f_X11_count_102 at h
  obtain rfl := Option.some.inj h
  exact z_iret C dX11_count_102 .int rfl rfl rfl
set_option maxHeartbeats 4000000 in
set_option maxRecDepth 100000 in
theorem l_X11_count_121 {r : (Int32 ⊕ Nat)} (C : zC p l e R s m args below meth c s0 a0 d cy B0 yX11_count.cls cX11_count 2 (some .int) bc bs (zfc r bc) (zfs r bs) 7 110 []) {P : Nat} (hP : zpl P) (L : zL) (w0 : Int32) (I : zI) (h : f_X11_count_121 P w0 I = some r) : zG p l e R s m args below meth c d cy B0 2 bc bs (zQ below s args d cy B0 bc bs (zri r) zSH zKn (zfc r bc) (zfs r bs) I L) 121 [] [.int w0] zSH zKn bc bs I L := by
  unfold f_X11_count_121 at h
  obtain rfl := Option.some.inj h
  exact z_iret C dX11_count_121 .int rfl rfl rfl
set_option maxHeartbeats 4000000 in
set_option maxRecDepth 100000 in
theorem c_X11_count {r : (Int32 ⊕ Nat)} (hE : zE0 l s0 a0 d cy B0) {P : Nat} (hP : zpl P) (a1 : Int32) (I : zI) (L : zL) (h : f_X11_count P a1 I = some r) : zM l s0 d cy B0 yX11_count cX11_count 2 (some .int) 7 110 [.ref (B0 + 0), .int a1] zSH zKn bc bs I L (zri r) zSH zKn (zfc r bc) (zfs r bs) I L := by
  refine z_meth yy_X11_count hE (Nat.le_of_ble_eq_true rfl) (fun p e R s m args below meth c C => ?_)
  show zG p l e R s m args below meth c d cy B0 2 bc bs (zQ below s args d cy B0 bc bs (zri r) zSH zKn (zfc r bc) (zfs r bs) I L) 0 [(0, .ref (B0 + 0)), (1, .int a1)] [] zSH zKn bc bs I L
  unfold f_X11_count at h
  refine z_iload_n C rfl 1 rfl dX11_count_0 ?_
  refine z_bipush C (v := 9) (by decide) dX11_count_1 ?_
  obtain ⟨x2, hg1, h⟩ := zb1_e h
  rcases x2 with x3 | k4
  · have h := zsm_l h
    refine z_callS C dX11_count_3 yy_X11_mustBeBelow (cn_X11_mustBeBelow C.2.2.2.2.1  a1 (9 : Int32) I L hg1) q_726 q_727 (by decide) (by decide) rfl rfl (Nat.le_of_ble_eq_true rfl) ⟨Nat.le_refl _, zfc_le _ _, Nat.le_refl _, zfs_le _ _⟩ ?_
    refine z_iload_n C rfl 1 rfl dX11_count_6 ?_
    by_cases hc0 : a1 = (0 : Int32)
    · have h := zif_t hc0 h
      refine z_tableIn C 52 (by rw [hc0]; decide) (by rw [hc0]; decide) (by rw [hc0]; rfl) (by decide) dX11_count_7 ?_
      refine z_aload_n C rfl 0 rfl dX11_count_52 ?_
      obtain ⟨hb5, h⟩ := zck_e h
      refine z_getm C zc_11 dX11_count_53 8 0 P rfl (by decide) (by decide) q_477 rfl (of_decide_eq_true hb5) (zpl_lt2 hP) ?_
      refine z_geti C zc_7 dX11_count_56 12 P (zpl_k hP) (zpl_lt hP) (by decide) q_199 rfl ?_
      obtain ⟨x6, ex6, h⟩ := zlt_e h
      refine z_eqi C ex6 ?_
      obtain rfl := Option.some.inj h
      exact z_iret C dX11_count_59 .int rfl rfl rfl
    · have h := zif_f hc0 h
      by_cases hc1 : a1 = (1 : Int32)
      · have h := zif_t hc1 h
        refine z_tableIn C 60 (by rw [hc1]; decide) (by rw [hc1]; decide) (by rw [hc1]; rfl) (by decide) dX11_count_7 ?_
        refine z_aload_n C rfl 0 rfl dX11_count_60 ?_
        obtain ⟨hb7, h⟩ := zck_e h
        refine z_getm C zc_11 dX11_count_61 8 0 P rfl (by decide) (by decide) q_477 rfl (of_decide_eq_true hb7) (zpl_lt2 hP) ?_
        refine z_geti C zc_7 dX11_count_64 13 P (zpl_k hP) (zpl_lt hP) (by decide) q_204 rfl ?_
        obtain ⟨x8, ex8, h⟩ := zlt_e h
        refine z_eqi C ex8 ?_
        obtain rfl := Option.some.inj h
        exact z_iret C dX11_count_67 .int rfl rfl rfl
      · have h := zif_f hc1 h
        by_cases hc2 : a1 = (2 : Int32)
        · have h := zif_t hc2 h
          refine z_tableIn C 68 (by rw [hc2]; decide) (by rw [hc2]; decide) (by rw [hc2]; rfl) (by decide) dX11_count_7 ?_
          refine z_aload_n C rfl 0 rfl dX11_count_68 ?_
          obtain ⟨hb9, h⟩ := zck_e h
          refine z_getm C zc_11 dX11_count_69 8 0 P rfl (by decide) (by decide) q_477 rfl (of_decide_eq_true hb9) (zpl_lt2 hP) ?_
          refine z_geti C zc_7 dX11_count_72 14 P (zpl_k hP) (zpl_lt hP) (by decide) q_208 rfl ?_
          obtain ⟨x10, ex10, h⟩ := zlt_e h
          refine z_eqi C ex10 ?_
          obtain rfl := Option.some.inj h
          exact z_iret C dX11_count_75 .int rfl rfl rfl
        · have h := zif_f hc2 h
          by_cases hc3 : a1 = (3 : Int32)
          · have h := zif_t hc3 h
            refine z_tableIn C 76 (by rw [hc3]; decide) (by rw [hc3]; decide) (by rw [hc3]; rfl) (by decide) dX11_count_7 ?_
            refine z_aload_n C rfl 0 rfl dX11_count_76 ?_
            obtain ⟨hb11, h⟩ := zck_e h
            refine z_getm C zc_11 dX11_count_77 8 0 P rfl (by decide) (by decide) q_477 rfl (of_decide_eq_true hb11) (zpl_lt2 hP) ?_
            refine z_geti C zc_7 dX11_count_80 15 P (zpl_k hP) (zpl_lt hP) (by decide) q_211 rfl ?_
            obtain ⟨x12, ex12, h⟩ := zlt_e h
            refine z_eqi C ex12 ?_
            obtain rfl := Option.some.inj h
            exact z_iret C dX11_count_83 .int rfl rfl rfl
          · have h := zif_f hc3 h
            by_cases hc4 : a1 = (4 : Int32)
            · have h := zif_t hc4 h
              refine z_tableIn C 84 (by rw [hc4]; decide) (by rw [hc4]; decide) (by rw [hc4]; rfl) (by decide) dX11_count_7 ?_
              refine z_aload_n C rfl 0 rfl dX11_count_84 ?_
              refine z_geti C zc_11 dX11_count_85 10 0 rfl (by decide) (by decide) q_479 rfl ?_
              refine z_if_eq C 101 (by decide) dX11_count_88 (fun hc => ?_) (fun hc => ?_)
              · have h := zif_t hc h
                refine z_iconst C (v := 0) (by decide) dX11_count_101 ?_
                refine z_lv [] (lv' := []) rfl ?_
                exact l_X11_count_102 C hP L (0 : Int32) I h
              · have h := zif_f hc h
                refine z_aload_n C rfl 0 rfl dX11_count_91 ?_
                refine z_getr C zc_11 dX11_count_92 7 0 73 rfl (by decide) (by decide) q_476 rfl rfl ?_
                refine z_geti C zc_0 dX11_count_95 7 73 rfl (by decide) (by decide) q_440 rfl ?_
                refine z_goto C 102 (by decide) dX11_count_98 ?_
                refine z_lv [] (lv' := []) rfl ?_
                exact l_X11_count_102 C hP L (I 73 7) I h
            · have h := zif_f hc4 h
              by_cases hc5 : a1 = (5 : Int32)
              · have h := zif_t hc5 h
                refine z_tableIn C 103 (by rw [hc5]; decide) (by rw [hc5]; decide) (by rw [hc5]; rfl) (by decide) dX11_count_7 ?_
                refine z_aload_n C rfl 0 rfl dX11_count_103 ?_
                refine z_geti C zc_11 dX11_count_104 10 0 rfl (by decide) (by decide) q_479 rfl ?_
                refine z_if_eq C 120 (by decide) dX11_count_107 (fun hc => ?_) (fun hc => ?_)
                · have h := zif_t hc h
                  refine z_iconst C (v := 0) (by decide) dX11_count_120 ?_
                  refine z_lv [] (lv' := []) rfl ?_
                  exact l_X11_count_121 C hP L (0 : Int32) I h
                · have h := zif_f hc h
                  refine z_aload_n C rfl 0 rfl dX11_count_110 ?_
                  refine z_getr C zc_11 dX11_count_111 6 0 61 rfl (by decide) (by decide) q_475 rfl rfl ?_
                  refine z_geti C zc_3 dX11_count_114 1 61 rfl (by decide) (by decide) q_373 rfl ?_
                  refine z_goto C 121 (by decide) dX11_count_117 ?_
                  refine z_lv [] (lv' := []) rfl ?_
                  exact l_X11_count_121 C hP L (I 61 1) I h
              · have h := zif_f hc5 h
                by_cases hc6 : a1 = (6 : Int32)
                · have h := zif_t hc6 h
                  refine z_tableIn C 122 (by rw [hc6]; decide) (by rw [hc6]; decide) (by rw [hc6]; rfl) (by decide) dX11_count_7 ?_
                  refine z_aload_n C rfl 0 rfl dX11_count_122 ?_
                  refine z_getr C zc_11 dX11_count_123 3 0 20 rfl (by decide) (by decide) q_472 rfl rfl ?_
                  refine z_geti C zc_1 dX11_count_126 5 20 rfl (by decide) (by decide) q_278 rfl ?_
                  obtain ⟨x13, ex13, h⟩ := zlt_e h
                  refine z_eqi C ex13 ?_
                  obtain rfl := Option.some.inj h
                  exact z_iret C dX11_count_129 .int rfl rfl rfl
                · have h := zif_f hc6 h
                  by_cases hc7 : a1 = (7 : Int32)
                  · have h := zif_t hc7 h
                    refine z_tableIn C 130 (by rw [hc7]; decide) (by rw [hc7]; decide) (by rw [hc7]; rfl) (by decide) dX11_count_7 ?_
                    refine z_aload_n C rfl 0 rfl dX11_count_130 ?_
                    refine z_getr C zc_11 dX11_count_131 4 0 26 rfl (by decide) (by decide) q_473 rfl rfl ?_
                    refine z_geti C zc_4 dX11_count_134 0 26 rfl (by decide) (by decide) q_299 rfl ?_
                    obtain ⟨x14, ex14, h⟩ := zlt_e h
                    refine z_eqi C ex14 ?_
                    obtain rfl := Option.some.inj h
                    exact z_iret C dX11_count_137 .int rfl rfl rfl
                  · have h := zif_f hc7 h
                    refine z_tableOut C 138 (z_sw (n := 8) (by decide) (fun k hk => by match k, hk with | 0, _ => exact hc0 | 1, _ => exact hc1 | 2, _ => exact hc2 | 3, _ => exact hc3 | 4, _ => exact hc4 | 5, _ => exact hc5 | 6, _ => exact hc6 | 7, _ => exact hc7)) (by decide) dX11_count_7 ?_
                    refine z_aload_n C rfl 0 rfl dX11_count_138 ?_
                    refine z_getr C zc_11 dX11_count_139 1 0 1 rfl (by decide) (by decide) q_470 rfl rfl ?_
                    refine z_geti C zc_9 dX11_count_142 1 1 rfl (by decide) (by decide) q_128 rfl ?_
                    obtain ⟨x15, ex15, h⟩ := zlt_e h
                    refine z_eqi C ex15 ?_
                    obtain rfl := Option.some.inj h
                    exact z_iret C dX11_count_145 .int rfl rfl rfl
  · have h := zsm_r h
    obtain rfl := Option.some.inj h
    exact z_callSX C dX11_count_3 yy_X11_mustBeBelow (cx_X11_mustBeBelow C.2.2.2.2.1  a1 (9 : Int32) I L hg1) q_726 q_727 (by decide) (by decide) rfl rfl (Nat.le_of_ble_eq_true rfl) ⟨Nat.le_succ _, Nat.le_refl _, Nat.le_add_right _ _, Nat.le_refl _⟩ rfl rfl
set_option maxHeartbeats 4000000 in
set_option maxRecDepth 100000 in
theorem cn_X11_count {v9 : Int32} (hE : zE0 l s0 a0 d cy B0) {P : Nat} (hP : zpl P) (a1 : Int32) (I : zI) (L : zL) (h : f_X11_count P a1 I = some (.inl v9)) : zM l s0 d cy B0 yX11_count cX11_count 2 (some .int) 7 110 [.ref (B0 + 0), .int a1] zSH zKn bc bs I L (.inl (some (.int v9))) zSH zKn bc bs I L := c_X11_count (r := (.inl v9)) hE hP a1 I L h
set_option maxHeartbeats 4000000 in
set_option maxRecDepth 100000 in
theorem cx_X11_count {k9 : Nat} (hE : zE0 l s0 a0 d cy B0) {P : Nat} (hP : zpl P) (a1 : Int32) (I : zI) (L : zL) (h : f_X11_count P a1 I = some (.inr k9)) : zM l s0 d cy B0 yX11_count cX11_count 2 (some .int) 7 110 [.ref (B0 + 0), .int a1] zSH zKn bc bs I L (.inr (zex k9)) zSH zKn (bc + 1) (bs + 6) I L := c_X11_count (r := (.inr k9)) hE hP a1 I L h
theorem q_88 : (Cond.initialized "DeviceFindModel") ∈ lw_tbl := List.mem_of_getElem? (i := 88) (by decide +kernel)
theorem q_1169 : (Cond.fieldLink "DeviceFindModel" (124 : Nat) "DeviceFindModel" "code" "I") ∈ lw_tbl := List.mem_of_getElem? (i := 1169) (by decide +kernel)
theorem q_1345 : (Cond.code ({ cls := "DeviceFindModel", name := "thrown", desc := "()I" } : Jvm.MethodName) prog_14_method_2_code (1 : Nat) (Option.some Jvm.ClassFile.FieldType.int)) ∈ lw_tbl := List.mem_of_getElem? (i := 1345) (by decide +kernel)
theorem yy_X12_thrown : zY yX12_thrown cX12_thrown 1 (some .int) 0 := ⟨q_1345, q_88, by decide +kernel, by decide +kernel, by decide +kernel⟩
noncomputable def f_X12_thrown (I : zI) : Option Int32 :=
  zlt (I 97 0) (fun x1 => some x1)
set_option maxHeartbeats 4000000 in
set_option maxRecDepth 100000 in
theorem c_X12_thrown {r : Int32} (hE : zE0 l s0 a0 d cy B0) (I : zI) (L : zL) (h : f_X12_thrown I = some r) : zM l s0 d cy B0 yX12_thrown cX12_thrown 1 (some .int) 0 0 [.ref (B0 + 97)] zSH zKn bc bs I L (.inl (some (.int r))) zSH zKn bc bs I L := by
  refine z_meth yy_X12_thrown hE (Nat.le_of_ble_eq_true rfl) (fun p e R s m args below meth c C => ?_)
  show zG p l e R s m args below meth c d cy B0 1 bc bs (zQ below s args d cy B0 bc bs (.inl (some (.int r))) zSH zKn bc bs I L) 0 [(0, .ref (B0 + 97))] [] zSH zKn bc bs I L
  unfold f_X12_thrown at h
  refine z_aload_n C rfl 0 rfl dX12_thrown_0 ?_
  refine z_geti C zc_12 dX12_thrown_1 0 97 rfl (by decide) (by decide) q_1169 rfl ?_
  obtain ⟨x1, ex1, h⟩ := zlt_e h
  refine z_eqi C ex1 ?_
  obtain rfl := Option.some.inj h
  exact z_iret C dX12_thrown_4 .int rfl rfl rfl
theorem q_1170 : (Cond.fieldLink "DeviceFindModel" (120 : Nat) "DeviceFindModel" "inputs" "I") ∈ lw_tbl := List.mem_of_getElem? (i := 1170) (by decide +kernel)
theorem q_1171 : (Cond.fieldLink "DeviceFindModel" (127 : Nat) "DeviceFindModel" "polygons" "I") ∈ lw_tbl := List.mem_of_getElem? (i := 1171) (by decide +kernel)
theorem q_1172 : (Cond.fieldLink "DeviceFindModel" (7 : Nat) "DeviceFindModel" "polygonOn" "[I") ∈ lw_tbl := List.mem_of_getElem? (i := 1172) (by decide +kernel)
theorem q_1173 : (Cond.fieldLink "DeviceFindModel" (13 : Nat) "DeviceFindModel" "corners" "[I") ∈ lw_tbl := List.mem_of_getElem? (i := 1173) (by decide +kernel)
theorem q_1199 : (Cond.fieldLink "DeviceFindModel" (130 : Nat) "DeviceFindModel" "found" "Z") ∈ lw_tbl := List.mem_of_getElem? (i := 1199) (by decide +kernel)
theorem q_1349 : (Cond.code ({ cls := "DeviceFindModel", name := "polygon", desc := "(I)I" } : Jvm.MethodName) prog_14_method_3_code (2 : Nat) (Option.some Jvm.ClassFile.FieldType.int)) ∈ lw_tbl := List.mem_of_getElem? (i := 1349) (by decide +kernel)
theorem yy_X12_polygon : zY yX12_polygon cX12_polygon 2 (some .int) 1 := ⟨q_1349, q_88, by decide +kernel, by decide +kernel, by decide +kernel⟩
noncomputable def f_X12_polygon_31 (v1 : Int32) (w1 : Int32) (I : zI) : Option (Int32 × zI) :=
  zlt (zu I 97 0 w1) (fun I1 => if (I1 97 0) ≤ 0 then (zck (zbd (I1 97 2) 60) (zlt (zu I1 98 (I1 97 2).toNatClampNeg v1) (fun I3 => zck (zbd (I3 97 2) 60) (zlt (zu I3 99 (I3 97 2).toNatClampNeg (0 : Int32)) (fun I5 => zlt ((I5 97 2) + (1 : Int32)) (fun x6 => zlt (zu I5 97 2 x6) (fun I7 => zlt (zu I7 97 30 (0 : Int32)) (fun I8 => zlt ((I8 97 2) - (1 : Int32)) (fun x9 => some (x9, I8)))))))))) else (some ((0 : Int32), I1)))
noncomputable def f_X12_polygon_13 (v1 : Int32) (I : zI) : Option (Int32 × zI) :=
  f_X12_polygon_31 v1 (1 : Int32) I
noncomputable def f_X12_polygon (a1 : Int32) (I : zI) : Option (Int32 × zI) :=
  if a1 < 0 then (f_X12_polygon_13 a1 I) else (if a1 < (I 97 1) then (if (I 97 2) = (60 : Int32) then (f_X12_polygon_31 a1 (2 : Int32) I) else (f_X12_polygon_31 a1 (0 : Int32) I)) else (f_X12_polygon_13 a1 I))
set_option maxHeartbeats 4000000 in
set_option maxRecDepth 100000 in
theorem l_X12_polygon_31 {r : Int32 × zI} (C : zC p l e R s m args below meth c s0 a0 d cy B0 yX12_polygon.cls cX12_polygon 2 (some .int) bc bs bc bs 0 0 []) (L : zL) (v1 : Int32) (w1 : Int32) (I : zI) (h : f_X12_polygon_31 v1 w1 I = some r) : zG p l e R s m args below meth c d cy B0 2 bc bs (zQ below s args d cy B0 bc bs (.inl (some (.int r.1))) zSH zKn bc bs r.2 L) 31 [(0, .ref (B0 + 97)), (1, .int v1)] [.int w1, .ref (B0 + 97)] zSH zKn bc bs I L := by
  unfold f_X12_polygon_31 at h
  refine z_puti C zc_12 dX12_polygon_31 0 97 rfl (by decide) (by decide) rfl q_1169 rfl rfl rfl ?_
  obtain ⟨I1, eI1, h⟩ := zlt_e h
  refine z_eqI C eI1 ?_
  refine z_aload_n C rfl 0 rfl dX12_polygon_34 ?_
  refine z_geti C zc_12 dX12_polygon_35 0 97 rfl (by decide) (by decide) q_1169 rfl ?_
  refine z_if_le C 43 (by decide) dX12_polygon_38 (fun hc => ?_) (fun hc => ?_)
  · have h := zif_t hc h
    refine z_aload_n C rfl 0 rfl dX12_polygon_43 ?_
    refine z_getr C zc_12 dX12_polygon_44 3 97 98 rfl (by decide) (by decide) q_1172 rfl rfl ?_
    refine z_aload_n C rfl 0 rfl dX12_polygon_47 ?_
    refine z_geti C zc_12 dX12_polygon_48 2 97 rfl (by decide) (by decide) q_1171 rfl ?_
    refine z_iload_n C rfl 1 rfl dX12_polygon_51 ?_
    obtain ⟨hb2, h⟩ := zck_e h
    refine z_iastore C dX12_polygon_52 rfl rfl (by decide) (zbd_in hb2) ?_
    obtain ⟨I3, eI3, h⟩ := zlt_e h
    refine z_eqI C eI3 ?_
    refine z_aload_n C rfl 0 rfl dX12_polygon_53 ?_
    refine z_getr C zc_12 dX12_polygon_54 4 97 99 rfl (by decide) (by decide) q_1173 rfl rfl ?_
    refine z_aload_n C rfl 0 rfl dX12_polygon_57 ?_
    refine z_geti C zc_12 dX12_polygon_58 2 97 rfl (by decide) (by decide) q_1171 rfl ?_
    refine z_iconst C (v := 0) (by decide) dX12_polygon_61 ?_
    obtain ⟨hb4, h⟩ := zck_e h
    refine z_iastore C dX12_polygon_62 rfl rfl (by decide) (zbd_in hb4) ?_
    obtain ⟨I5, eI5, h⟩ := zlt_e h
    refine z_eqI C eI5 ?_
    refine z_aload_n C rfl 0 rfl dX12_polygon_63 ?_
    refine z_dup C rfl dX12_polygon_64 ?_
    refine z_geti C zc_12 dX12_polygon_65 2 97 rfl (by decide) (by decide) q_1171 rfl ?_
    refine z_iconst C (v := 1) (by decide) dX12_polygon_68 ?_
    refine z_iadd C dX12_polygon_69 ?_
    obtain ⟨x6, ex6, h⟩ := zlt_e h
    refine z_eqi C ex6 ?_
    refine z_puti C zc_12 dX12_polygon_70 2 97 rfl (by decide) (by decide) rfl q_1171 rfl rfl rfl ?_
    obtain ⟨I7, eI7, h⟩ := zlt_e h
    refine z_eqI C eI7 ?_
    refine z_aload_n C rfl 0 rfl dX12_polygon_73 ?_
    refine z_iconst C (v := 0) (by decide) dX12_polygon_74 ?_
    refine z_puti C zc_12 dX12_polygon_75 30 97 rfl (by decide) (by decide) rfl q_1199 rfl rfl rfl ?_
    obtain ⟨I8, eI8, h⟩ := zlt_e h
    refine z_eqI C eI8 ?_
    refine z_aload_n C rfl 0 rfl dX12_polygon_78 ?_
    refine z_geti C zc_12 dX12_polygon_79 2 97 rfl (by decide) (by decide) q_1171 rfl ?_
    refine z_iconst C (v := 1) (by decide) dX12_polygon_82 ?_
    refine z_isub C dX12_polygon_83 ?_
    obtain ⟨x9, ex9, h⟩ := zlt_e h
    refine z_eqi C ex9 ?_
    obtain rfl := Option.some.inj h
    exact z_iret C dX12_polygon_84 .int rfl rfl rfl
  · have h := zif_f hc h
    refine z_iconst C (v := 0) (by decide) dX12_polygon_41 ?_
    obtain rfl := Option.some.inj h
    exact z_iret C dX12_polygon_42 .int rfl rfl rfl
set_option maxHeartbeats 4000000 in
set_option maxRecDepth 100000 in
theorem l_X12_polygon_13 {r : Int32 × zI} (C : zC p l e R s m args below meth c s0 a0 d cy B0 yX12_polygon.cls cX12_polygon 2 (some .int) bc bs bc bs 0 0 []) (L : zL) (v1 : Int32) (I : zI) (h : f_X12_polygon_13 v1 I = some r) : zG p l e R s m args below meth c d cy B0 2 bc bs (zQ below s args d cy B0 bc bs (.inl (some (.int r.1))) zSH zKn bc bs r.2 L) 13 [(0, .ref (B0 + 97)), (1, .int v1)] [.ref (B0 + 97)] zSH zKn bc bs I L := by
  unfold f_X12_polygon_13 at h
  refine z_iconst C (v := 1) (by decide) dX12_polygon_13 ?_
  refine z_goto C 31 (by decide) dX12_polygon_14 ?_
  exact l_X12_polygon_31 C L v1 (1 : Int32) I h
set_option maxHeartbeats 4000000 in
set_option maxRecDepth 100000 in
theorem c_X12_polygon {r : Int32 × zI} (hE : zE0 l s0 a0 d cy B0) (a1 : Int32) (I : zI) (L : zL) (h : f_X12_polygon a1 I = some r) : zM l s0 d cy B0 yX12_polygon cX12_polygon 2 (some .int) 0 0 [.ref (B0 + 97), .int a1] zSH zKn bc bs I L (.inl (some (.int r.1))) zSH zKn bc bs r.2 L := by
  refine z_meth yy_X12_polygon hE (Nat.le_of_ble_eq_true rfl) (fun p e R s m args below meth c C => ?_)
  show zG p l e R s m args below meth c d cy B0 2 bc bs (zQ below s args d cy B0 bc bs (.inl (some (.int r.1))) zSH zKn bc bs r.2 L) 0 [(0, .ref (B0 + 97)), (1, .int a1)] [] zSH zKn bc bs I L
  unfold f_X12_polygon at h
  refine z_aload_n C rfl 0 rfl dX12_polygon_0 ?_
  refine z_iload_n C rfl 1 rfl dX12_polygon_1 ?_
  refine z_if_lt C 13 (by decide) dX12_polygon_2 (fun hc => ?_) (fun hc => ?_)
  · have h := zif_t hc h
    exact l_X12_polygon_13 C L a1 I h
  · have h := zif_f hc h
    refine z_iload_n C rfl 1 rfl dX12_polygon_5 ?_
    refine z_aload_n C rfl 0 rfl dX12_polygon_6 ?_
    refine z_geti C zc_12 dX12_polygon_7 1 97 rfl (by decide) (by decide) q_1170 rfl ?_
    refine z_icmp_lt C 17 (by decide) dX12_polygon_10 (fun hc => ?_) (fun hc => ?_)
    · have h := zif_t hc h
      refine z_aload_n C rfl 0 rfl dX12_polygon_17 ?_
      refine z_geti C zc_12 dX12_polygon_18 2 97 rfl (by decide) (by decide) q_1171 rfl ?_
      refine z_bipush C (v := 60) (by decide) dX12_polygon_21 ?_
      refine z_icmp_ne C 30 (by decide) dX12_polygon_23 (fun hc => ?_) (fun hc => ?_)
      · have h := zif_f hc h
        refine z_iconst C (v := 0) (by decide) dX12_polygon_30 ?_
        exact l_X12_polygon_31 C L a1 (0 : Int32) I h
      · have h := zif_t hc h
        refine z_iconst C (v := 2) (by decide) dX12_polygon_26 ?_
        refine z_goto C 31 (by decide) dX12_polygon_27 ?_
        exact l_X12_polygon_31 C L a1 (2 : Int32) I h
    · have h := zif_f hc h
      exact l_X12_polygon_13 C L a1 I h
theorem q_1174 : (Cond.fieldLink "DeviceFindModel" (16 : Nat) "DeviceFindModel" "px" "[I") ∈ lw_tbl := List.mem_of_getElem? (i := 1174) (by decide +kernel)
theorem q_1175 : (Cond.fieldLink "DeviceFindModel" (19 : Nat) "DeviceFindModel" "py" "[I") ∈ lw_tbl := List.mem_of_getElem? (i := 1175) (by decide +kernel)
theorem q_1353 : (Cond.code ({ cls := "DeviceFindModel", name := "corner", desc := "(IJJ)Z" } : Jvm.MethodName) prog_14_method_4_code (7 : Nat) (Option.some Jvm.ClassFile.FieldType.boolean)) ∈ lw_tbl := List.mem_of_getElem? (i := 1353) (by decide +kernel)
theorem q_1354 : (Cond.constantLong "DeviceFindModel" (134 : Nat) (64 : Int64)) ∈ lw_tbl := List.mem_of_getElem? (i := 1354) (by decide +kernel)
theorem yy_X12_corner : zY yX12_corner cX12_corner 7 (some .boolean) 3 := ⟨q_1353, q_88, by decide +kernel, by decide +kernel, by decide +kernel⟩
noncomputable def f_X12_corner_147 (v1 : Int32) (v2 : Int64) (v4 : Int64) (v6 : Int32) (I : zI) : Option (Int32 × zI) :=
  zck (zbd v6 960) (zlt (zu I 100 v6.toNatClampNeg v2.toInt32) (fun I10 => zck (zbd v6 960) (zlt (zu I10 101 v6.toNatClampNeg v4.toInt32) (fun I12 => zck (zbd v1 60) (zlt ((I12 99 v1.toNatClampNeg) + (1 : Int32)) (fun x14 => zck (zbd v1 60) (zlt (zu I12 99 v1.toNatClampNeg x14) (fun I16 => zlt (zu I16 97 30 (0 : Int32)) (fun I17 => some ((1 : Int32), I17))))))))))
noncomputable def f_X12_corner_142 (v1 : Int32) (v2 : Int64) (v4 : Int64) (v6 : Int32) (w0 : Int32) (w1 : Int32) (I : zI) : Option (Int32 × zI) :=
  if w0 = w1 then (some ((0 : Int32), I)) else (f_X12_corner_147 v1 v2 v4 v6 I)
noncomputable def f_X12_corner_121 (v1 : Int32) (v2 : Int64) (v4 : Int64) (v6 : Int32) (w0 : Int32) (I : zI) : Option (Int32 × zI) :=
  zlt (v6 - (1 : Int32)) (fun x18 => zck (zbd x18 960) (zlt ((I 101 x18.toNatClampNeg).toInt64) (fun x20 => if x20 = v4 then (f_X12_corner_142 v1 v2 v4 v6 w0 (1 : Int32) I) else (f_X12_corner_142 v1 v2 v4 v6 w0 (0 : Int32) I))))
noncomputable def f_X12_corner_67 (v1 : Int32) (v2 : Int64) (v4 : Int64) (w1 : Int32) (I : zI) : Option (Int32 × zI) :=
  zlt (zu I 97 0 w1) (fun I2 => if (I2 97 0) ≤ 0 then (zck (zbd v1 60) (zlt (((16 : Int32) * v1) + (I2 99 v1.toNatClampNeg)) (fun x4 => zck (zbd v1 60) (if (I2 99 v1.toNatClampNeg) ≤ 0 then (f_X12_corner_147 v1 v2 v4 x4 I2) else (zlt (x4 - (1 : Int32)) (fun x6 => zck (zbd x6 960) (zlt ((I2 100 x6.toNatClampNeg).toInt64) (fun x8 => if x8 = v2 then (f_X12_corner_121 v1 v2 v4 x4 (1 : Int32) I2) else (f_X12_corner_121 v1 v2 v4 x4 (0 : Int32) I2))))))))) else (some ((0 : Int32), I2)))
noncomputable def f_X12_corner_13 (v1 : Int32) (v2 : Int64) (v4 : Int64) (I : zI) : Option (Int32 × zI) :=
  f_X12_corner_67 v1 v2 v4 (1 : Int32) I
noncomputable def f_X12_corner_62 (v1 : Int32) (v2 : Int64) (v4 : Int64) (I : zI) : Option (Int32 × zI) :=
  f_X12_corner_67 v1 v2 v4 (3 : Int32) I
noncomputable def f_X12_corner (a1 : Int32) (a2 : Int64) (a3 : Int64) (I : zI) : Option (Int32 × zI) :=
  if a1 < 0 then (f_X12_corner_13 a1 a2 a3 I) else (if a1 < (I 97 2) then (zck (zbd a1 60) (if (I 99 a1.toNatClampNeg) = (16 : Int32) then (f_X12_corner_67 a1 a2 a3 (2 : Int32) I) else (if a2 < (0 : Int64) then (f_X12_corner_62 a1 a2 a3 I) else (if (64 : Int64) < a2 then (f_X12_corner_62 a1 a2 a3 I) else (if a3 < (0 : Int64) then (f_X12_corner_62 a1 a2 a3 I) else (if a3 ≤ (64 : Int64) then (f_X12_corner_67 a1 a2 a3 (0 : Int32) I) else (f_X12_corner_62 a1 a2 a3 I))))))) else (f_X12_corner_13 a1 a2 a3 I))
set_option maxHeartbeats 4000000 in
set_option maxRecDepth 100000 in
theorem l_X12_corner_147 {r : Int32 × zI} (C : zC p l e R s m args below meth c s0 a0 d cy B0 yX12_corner.cls cX12_corner 7 (some .boolean) bc bs bc bs 0 0 []) (L : zL) (v1 : Int32) (v2 : Int64) (v4 : Int64) (v6 : Int32) (I : zI) (h : f_X12_corner_147 v1 v2 v4 v6 I = some r) : zG p l e R s m args below meth c d cy B0 7 bc bs (zQ below s args d cy B0 bc bs (.inl (some (.int r.1))) zSH zKn bc bs r.2 L) 147 [(0, .ref (B0 + 97)), (1, .int v1), (2, .long v2), (4, .long v4), (6, .int v6)] [] zSH zKn bc bs I L := by
  unfold f_X12_corner_147 at h
  refine z_aload_n C rfl 0 rfl dX12_corner_147 ?_
  refine z_getr C zc_12 dX12_corner_148 5 97 100 rfl (by decide) (by decide) q_1174 rfl rfl ?_
  refine z_iload C 4 rfl dX12_corner_151 ?_
  refine z_lload_n C rfl 2 rfl dX12_corner_153 ?_
  refine z_l2i C dX12_corner_154 ?_
  obtain ⟨hb9, h⟩ := zck_e h
  refine z_iastore C dX12_corner_155 rfl rfl (by decide) (zbd_in hb9) ?_
  obtain ⟨I10, eI10, h⟩ := zlt_e h
  refine z_eqI C eI10 ?_
  refine z_aload_n C rfl 0 rfl dX12_corner_156 ?_
  refine z_getr C zc_12 dX12_corner_157 6 97 101 rfl (by decide) (by decide) q_1175 rfl rfl ?_
  refine z_iload C 4 rfl dX12_corner_160 ?_
  refine z_lload C 3 rfl dX12_corner_162 ?_
  refine z_l2i C dX12_corner_164 ?_
  obtain ⟨hb11, h⟩ := zck_e h
  refine z_iastore C dX12_corner_165 rfl rfl (by decide) (zbd_in hb11) ?_
  obtain ⟨I12, eI12, h⟩ := zlt_e h
  refine z_eqI C eI12 ?_
  refine z_aload_n C rfl 0 rfl dX12_corner_166 ?_
  refine z_getr C zc_12 dX12_corner_167 4 97 99 rfl (by decide) (by decide) q_1173 rfl rfl ?_
  refine z_iload_n C rfl 1 rfl dX12_corner_170 ?_
  refine z_dup2_11 C rfl rfl dX12_corner_171 ?_
  obtain ⟨hb13, h⟩ := zck_e h
  refine z_iaload C dX12_corner_172 rfl rfl (by decide) (zbd_in hb13) ?_
  refine z_iconst C (v := 1) (by decide) dX12_corner_173 ?_
  refine z_iadd C dX12_corner_174 ?_
  obtain ⟨x14, ex14, h⟩ := zlt_e h
  refine z_eqi C ex14 ?_
  obtain ⟨hb15, h⟩ := zck_e h
  refine z_iastore C dX12_corner_175 rfl rfl (by decide) (zbd_in hb15) ?_
  obtain ⟨I16, eI16, h⟩ := zlt_e h
  refine z_eqI C eI16 ?_
  refine z_aload_n C rfl 0 rfl dX12_corner_176 ?_
  refine z_iconst C (v := 0) (by decide) dX12_corner_177 ?_
  refine z_puti C zc_12 dX12_corner_178 30 97 rfl (by decide) (by decide) rfl q_1199 rfl rfl rfl ?_
  obtain ⟨I17, eI17, h⟩ := zlt_e h
  refine z_eqI C eI17 ?_
  refine z_iconst C (v := 1) (by decide) dX12_corner_181 ?_
  obtain rfl := Option.some.inj h
  exact z_iret C dX12_corner_182 .boolean rfl rfl rfl
set_option maxHeartbeats 4000000 in
set_option maxRecDepth 100000 in
theorem l_X12_corner_142 {r : Int32 × zI} (C : zC p l e R s m args below meth c s0 a0 d cy B0 yX12_corner.cls cX12_corner 7 (some .boolean) bc bs bc bs 0 0 []) (L : zL) (v1 : Int32) (v2 : Int64) (v4 : Int64) (v6 : Int32) (w0 : Int32) (w1 : Int32) (I : zI) (h : f_X12_corner_142 v1 v2 v4 v6 w0 w1 I = some r) : zG p l e R s m args below meth c d cy B0 7 bc bs (zQ below s args d cy B0 bc bs (.inl (some (.int r.1))) zSH zKn bc bs r.2 L) 142 [(0, .ref (B0 + 97)), (1, .int v1), (2, .long v2), (4, .long v4), (6, .int v6)] [.int w1, .int w0] zSH zKn bc bs I L := by
  unfold f_X12_corner_142 at h
  refine z_icmp_ne C 147 (by decide) dX12_corner_142 (fun hc => ?_) (fun hc => ?_)
  · have h := zif_f hc h
    exact l_X12_corner_147 C L v1 v2 v4 v6 I h
  · have h := zif_t hc h
    refine z_iconst C (v := 0) (by decide) dX12_corner_145 ?_
    obtain rfl := Option.some.inj h
    exact z_iret C dX12_corner_146 .boolean rfl rfl rfl
set_option maxHeartbeats 4000000 in
set_option maxRecDepth 100000 in
theorem l_X12_corner_121 {r : Int32 × zI} (C : zC p l e R s m args below meth c s0 a0 d cy B0 yX12_corner.cls cX12_corner 7 (some .boolean) bc bs bc bs 0 0 []) (L : zL) (v1 : Int32) (v2 : Int64) (v4 : Int64) (v6 : Int32) (w0 : Int32) (I : zI) (h : f_X12_corner_121 v1 v2 v4 v6 w0 I = some r) : zG p l e R s m args below meth c d cy B0 7 bc bs (zQ below s args d cy B0 bc bs (.inl (some (.int r.1))) zSH zKn bc bs r.2 L) 121 [(0, .ref (B0 + 97)), (1, .int v1), (2, .long v2), (4, .long v4), (6, .int v6)] [.int w0] zSH zKn bc bs I L := by
  unfold f_X12_corner_121 at h
  refine z_aload_n C rfl 0 rfl dX12_corner_121 ?_
  refine z_getr C zc_12 dX12_corner_122 6 97 101 rfl (by decide) (by decide) q_1175 rfl rfl ?_
  refine z_iload C 4 rfl dX12_corner_125 ?_
  refine z_iconst C (v := 1) (by decide) dX12_corner_127 ?_
  refine z_isub C dX12_corner_128 ?_
  obtain ⟨x18, ex18, h⟩ := zlt_e h
  refine z_eqi C ex18 ?_
  obtain ⟨hb19, h⟩ := zck_e h
  refine z_iaload C dX12_corner_129 rfl rfl (by decide) (zbd_in hb19) ?_
  refine z_i2l C dX12_corner_130 ?_
  obtain ⟨x20, ex20, h⟩ := zlt_e h
  refine z_eql C ex20 ?_
  refine z_lload C 3 rfl dX12_corner_131 ?_
  refine z_lif_ne C 141 (by decide) dX12_corner_133 dX12_corner_134 (fun hc => ?_) (fun hc => ?_)
  · have h := zif_f hc h
    refine z_iconst C (v := 0) (by decide) dX12_corner_141 ?_
    exact l_X12_corner_142 C L v1 v2 v4 v6 w0 (0 : Int32) I h
  · have h := zif_t hc h
    refine z_iconst C (v := 1) (by decide) dX12_corner_137 ?_
    refine z_goto C 142 (by decide) dX12_corner_138 ?_
    exact l_X12_corner_142 C L v1 v2 v4 v6 w0 (1 : Int32) I h
set_option maxHeartbeats 4000000 in
set_option maxRecDepth 100000 in
theorem l_X12_corner_67 {r : Int32 × zI} (C : zC p l e R s m args below meth c s0 a0 d cy B0 yX12_corner.cls cX12_corner 7 (some .boolean) bc bs bc bs 0 0 []) (L : zL) (v1 : Int32) (v2 : Int64) (v4 : Int64) (w1 : Int32) (I : zI) (h : f_X12_corner_67 v1 v2 v4 w1 I = some r) : zG p l e R s m args below meth c d cy B0 7 bc bs (zQ below s args d cy B0 bc bs (.inl (some (.int r.1))) zSH zKn bc bs r.2 L) 67 [(0, .ref (B0 + 97)), (1, .int v1), (2, .long v2), (4, .long v4)] [.int w1, .ref (B0 + 97)] zSH zKn bc bs I L := by
  unfold f_X12_corner_67 at h
  refine z_puti C zc_12 dX12_corner_67 0 97 rfl (by decide) (by decide) rfl q_1169 rfl rfl rfl ?_
  obtain ⟨I2, eI2, h⟩ := zlt_e h
  refine z_eqI C eI2 ?_
  refine z_aload_n C rfl 0 rfl dX12_corner_70 ?_
  refine z_geti C zc_12 dX12_corner_71 0 97 rfl (by decide) (by decide) q_1169 rfl ?_
  refine z_if_le C 79 (by decide) dX12_corner_74 (fun hc => ?_) (fun hc => ?_)
  · have h := zif_t hc h
    refine z_bipush C (v := 16) (by decide) dX12_corner_79 ?_
    refine z_iload_n C rfl 1 rfl dX12_corner_81 ?_
    refine z_imul C dX12_corner_82 ?_
    refine z_aload_n C rfl 0 rfl dX12_corner_83 ?_
    refine z_getr C zc_12 dX12_corner_84 4 97 99 rfl (by decide) (by decide) q_1173 rfl rfl ?_
    refine z_iload_n C rfl 1 rfl dX12_corner_87 ?_
    obtain ⟨hb3, h⟩ := zck_e h
    refine z_iaload C dX12_corner_88 rfl rfl (by decide) (zbd_in hb3) ?_
    refine z_iadd C dX12_corner_89 ?_
    obtain ⟨x4, ex4, h⟩ := zlt_e h
    refine z_eqi C ex4 ?_
    refine z_istore C (lv' := [(6, .int x4), (0, .ref (B0 + 97)), (1, .int v1), (2, .long v2), (4, .long v4)]) (by decide) rfl dX12_corner_90 ?_
    refine z_aload_n C rfl 1 rfl dX12_corner_92 ?_
    refine z_getr C zc_12 dX12_corner_93 4 97 99 rfl (by decide) (by decide) q_1173 rfl rfl ?_
    refine z_iload_n C rfl 2 rfl dX12_corner_96 ?_
    obtain ⟨hb5, h⟩ := zck_e h
    refine z_iaload C dX12_corner_97 rfl rfl (by decide) (zbd_in hb5) ?_
    refine z_if_le C 147 (by decide) dX12_corner_98 (fun hc => ?_) (fun hc => ?_)
    · have h := zif_t hc h
      refine z_lv [1, 2, 3, 4, 0] (lv' := [(0, .ref (B0 + 97)), (1, .int v1), (2, .long v2), (4, .long v4), (6, .int x4)]) rfl ?_
      exact l_X12_corner_147 C L v1 v2 v4 x4 I2 h
    · have h := zif_f hc h
      refine z_aload_n C rfl 1 rfl dX12_corner_101 ?_
      refine z_getr C zc_12 dX12_corner_102 5 97 100 rfl (by decide) (by decide) q_1174 rfl rfl ?_
      refine z_iload C 0 rfl dX12_corner_105 ?_
      refine z_iconst C (v := 1) (by decide) dX12_corner_107 ?_
      refine z_isub C dX12_corner_108 ?_
      obtain ⟨x6, ex6, h⟩ := zlt_e h
      refine z_eqi C ex6 ?_
      obtain ⟨hb7, h⟩ := zck_e h
      refine z_iaload C dX12_corner_109 rfl rfl (by decide) (zbd_in hb7) ?_
      refine z_i2l C dX12_corner_110 ?_
      obtain ⟨x8, ex8, h⟩ := zlt_e h
      refine z_eql C ex8 ?_
      refine z_lload_n C rfl 3 rfl dX12_corner_111 ?_
      refine z_lif_ne C 120 (by decide) dX12_corner_112 dX12_corner_113 (fun hc => ?_) (fun hc => ?_)
      · have h := zif_f hc h
        refine z_iconst C (v := 0) (by decide) dX12_corner_120 ?_
        refine z_lv [1, 2, 3, 4, 0] (lv' := [(0, .ref (B0 + 97)), (1, .int v1), (2, .long v2), (4, .long v4), (6, .int x4)]) rfl ?_
        exact l_X12_corner_121 C L v1 v2 v4 x4 (0 : Int32) I2 h
      · have h := zif_t hc h
        refine z_iconst C (v := 1) (by decide) dX12_corner_116 ?_
        refine z_goto C 121 (by decide) dX12_corner_117 ?_
        refine z_lv [1, 2, 3, 4, 0] (lv' := [(0, .ref (B0 + 97)), (1, .int v1), (2, .long v2), (4, .long v4), (6, .int x4)]) rfl ?_
        exact l_X12_corner_121 C L v1 v2 v4 x4 (1 : Int32) I2 h
  · have h := zif_f hc h
    refine z_iconst C (v := 0) (by decide) dX12_corner_77 ?_
    obtain rfl := Option.some.inj h
    exact z_iret C dX12_corner_78 .boolean rfl rfl rfl
set_option maxHeartbeats 4000000 in
set_option maxRecDepth 100000 in
theorem l_X12_corner_13 {r : Int32 × zI} (C : zC p l e R s m args below meth c s0 a0 d cy B0 yX12_corner.cls cX12_corner 7 (some .boolean) bc bs bc bs 0 0 []) (L : zL) (v1 : Int32) (v2 : Int64) (v4 : Int64) (I : zI) (h : f_X12_corner_13 v1 v2 v4 I = some r) : zG p l e R s m args below meth c d cy B0 7 bc bs (zQ below s args d cy B0 bc bs (.inl (some (.int r.1))) zSH zKn bc bs r.2 L) 13 [(0, .ref (B0 + 97)), (1, .int v1), (2, .long v2), (4, .long v4)] [.ref (B0 + 97)] zSH zKn bc bs I L := by
  unfold f_X12_corner_13 at h
  refine z_iconst C (v := 1) (by decide) dX12_corner_13 ?_
  refine z_goto C 67 (by decide) dX12_corner_14 ?_
  exact l_X12_corner_67 C L v1 v2 v4 (1 : Int32) I h
set_option maxHeartbeats 4000000 in
set_option maxRecDepth 100000 in
theorem l_X12_corner_62 {r : Int32 × zI} (C : zC p l e R s m args below meth c s0 a0 d cy B0 yX12_corner.cls cX12_corner 7 (some .boolean) bc bs bc bs 0 0 []) (L : zL) (v1 : Int32) (v2 : Int64) (v4 : Int64) (I : zI) (h : f_X12_corner_62 v1 v2 v4 I = some r) : zG p l e R s m args below meth c d cy B0 7 bc bs (zQ below s args d cy B0 bc bs (.inl (some (.int r.1))) zSH zKn bc bs r.2 L) 62 [(0, .ref (B0 + 97)), (1, .int v1), (2, .long v2), (4, .long v4)] [.ref (B0 + 97)] zSH zKn bc bs I L := by
  unfold f_X12_corner_62 at h
  refine z_iconst C (v := 3) (by decide) dX12_corner_62 ?_
  refine z_goto C 67 (by decide) dX12_corner_63 ?_
  exact l_X12_corner_67 C L v1 v2 v4 (3 : Int32) I h
set_option maxHeartbeats 4000000 in
set_option maxRecDepth 100000 in
theorem c_X12_corner {r : Int32 × zI} (hE : zE0 l s0 a0 d cy B0) (a1 : Int32) (a2 : Int64) (a3 : Int64) (I : zI) (L : zL) (h : f_X12_corner a1 a2 a3 I = some r) : zM l s0 d cy B0 yX12_corner cX12_corner 7 (some .boolean) 0 0 [.ref (B0 + 97), .int a1, .long a2, .long a3] zSH zKn bc bs I L (.inl (some (.int r.1))) zSH zKn bc bs r.2 L := by
  refine z_meth yy_X12_corner hE (Nat.le_of_ble_eq_true rfl) (fun p e R s m args below meth c C => ?_)
  show zG p l e R s m args below meth c d cy B0 7 bc bs (zQ below s args d cy B0 bc bs (.inl (some (.int r.1))) zSH zKn bc bs r.2 L) 0 [(0, .ref (B0 + 97)), (1, .int a1), (2, .long a2), (4, .long a3)] [] zSH zKn bc bs I L
  unfold f_X12_corner at h
  refine z_aload_n C rfl 0 rfl dX12_corner_0 ?_
  refine z_iload_n C rfl 1 rfl dX12_corner_1 ?_
  refine z_if_lt C 13 (by decide) dX12_corner_2 (fun hc => ?_) (fun hc => ?_)
  · have h := zif_t hc h
    exact l_X12_corner_13 C L a1 a2 a3 I h
  · have h := zif_f hc h
    refine z_iload_n C rfl 1 rfl dX12_corner_5 ?_
    refine z_aload_n C rfl 0 rfl dX12_corner_6 ?_
    refine z_geti C zc_12 dX12_corner_7 2 97 rfl (by decide) (by decide) q_1171 rfl ?_
    refine z_icmp_lt C 17 (by decide) dX12_corner_10 (fun hc => ?_) (fun hc => ?_)
    · have h := zif_t hc h
      refine z_aload_n C rfl 0 rfl dX12_corner_17 ?_
      refine z_getr C zc_12 dX12_corner_18 4 97 99 rfl (by decide) (by decide) q_1173 rfl rfl ?_
      refine z_iload_n C rfl 1 rfl dX12_corner_21 ?_
      obtain ⟨hb1, h⟩ := zck_e h
      refine z_iaload C dX12_corner_22 rfl rfl (by decide) (zbd_in hb1) ?_
      refine z_bipush C (v := 16) (by decide) dX12_corner_23 ?_
      refine z_icmp_ne C 32 (by decide) dX12_corner_25 (fun hc => ?_) (fun hc => ?_)
      · have h := zif_f hc h
        refine z_lload_n C rfl 2 rfl dX12_corner_32 ?_
        refine z_lconst C (v := 0) (by decide) dX12_corner_33 ?_
        refine z_lif_lt C 62 (by decide) dX12_corner_34 dX12_corner_35 (fun hc => ?_) (fun hc => ?_)
        · have h := zif_t hc h
          exact l_X12_corner_62 C L a1 a2 a3 I h
        · have h := zif_f hc h
          refine z_lload_n C rfl 2 rfl dX12_corner_38 ?_
          refine z_ldc2 C dX12_corner_39 q_1354 ?_
          refine z_lif_gt C 62 (by decide) dX12_corner_42 dX12_corner_43 (fun hc => ?_) (fun hc => ?_)
          · have h := zif_t hc h
            exact l_X12_corner_62 C L a1 a2 a3 I h
          · have h := zif_f hc h
            refine z_lload C 3 rfl dX12_corner_46 ?_
            refine z_lconst C (v := 0) (by decide) dX12_corner_48 ?_
            refine z_lif_lt C 62 (by decide) dX12_corner_49 dX12_corner_50 (fun hc => ?_) (fun hc => ?_)
            · have h := zif_t hc h
              exact l_X12_corner_62 C L a1 a2 a3 I h
            · have h := zif_f hc h
              refine z_lload C 3 rfl dX12_corner_53 ?_
              refine z_ldc2 C dX12_corner_55 q_1354 ?_
              refine z_lif_le C 66 (by decide) dX12_corner_58 dX12_corner_59 (fun hc => ?_) (fun hc => ?_)
              · have h := zif_t hc h
                refine z_iconst C (v := 0) (by decide) dX12_corner_66 ?_
                exact l_X12_corner_67 C L a1 a2 a3 (0 : Int32) I h
              · have h := zif_f hc h
                exact l_X12_corner_62 C L a1 a2 a3 I h
      · have h := zif_t hc h
        refine z_iconst C (v := 2) (by decide) dX12_corner_28 ?_
        refine z_goto C 67 (by decide) dX12_corner_29 ?_
        exact l_X12_corner_67 C L a1 a2 a3 (2 : Int32) I h
    · have h := zif_f hc h
      exact l_X12_corner_13 C L a1 a2 a3 I h
end Zp05_14_walk
