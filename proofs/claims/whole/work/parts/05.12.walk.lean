section Zp05_12_walk
variable {p : Program} {l : Launch} {e : Env} {R : Room} {s : State} {m : MethodId} {args : Array Value} {below : List Frame} {meth : Method} {c : Code} {s0 : State} {a0 : Array Value} {d : va_G} {cy : Nat → ClassId} {B0 : Nat} {bc bs : Nat}
theorem q_299 : (Cond.fieldLink "DeviceFind" (152 : Nat) "DeviceFind$Notes" "told" "I") ∈ lw_tbl := List.mem_of_getElem? (i := 299) (by decide +kernel)
theorem q_473 : (Cond.fieldLink "DeviceFind" (49 : Nat) "DeviceFind" "notes" "LDeviceFind$Notes;") ∈ lw_tbl := List.mem_of_getElem? (i := 473) (by decide +kernel)
theorem q_853 : (Cond.code ({ cls := "DeviceFind", name := "text", desc := "(IJJI)I" } : Jvm.MethodName) prog_1_method_7_code (7 : Nat) (Option.some Jvm.ClassFile.FieldType.int)) ∈ lw_tbl := List.mem_of_getElem? (i := 853) (by decide +kernel)
theorem q_854 : (Cond.methodLink "DeviceFind" (148 : Nat) ({ cls := "DeviceFind", name := "mustBeSquare", desc := "(JJ)V" } : Jvm.MethodName)) ∈ lw_tbl := List.mem_of_getElem? (i := 854) (by decide +kernel)
theorem q_855 : (Cond.static ({ cls := "DeviceFind", name := "mustBeSquare", desc := "(JJ)V" } : Jvm.MethodName)) ∈ lw_tbl := List.mem_of_getElem? (i := 855) (by decide +kernel)
theorem q_857 : (Cond.methodLink "DeviceFind" (154 : Nat) ({ cls := "DeviceFind", name := "squareAt", desc := "(II)I" } : Jvm.MethodName)) ∈ lw_tbl := List.mem_of_getElem? (i := 857) (by decide +kernel)
theorem q_860 : (Cond.methodLink "DeviceFind" (157 : Nat) ({ cls := "DeviceFind$Notes", name := "add", desc := "(III)V" } : Jvm.MethodName)) ∈ lw_tbl := List.mem_of_getElem? (i := 860) (by decide +kernel)
theorem q_861 : (Cond.instanceMethod ({ cls := "DeviceFind$Notes", name := "add", desc := "(III)V" } : Jvm.MethodName)) ∈ lw_tbl := List.mem_of_getElem? (i := 861) (by decide +kernel)
theorem q_862 : (Cond.selects "DeviceFind$Notes" ({ cls := "DeviceFind$Notes", name := "add", desc := "(III)V" } : Jvm.MethodName) ({ cls := "DeviceFind$Notes", name := "add", desc := "(III)V" } : Jvm.MethodName)) ∈ lw_tbl := List.mem_of_getElem? (i := 862) (by decide +kernel)
theorem yy_X11_text : zY yX11_text cX11_text 7 (some .int) 4 := ⟨q_853, q_75, by decide +kernel, by decide +kernel, by decide +kernel⟩
noncomputable def f_X11_text_29 (v1 : Int32) (v2 : Int64) (v4 : Int64) (v6 : Int32) (w0 : Int32) (I : zI) : Option ((Int32 ⊕ Nat) × zI) :=
  zb1 (f_X11_mustBeTrue w0) (fun x10 => zsm x10 (fun x11 => if 0 ≤ v6 then (zlt (zu I 0 10 (0 : Int32)) (fun I13 => zb1 (f_X11_squareAt v2.toInt32 v4.toInt32) (fun x15 => zb1 (f_X4_add v1 x15 v6 I13) (fun I17 => zlt (I17 26 0) (fun x18 => some (.inl x18, I17)))))) else (some (.inr 2, I))) (fun k12 => some (.inr k12, I)))
noncomputable def f_X11_text (a1 : Int32) (a2 : Int64) (a3 : Int64) (a4 : Int32) (I : zI) : Option ((Int32 ⊕ Nat) × zI) :=
  zb1 (f_X11_mustBeBelow a1 (8 : Int32)) (fun x2 => zsm x2 (fun x3 => zb1 (f_X11_mustBeSquare a2 a3) (fun x6 => zsm x6 (fun x7 => if (40 : Int32) ≤ (I 26 0) then (f_X11_text_29 a1 a2 a3 a4 (0 : Int32) I) else (f_X11_text_29 a1 a2 a3 a4 (1 : Int32) I)) (fun k8 => some (.inr k8, I)))) (fun k4 => some (.inr k4, I)))
set_option maxHeartbeats 4000000 in
set_option maxRecDepth 100000 in
theorem l_X11_text_29 {r : (Int32 ⊕ Nat) × zI} (C : zC p l e R s m args below meth c s0 a0 d cy B0 yX11_text.cls cX11_text 7 (some .int) bc bs (zfc r.1 bc) (zfs r.1 bs) 7 112 []) (L : zL) (v1 : Int32) (v2 : Int64) (v4 : Int64) (v6 : Int32) (w0 : Int32) (I : zI) (h : f_X11_text_29 v1 v2 v4 v6 w0 I = some r) : zG p l e R s m args below meth c d cy B0 7 bc bs (zQ below s args d cy B0 bc bs (zri r.1) zSH zKn (zfc r.1 bc) (zfs r.1 bs) r.2 L) 29 [(0, .ref (B0 + 0)), (1, .int v1), (2, .long v2), (4, .long v4), (6, .int v6)] [.int w0] zSH zKn bc bs I L := by
  unfold f_X11_text_29 at h
  obtain ⟨x10, hg9, h⟩ := zb1_e h
  rcases x10 with x11 | k12
  · have h := zsm_l h
    refine z_callS C dX11_text_29 yy_X11_mustBeTrue (cn_X11_mustBeTrue C.2.2.2.2.1  w0 I L hg9) q_793 q_794 (by decide) (by decide) rfl rfl (Nat.le_of_ble_eq_true rfl) ⟨Nat.le_refl _, zfc_le _ _, Nat.le_refl _, zfs_le _ _⟩ ?_
    refine z_iload C 4 rfl dX11_text_32 ?_
    refine z_if_ge C 45 (by decide) dX11_text_34 (fun hc => ?_) (fun hc => ?_)
    · have h := zif_t hc h
      refine z_aload_n C rfl 0 rfl dX11_text_45 ?_
      refine z_iconst C (v := 0) (by decide) dX11_text_46 ?_
      refine z_puti C zc_11 dX11_text_47 10 0 rfl (by decide) (by decide) rfl q_479 rfl rfl rfl ?_
      obtain ⟨I13, eI13, h⟩ := zlt_e h
      refine z_eqI C eI13 ?_
      refine z_aload_n C rfl 0 rfl dX11_text_50 ?_
      refine z_getr C zc_11 dX11_text_51 4 0 26 rfl (by decide) (by decide) q_473 rfl rfl ?_
      refine z_iload_n C rfl 1 rfl dX11_text_54 ?_
      refine z_lload_n C rfl 2 rfl dX11_text_55 ?_
      refine z_l2i C dX11_text_56 ?_
      refine z_lload C 3 rfl dX11_text_57 ?_
      refine z_l2i C dX11_text_59 ?_
      obtain ⟨x15, hg14, h⟩ := zb1_e h
      refine z_callS C dX11_text_60 yy_X11_squareAt (c_X11_squareAt C.2.2.2.2.1  v2.toInt32 v4.toInt32 I13 L hg14) q_857 q_858 (by decide) (by decide) rfl rfl (Nat.le_of_ble_eq_true rfl) ⟨Nat.le_refl _, zfc_le _ _, Nat.le_refl _, zfs_le _ _⟩ ?_
      refine z_iload C 4 rfl dX11_text_63 ?_
      obtain ⟨I17, hg16, h⟩ := zb1_e h
      refine z_callV C zc_4 rfl (by decide) dX11_text_65 yy_X4_add (c_X4_add C.2.2.2.2.1  v1 x15 v6 I13 L hg16) q_860 q_861 q_862 (by decide) (by decide) rfl rfl (Nat.le_of_ble_eq_true rfl) ⟨Nat.le_refl _, zfc_le _ _, Nat.le_refl _, zfs_le _ _⟩ ?_
      refine z_aload_n C rfl 0 rfl dX11_text_68 ?_
      refine z_getr C zc_11 dX11_text_69 4 0 26 rfl (by decide) (by decide) q_473 rfl rfl ?_
      refine z_geti C zc_4 dX11_text_72 0 26 rfl (by decide) (by decide) q_299 rfl ?_
      obtain ⟨x18, ex18, h⟩ := zlt_e h
      refine z_eqi C ex18 ?_
      obtain rfl := Option.some.inj h
      exact z_iret C dX11_text_75 .int rfl rfl rfl
    · have h := zif_f hc h
      obtain rfl := Option.some.inj h
      exact z_throw C dX11_text_37 dX11_text_40 dX11_text_41 dX11_text_44 (by decide +kernel) q_824 q_98 xat_X11_143 rfl (by decide) (Nat.le_of_ble_eq_true rfl) ⟨rfl, rfl⟩ rfl rfl rfl rfl
  · have h := zsm_r h
    obtain rfl := Option.some.inj h
    exact z_callSX C dX11_text_29 yy_X11_mustBeTrue (cx_X11_mustBeTrue C.2.2.2.2.1  w0 I L hg9) q_793 q_794 (by decide) (by decide) rfl rfl (Nat.le_of_ble_eq_true rfl) ⟨Nat.le_succ _, Nat.le_refl _, Nat.le_add_right _ _, Nat.le_refl _⟩ rfl rfl
set_option maxHeartbeats 4000000 in
set_option maxRecDepth 100000 in
theorem c_X11_text {r : (Int32 ⊕ Nat) × zI} (hE : zE0 l s0 a0 d cy B0) (a1 : Int32) (a2 : Int64) (a3 : Int64) (a4 : Int32) (I : zI) (L : zL) (h : f_X11_text a1 a2 a3 a4 I = some r) : zM l s0 d cy B0 yX11_text cX11_text 7 (some .int) 7 112 [.ref (B0 + 0), .int a1, .long a2, .long a3, .int a4] zSH zKn bc bs I L (zri r.1) zSH zKn (zfc r.1 bc) (zfs r.1 bs) r.2 L := by
  refine z_meth yy_X11_text hE (Nat.le_of_ble_eq_true rfl) (fun p e R s m args below meth c C => ?_)
  show zG p l e R s m args below meth c d cy B0 7 bc bs (zQ below s args d cy B0 bc bs (zri r.1) zSH zKn (zfc r.1 bc) (zfs r.1 bs) r.2 L) 0 [(0, .ref (B0 + 0)), (1, .int a1), (2, .long a2), (4, .long a3), (6, .int a4)] [] zSH zKn bc bs I L
  unfold f_X11_text at h
  refine z_iload_n C rfl 1 rfl dX11_text_0 ?_
  refine z_bipush C (v := 8) (by decide) dX11_text_1 ?_
  obtain ⟨x2, hg1, h⟩ := zb1_e h
  rcases x2 with x3 | k4
  · have h := zsm_l h
    refine z_callS C dX11_text_3 yy_X11_mustBeBelow (cn_X11_mustBeBelow C.2.2.2.2.1  a1 (8 : Int32) I L hg1) q_726 q_727 (by decide) (by decide) rfl rfl (Nat.le_of_ble_eq_true rfl) ⟨Nat.le_refl _, zfc_le _ _, Nat.le_refl _, zfs_le _ _⟩ ?_
    refine z_lload_n C rfl 2 rfl dX11_text_6 ?_
    refine z_lload C 3 rfl dX11_text_7 ?_
    obtain ⟨x6, hg5, h⟩ := zb1_e h
    rcases x6 with x7 | k8
    · have h := zsm_l h
      refine z_callS C dX11_text_9 yy_X11_mustBeSquare (cn_X11_mustBeSquare C.2.2.2.2.1  a2 a3 I L hg5) q_854 q_855 (by decide) (by decide) rfl rfl (Nat.le_of_ble_eq_true rfl) ⟨Nat.le_refl _, zfc_le _ _, Nat.le_refl _, zfs_le _ _⟩ ?_
      refine z_aload_n C rfl 0 rfl dX11_text_12 ?_
      refine z_getr C zc_11 dX11_text_13 4 0 26 rfl (by decide) (by decide) q_473 rfl rfl ?_
      refine z_geti C zc_4 dX11_text_16 0 26 rfl (by decide) (by decide) q_299 rfl ?_
      refine z_bipush C (v := 40) (by decide) dX11_text_19 ?_
      refine z_icmp_ge C 28 (by decide) dX11_text_21 (fun hc => ?_) (fun hc => ?_)
      · have h := zif_t hc h
        refine z_iconst C (v := 0) (by decide) dX11_text_28 ?_
        exact l_X11_text_29 C L a1 a2 a3 a4 (0 : Int32) I h
      · have h := zif_f hc h
        refine z_iconst C (v := 1) (by decide) dX11_text_24 ?_
        refine z_goto C 29 (by decide) dX11_text_25 ?_
        exact l_X11_text_29 C L a1 a2 a3 a4 (1 : Int32) I h
    · have h := zsm_r h
      obtain rfl := Option.some.inj h
      exact z_callSX C dX11_text_9 yy_X11_mustBeSquare (cx_X11_mustBeSquare C.2.2.2.2.1  a2 a3 I L hg5) q_854 q_855 (by decide) (by decide) rfl rfl (Nat.le_of_ble_eq_true rfl) ⟨Nat.le_succ _, Nat.le_refl _, Nat.le_add_right _ _, Nat.le_refl _⟩ rfl rfl
  · have h := zsm_r h
    obtain rfl := Option.some.inj h
    exact z_callSX C dX11_text_3 yy_X11_mustBeBelow (cx_X11_mustBeBelow C.2.2.2.2.1  a1 (8 : Int32) I L hg1) q_726 q_727 (by decide) (by decide) rfl rfl (Nat.le_of_ble_eq_true rfl) ⟨Nat.le_succ _, Nat.le_refl _, Nat.le_add_right _ _, Nat.le_refl _⟩ rfl rfl
set_option maxHeartbeats 4000000 in
set_option maxRecDepth 100000 in
theorem cn_X11_text {v9 : Int32} {I9 : zI} (hE : zE0 l s0 a0 d cy B0) (a1 : Int32) (a2 : Int64) (a3 : Int64) (a4 : Int32) (I : zI) (L : zL) (h : f_X11_text a1 a2 a3 a4 I = some (.inl v9, I9)) : zM l s0 d cy B0 yX11_text cX11_text 7 (some .int) 7 112 [.ref (B0 + 0), .int a1, .long a2, .long a3, .int a4] zSH zKn bc bs I L (.inl (some (.int v9))) zSH zKn bc bs I9 L := c_X11_text (r := (.inl v9, I9)) hE a1 a2 a3 a4 I L h
set_option maxHeartbeats 4000000 in
set_option maxRecDepth 100000 in
theorem cx_X11_text {k9 : Nat} {I9 : zI} (hE : zE0 l s0 a0 d cy B0) (a1 : Int32) (a2 : Int64) (a3 : Int64) (a4 : Int32) (I : zI) (L : zL) (h : f_X11_text a1 a2 a3 a4 I = some (.inr k9, I9)) : zM l s0 d cy B0 yX11_text cX11_text 7 (some .int) 7 112 [.ref (B0 + 0), .int a1, .long a2, .long a3, .int a4] zSH zKn bc bs I L (.inr (zex k9)) zSH zKn (bc + 1) (bs + 6) I9 L := c_X11_text (r := (.inr k9, I9)) hE a1 a2 a3 a4 I L h
theorem q_474 : (Cond.fieldLink "DeviceFind" (56 : Nat) "DeviceFind" "layers" "LDeviceFind$Layers;") ∈ lw_tbl := List.mem_of_getElem? (i := 474) (by decide +kernel)
theorem q_475 : (Cond.fieldLink "DeviceFind" (68 : Nat) "DeviceFind" "nets" "LDeviceFind$Nets;") ∈ lw_tbl := List.mem_of_getElem? (i := 475) (by decide +kernel)
theorem q_476 : (Cond.fieldLink "DeviceFind" (82 : Nat) "DeviceFind" "devices" "LDeviceFind$Devices;") ∈ lw_tbl := List.mem_of_getElem? (i := 476) (by decide +kernel)
theorem q_875 : (Cond.code ({ cls := "DeviceFind", name := "findAll", desc := "()Z" } : Jvm.MethodName) prog_1_method_18_code (1 : Nat) (Option.some Jvm.ClassFile.FieldType.boolean)) ∈ lw_tbl := List.mem_of_getElem? (i := 875) (by decide +kernel)
theorem q_876 : (Cond.methodLink "DeviceFind" (224 : Nat) ({ cls := "DeviceFind$Layers", name := "draw", desc := "(LDeviceFind$Plan;LDeviceFind$Drawing;)V" } : Jvm.MethodName)) ∈ lw_tbl := List.mem_of_getElem? (i := 876) (by decide +kernel)
theorem q_877 : (Cond.instanceMethod ({ cls := "DeviceFind$Layers", name := "draw", desc := "(LDeviceFind$Plan;LDeviceFind$Drawing;)V" } : Jvm.MethodName)) ∈ lw_tbl := List.mem_of_getElem? (i := 877) (by decide +kernel)
theorem q_878 : (Cond.selects "DeviceFind$Layers" ({ cls := "DeviceFind$Layers", name := "draw", desc := "(LDeviceFind$Plan;LDeviceFind$Drawing;)V" } : Jvm.MethodName) ({ cls := "DeviceFind$Layers", name := "draw", desc := "(LDeviceFind$Plan;LDeviceFind$Drawing;)V" } : Jvm.MethodName)) ∈ lw_tbl := List.mem_of_getElem? (i := 878) (by decide +kernel)
theorem q_907 : (Cond.methodLink "DeviceFind" (228 : Nat) ({ cls := "DeviceFind$Nets", name := "find", desc := "(LDeviceFind$Plan;)V" } : Jvm.MethodName)) ∈ lw_tbl := List.mem_of_getElem? (i := 907) (by decide +kernel)
theorem q_908 : (Cond.instanceMethod ({ cls := "DeviceFind$Nets", name := "find", desc := "(LDeviceFind$Plan;)V" } : Jvm.MethodName)) ∈ lw_tbl := List.mem_of_getElem? (i := 908) (by decide +kernel)
theorem q_909 : (Cond.selects "DeviceFind$Nets" ({ cls := "DeviceFind$Nets", name := "find", desc := "(LDeviceFind$Plan;)V" } : Jvm.MethodName) ({ cls := "DeviceFind$Nets", name := "find", desc := "(LDeviceFind$Plan;)V" } : Jvm.MethodName)) ∈ lw_tbl := List.mem_of_getElem? (i := 909) (by decide +kernel)
theorem q_976 : (Cond.methodLink "DeviceFind" (232 : Nat) ({ cls := "DeviceFind$Notes", name := "findNets", desc := "(LDeviceFind$Plan;LDeviceFind$Nets;)V" } : Jvm.MethodName)) ∈ lw_tbl := List.mem_of_getElem? (i := 976) (by decide +kernel)
theorem q_977 : (Cond.instanceMethod ({ cls := "DeviceFind$Notes", name := "findNets", desc := "(LDeviceFind$Plan;LDeviceFind$Nets;)V" } : Jvm.MethodName)) ∈ lw_tbl := List.mem_of_getElem? (i := 977) (by decide +kernel)
theorem q_978 : (Cond.selects "DeviceFind$Notes" ({ cls := "DeviceFind$Notes", name := "findNets", desc := "(LDeviceFind$Plan;LDeviceFind$Nets;)V" } : Jvm.MethodName) ({ cls := "DeviceFind$Notes", name := "findNets", desc := "(LDeviceFind$Plan;LDeviceFind$Nets;)V" } : Jvm.MethodName)) ∈ lw_tbl := List.mem_of_getElem? (i := 978) (by decide +kernel)
theorem q_988 : (Cond.methodLink "DeviceFind" (236 : Nat) ({ cls := "DeviceFind$Devices", name := "find", desc := "(LDeviceFind$Plan;)Z" } : Jvm.MethodName)) ∈ lw_tbl := List.mem_of_getElem? (i := 988) (by decide +kernel)
theorem q_989 : (Cond.instanceMethod ({ cls := "DeviceFind$Devices", name := "find", desc := "(LDeviceFind$Plan;)Z" } : Jvm.MethodName)) ∈ lw_tbl := List.mem_of_getElem? (i := 989) (by decide +kernel)
theorem q_990 : (Cond.selects "DeviceFind$Devices" ({ cls := "DeviceFind$Devices", name := "find", desc := "(LDeviceFind$Plan;)Z" } : Jvm.MethodName) ({ cls := "DeviceFind$Devices", name := "find", desc := "(LDeviceFind$Plan;)Z" } : Jvm.MethodName)) ∈ lw_tbl := List.mem_of_getElem? (i := 990) (by decide +kernel)
theorem yy_X11_findAll : zY yX11_findAll cX11_findAll 1 (some .boolean) 0 := ⟨q_875, q_75, by decide +kernel, by decide +kernel, by decide +kernel⟩
noncomputable def f_X11_findAll (P : Nat) (I : zI) (L : zL) : Option (Int32 × zI × zL) :=
  zck (decide (I 0 8 = nI (P + 1))) (zb1 (f_X2_draw P I L) (fun L3 => zck (decide (I 0 8 = nI (P + 1))) (zb2 (f_X3_find P I L3) (fun I6 L7 => zck (decide (I6 0 8 = nI (P + 1))) (zb1 (f_X4_findNets P I6) (fun I10 => zck (decide (I10 0 8 = nI (P + 1))) (zb3 (f_X0_find P I10 L7) (fun x13 I14 L15 => zck (zbo x13) (some (x13, I14, L15))))))))))
set_option maxHeartbeats 4000000 in
set_option maxRecDepth 100000 in
theorem c_X11_findAll {r : Int32 × zI × zL} (hE : zE0 l s0 a0 d cy B0) {P : Nat} (hP : zpl P) (I : zI) (L : zL) (h : f_X11_findAll P I L = some r) : zM l s0 d cy B0 yX11_findAll cX11_findAll 1 (some .boolean) 6 160 [.ref (B0 + 0)] zSH zKn bc bs I L (.inl (some (.int r.1))) zSH zKn bc bs r.2.1 r.2.2 := by
  refine z_meth yy_X11_findAll hE (Nat.le_of_ble_eq_true rfl) (fun p e R s m args below meth c C => ?_)
  show zG p l e R s m args below meth c d cy B0 1 bc bs (zQ below s args d cy B0 bc bs (.inl (some (.int r.1))) zSH zKn bc bs r.2.1 r.2.2) 0 [(0, .ref (B0 + 0))] [] zSH zKn bc bs I L
  unfold f_X11_findAll at h
  refine z_aload_n C rfl 0 rfl dX11_findAll_0 ?_
  refine z_getr C zc_11 dX11_findAll_1 5 0 31 rfl (by decide) (by decide) q_474 rfl rfl ?_
  refine z_aload_n C rfl 0 rfl dX11_findAll_4 ?_
  obtain ⟨hb1, h⟩ := zck_e h
  refine z_getm C zc_11 dX11_findAll_5 8 0 P rfl (by decide) (by decide) q_477 rfl (of_decide_eq_true hb1) (zpl_lt2 hP) ?_
  refine z_aload_n C rfl 0 rfl dX11_findAll_8 ?_
  refine z_getr C zc_11 dX11_findAll_9 3 0 20 rfl (by decide) (by decide) q_472 rfl rfl ?_
  obtain ⟨L3, hg2, h⟩ := zb1_e h
  refine z_callV C zc_2 rfl (by decide) dX11_findAll_12 yy_X2_draw (c_X2_draw C.2.2.2.2.1 hP I L hg2) q_876 q_877 q_878 (by decide) (by decide) rfl rfl (Nat.le_of_ble_eq_true rfl) ⟨Nat.le_refl _, Nat.le_refl _, Nat.le_refl _, Nat.le_refl _⟩ ?_
  refine z_aload_n C rfl 0 rfl dX11_findAll_15 ?_
  refine z_getr C zc_11 dX11_findAll_16 6 0 61 rfl (by decide) (by decide) q_475 rfl rfl ?_
  refine z_aload_n C rfl 0 rfl dX11_findAll_19 ?_
  obtain ⟨hb4, h⟩ := zck_e h
  refine z_getm C zc_11 dX11_findAll_20 8 0 P rfl (by decide) (by decide) q_477 rfl (of_decide_eq_true hb4) (zpl_lt2 hP) ?_
  obtain ⟨I6, L7, hg5, h⟩ := zb2_e h
  refine z_callV C zc_3 rfl (by decide) dX11_findAll_23 yy_X3_find (c_X3_find C.2.2.2.2.1 hP I L3 hg5) q_907 q_908 q_909 (by decide) (by decide) rfl rfl (Nat.le_of_ble_eq_true rfl) ⟨Nat.le_refl _, Nat.le_refl _, Nat.le_refl _, Nat.le_refl _⟩ ?_
  refine z_aload_n C rfl 0 rfl dX11_findAll_26 ?_
  refine z_getr C zc_11 dX11_findAll_27 4 0 26 rfl (by decide) (by decide) q_473 rfl rfl ?_
  refine z_aload_n C rfl 0 rfl dX11_findAll_30 ?_
  obtain ⟨hb8, h⟩ := zck_e h
  refine z_getm C zc_11 dX11_findAll_31 8 0 P rfl (by decide) (by decide) q_477 rfl (of_decide_eq_true hb8) (zpl_lt2 hP) ?_
  refine z_aload_n C rfl 0 rfl dX11_findAll_34 ?_
  refine z_getr C zc_11 dX11_findAll_35 6 0 61 rfl (by decide) (by decide) q_475 rfl rfl ?_
  obtain ⟨I10, hg9, h⟩ := zb1_e h
  refine z_callV C zc_4 rfl (by decide) dX11_findAll_38 yy_X4_findNets (c_X4_findNets C.2.2.2.2.1 hP I6 L7 hg9) q_976 q_977 q_978 (by decide) (by decide) rfl rfl (Nat.le_of_ble_eq_true rfl) ⟨Nat.le_refl _, Nat.le_refl _, Nat.le_refl _, Nat.le_refl _⟩ ?_
  refine z_aload_n C rfl 0 rfl dX11_findAll_41 ?_
  refine z_getr C zc_11 dX11_findAll_42 7 0 73 rfl (by decide) (by decide) q_476 rfl rfl ?_
  refine z_aload_n C rfl 0 rfl dX11_findAll_45 ?_
  obtain ⟨hb11, h⟩ := zck_e h
  refine z_getm C zc_11 dX11_findAll_46 8 0 P rfl (by decide) (by decide) q_477 rfl (of_decide_eq_true hb11) (zpl_lt2 hP) ?_
  obtain ⟨x13, I14, L15, hg12, h⟩ := zb3_e h
  refine z_callV C zc_0 rfl (by decide) dX11_findAll_49 yy_X0_find (c_X0_find C.2.2.2.2.1 hP I10 L7 hg12) q_988 q_989 q_990 (by decide) (by decide) rfl rfl (Nat.le_of_ble_eq_true rfl) ⟨Nat.le_refl _, Nat.le_refl _, Nat.le_refl _, Nat.le_refl _⟩ ?_
  obtain ⟨hb16, h⟩ := zck_e h
  obtain rfl := Option.some.inj h
  exact z_iret C dX11_findAll_52 .boolean rfl (zbo_n hb16).1 rfl
theorem q_21 : Cond.selects "DeviceFind" ⟨"DeviceFind", "findAll", "()Z"⟩ ⟨"DeviceFind", "findAll", "()Z"⟩ ∈ lw_tbl := List.mem_of_getElem? (i := 21) (by decide +kernel)
theorem q_102 : (Cond.initialized "java/lang/UnsupportedOperationException") ∈ lw_tbl := List.mem_of_getElem? (i := 102) (by decide +kernel)
theorem q_440 : (Cond.fieldLink "DeviceFind" (167 : Nat) "DeviceFind$Devices" "total" "I") ∈ lw_tbl := List.mem_of_getElem? (i := 440) (by decide +kernel)
theorem q_871 : (Cond.code ({ cls := "DeviceFind", name := "run", desc := "()I" } : Jvm.MethodName) prog_1_method_8_code (1 : Nat) (Option.some Jvm.ClassFile.FieldType.int)) ∈ lw_tbl := List.mem_of_getElem? (i := 871) (by decide +kernel)
theorem q_872 : (Cond.methodLink "DeviceFind" (160 : Nat) ({ cls := "DeviceFind", name := "findAll", desc := "()Z" } : Jvm.MethodName)) ∈ lw_tbl := List.mem_of_getElem? (i := 872) (by decide +kernel)
theorem q_874 : (Cond.instanceMethod ({ cls := "DeviceFind", name := "findAll", desc := "()Z" } : Jvm.MethodName)) ∈ lw_tbl := List.mem_of_getElem? (i := 874) (by decide +kernel)
theorem q_1056 : (Cond.classLink "DeviceFind" (164 : Nat) "java/lang/UnsupportedOperationException") ∈ lw_tbl := List.mem_of_getElem? (i := 1056) (by decide +kernel)
theorem yy_X11_run : zY yX11_run cX11_run 1 (some .int) 0 := ⟨q_871, q_75, by decide +kernel, by decide +kernel, by decide +kernel⟩
theorem xat_X11_166 : ∀ w ∈ vx_at0 RX11 166 "java/lang/UnsupportedOperationException" ["java/lang/RuntimeException", "java/lang/Exception"], w ∈ lw_tbl ∧ zgood w = true ∧ vx_ot w = true := zat_of [93, 751, 760, 765, 768, 770, 752, 753, 109, 110, 754, 759, 766, 782, 741, 783, 743, 784, 745, 755, 757, 747, 1066, 1067, 1068, 775, 732, 775, 776, 777, 778, 734, 778, 779, 780, 752, 736, 1065, 1057, 1058, 1059, 764, 1060, 1061, 1062, 1063, 750, 749, 1064] (by decide +kernel) (by decide +kernel)
noncomputable def f_X11_run_22 (P : Nat) (I : zI) (L : zL) : Option ((Int32 ⊕ Nat) × zI × zL) :=
  if (I 0 10) = 0 then (some (.inr 3, I, L)) else (zlt (I 73 7) (fun x11 => some (.inl x11, I, L)))
noncomputable def f_X11_run (P : Nat) (I : zI) (L : zL) : Option ((Int32 ⊕ Nat) × zI × zL) :=
  zb1 (f_X11_mustBeTrue (I 0 9)) (fun x2 => zsm x2 (fun x3 => if (I 0 10) = 0 then (zb3 (f_X11_findAll P I L) (fun x6 I7 L8 => zck (zbo x6) (zlt (zu I7 0 10 x6) (fun I9 => f_X11_run_22 P I9 L8)))) else (f_X11_run_22 P I L)) (fun k4 => some (.inr k4, I, L)))
set_option maxHeartbeats 4000000 in
set_option maxRecDepth 100000 in
theorem l_X11_run_22 {r : (Int32 ⊕ Nat) × zI × zL} (C : zC p l e R s m args below meth c s0 a0 d cy B0 yX11_run.cls cX11_run 1 (some .int) bc bs (zfc r.1 bc) (zfs r.1 bs) 7 180 []) {P : Nat} (hP : zpl P) (I : zI) (L : zL) (h : f_X11_run_22 P I L = some r) : zG p l e R s m args below meth c d cy B0 1 bc bs (zQ below s args d cy B0 bc bs (zri r.1) zSH zKn (zfc r.1 bc) (zfs r.1 bs) r.2.1 r.2.2) 22 [(0, .ref (B0 + 0))] [] zSH zKn bc bs I L := by
  unfold f_X11_run_22 at h
  refine z_aload_n C rfl 0 rfl dX11_run_22 ?_
  refine z_geti C zc_11 dX11_run_23 10 0 rfl (by decide) (by decide) q_479 rfl ?_
  refine z_if_ne C 37 (by decide) dX11_run_26 (fun hc => ?_) (fun hc => ?_)
  · have h := zif_f hc h
    refine z_aload_n C rfl 0 rfl dX11_run_37 ?_
    refine z_getr C zc_11 dX11_run_38 7 0 73 rfl (by decide) (by decide) q_476 rfl rfl ?_
    refine z_geti C zc_0 dX11_run_41 7 73 rfl (by decide) (by decide) q_440 rfl ?_
    obtain ⟨x11, ex11, h⟩ := zlt_e h
    refine z_eqi C ex11 ?_
    obtain rfl := Option.some.inj h
    exact z_iret C dX11_run_44 .int rfl rfl rfl
  · have h := zif_t hc h
    obtain rfl := Option.some.inj h
    exact z_throw C dX11_run_29 dX11_run_32 dX11_run_33 dX11_run_36 (by decide +kernel) q_1056 q_102 xat_X11_166 rfl (by decide) (Nat.le_of_ble_eq_true rfl) ⟨rfl, rfl⟩ rfl rfl rfl rfl
set_option maxHeartbeats 4000000 in
set_option maxRecDepth 100000 in
theorem c_X11_run {r : (Int32 ⊕ Nat) × zI × zL} (hE : zE0 l s0 a0 d cy B0) {P : Nat} (hP : zpl P) (I : zI) (L : zL) (h : f_X11_run P I L = some r) : zM l s0 d cy B0 yX11_run cX11_run 1 (some .int) 7 180 [.ref (B0 + 0)] zSH zKn bc bs I L (zri r.1) zSH zKn (zfc r.1 bc) (zfs r.1 bs) r.2.1 r.2.2 := by
  refine z_meth yy_X11_run hE (Nat.le_of_ble_eq_true rfl) (fun p e R s m args below meth c C => ?_)
  show zG p l e R s m args below meth c d cy B0 1 bc bs (zQ below s args d cy B0 bc bs (zri r.1) zSH zKn (zfc r.1 bc) (zfs r.1 bs) r.2.1 r.2.2) 0 [(0, .ref (B0 + 0))] [] zSH zKn bc bs I L
  unfold f_X11_run at h
  refine z_aload_n C rfl 0 rfl dX11_run_0 ?_
  refine z_geti C zc_11 dX11_run_1 9 0 rfl (by decide) (by decide) q_478 rfl ?_
  obtain ⟨x2, hg1, h⟩ := zb1_e h
  rcases x2 with x3 | k4
  · have h := zsm_l h
    refine z_callS C dX11_run_4 yy_X11_mustBeTrue (cn_X11_mustBeTrue C.2.2.2.2.1  (I 0 9) I L hg1) q_793 q_794 (by decide) (by decide) rfl rfl (Nat.le_of_ble_eq_true rfl) ⟨Nat.le_refl _, zfc_le _ _, Nat.le_refl _, zfs_le _ _⟩ ?_
    refine z_aload_n C rfl 0 rfl dX11_run_7 ?_
    refine z_geti C zc_11 dX11_run_8 10 0 rfl (by decide) (by decide) q_479 rfl ?_
    refine z_if_ne C 22 (by decide) dX11_run_11 (fun hc => ?_) (fun hc => ?_)
    · have h := zif_f hc h
      exact l_X11_run_22 C hP I L h
    · have h := zif_t hc h
      refine z_aload_n C rfl 0 rfl dX11_run_14 ?_
      refine z_aload_n C rfl 0 rfl dX11_run_15 ?_
      obtain ⟨x6, I7, L8, hg5, h⟩ := zb3_e h
      refine z_callV C zc_11 rfl (by decide) dX11_run_16 yy_X11_findAll (c_X11_findAll C.2.2.2.2.1 hP I L hg5) q_872 q_874 q_21 (by decide) (by decide) rfl rfl (Nat.le_of_ble_eq_true rfl) ⟨Nat.le_refl _, zfc_le _ _, Nat.le_refl _, zfs_le _ _⟩ ?_
      obtain ⟨hb10, h⟩ := zck_e h
      refine z_puti C zc_11 dX11_run_19 10 0 rfl (by decide) (by decide) rfl q_479 (zbo_n hb10).1 (zbo_n hb10).2 rfl ?_
      obtain ⟨I9, eI9, h⟩ := zlt_e h
      refine z_eqI C eI9 ?_
      exact l_X11_run_22 C hP I9 L8 h
  · have h := zsm_r h
    obtain rfl := Option.some.inj h
    exact z_callSX C dX11_run_4 yy_X11_mustBeTrue (cx_X11_mustBeTrue C.2.2.2.2.1  (I 0 9) I L hg1) q_793 q_794 (by decide) (by decide) rfl rfl (Nat.le_of_ble_eq_true rfl) ⟨Nat.le_succ _, Nat.le_refl _, Nat.le_add_right _ _, Nat.le_refl _⟩ rfl rfl
set_option maxHeartbeats 4000000 in
set_option maxRecDepth 100000 in
theorem cn_X11_run {v9 : Int32} {I9 : zI} {L9 : zL} (hE : zE0 l s0 a0 d cy B0) {P : Nat} (hP : zpl P) (I : zI) (L : zL) (h : f_X11_run P I L = some (.inl v9, I9, L9)) : zM l s0 d cy B0 yX11_run cX11_run 1 (some .int) 7 180 [.ref (B0 + 0)] zSH zKn bc bs I L (.inl (some (.int v9))) zSH zKn bc bs I9 L9 := c_X11_run (r := (.inl v9, I9, L9)) hE hP I L h
set_option maxHeartbeats 4000000 in
set_option maxRecDepth 100000 in
theorem cx_X11_run {k9 : Nat} {I9 : zI} {L9 : zL} (hE : zE0 l s0 a0 d cy B0) {P : Nat} (hP : zpl P) (I : zI) (L : zL) (h : f_X11_run P I L = some (.inr k9, I9, L9)) : zM l s0 d cy B0 yX11_run cX11_run 1 (some .int) 7 180 [.ref (B0 + 0)] zSH zKn bc bs I L (.inr (zex k9)) zSH zKn (bc + 1) (bs + 6) I9 L9 := c_X11_run (r := (.inr k9, I9, L9)) hE hP I L h
end Zp05_12_walk
