section Zp05_11_walk
variable {p : Program} {l : Launch} {e : Env} {R : Room} {s : State} {m : MethodId} {args : Array Value} {below : List Frame} {meth : Method} {c : Code} {s0 : State} {a0 : Array Value} {d : va_G} {cy : Nat → ClassId} {B0 : Nat} {bc bs : Nat}
theorem q_96 : (Cond.initialized "java/lang/IndexOutOfBoundsException") ∈ lw_tbl := List.mem_of_getElem? (i := 96) (by decide +kernel)
theorem q_728 : (Cond.code ({ cls := "DeviceFind", name := "mustBeBelow", desc := "(II)V" } : Jvm.MethodName) prog_1_method_19_code (2 : Nat) (Option.none : Option Jvm.ClassFile.FieldType)) ∈ lw_tbl := List.mem_of_getElem? (i := 728) (by decide +kernel)
theorem q_729 : (Cond.classLink "DeviceFind" (239 : Nat) "java/lang/IndexOutOfBoundsException") ∈ lw_tbl := List.mem_of_getElem? (i := 729) (by decide +kernel)
theorem yy_X11_mustBeBelow : zY yX11_mustBeBelow cX11_mustBeBelow 2 none 2 := ⟨q_728, q_75, by decide +kernel, by decide +kernel, by decide +kernel⟩
theorem xat_X11_241 : ∀ w ∈ vx_at0 RX11 241 "java/lang/IndexOutOfBoundsException" ["java/lang/RuntimeException", "java/lang/Exception"], w ∈ lw_tbl ∧ zgood w = true ∧ vx_ot w = true := zat_of [93, 751, 760, 765, 768, 770, 752, 753, 109, 110, 754, 759, 766, 782, 741, 783, 743, 784, 745, 755, 757, 747, 772, 773, 774, 775, 732, 775, 776, 777, 778, 734, 778, 779, 780, 752, 736, 771, 730, 731, 738, 739, 740, 742, 744, 746, 750, 749, 748] (by decide +kernel) (by decide +kernel)
noncomputable def f_X11_mustBeBelow_9 : Option ((Unit ⊕ Nat)) :=
  some (.inr 0)
noncomputable def f_X11_mustBeBelow (a0 : Int32) (a1 : Int32) : Option ((Unit ⊕ Nat)) :=
  if a0 < 0 then (f_X11_mustBeBelow_9 ) else (if a0 < a1 then (some (.inl ())) else (f_X11_mustBeBelow_9 ))
set_option maxHeartbeats 4000000 in
set_option maxRecDepth 100000 in
theorem l_X11_mustBeBelow_9 {r : (Unit ⊕ Nat)} (C : zC p l e R s m args below meth c s0 a0 d cy B0 yX11_mustBeBelow.cls cX11_mustBeBelow 2 none bc bs (zfc r bc) (zfs r bs) 6 89 []) (I : zI) (L : zL) (h : f_X11_mustBeBelow_9 = some r) : zG p l e R s m args below meth c d cy B0 2 bc bs (zQ below s args d cy B0 bc bs (zrv r) zSH zKn (zfc r bc) (zfs r bs) I L) 9 [] [] zSH zKn bc bs I L := by
  unfold f_X11_mustBeBelow_9 at h
  obtain rfl := Option.some.inj h
  exact z_throw C dX11_mustBeBelow_9 dX11_mustBeBelow_12 dX11_mustBeBelow_13 dX11_mustBeBelow_16 (by decide +kernel) q_729 q_96 xat_X11_241 rfl (by decide) (Nat.le_of_ble_eq_true rfl) ⟨rfl, rfl⟩ rfl rfl rfl rfl
set_option maxHeartbeats 4000000 in
set_option maxRecDepth 100000 in
theorem c_X11_mustBeBelow {r : (Unit ⊕ Nat)} (hE : zE0 l s0 a0 d cy B0) (a0 : Int32) (a1 : Int32) (I : zI) (L : zL) (h : f_X11_mustBeBelow a0 a1 = some r) : zM l s0 d cy B0 yX11_mustBeBelow cX11_mustBeBelow 2 none 6 89 [.int a0, .int a1] zSH zKn bc bs I L (zrv r) zSH zKn (zfc r bc) (zfs r bs) I L := by
  refine z_meth yy_X11_mustBeBelow hE (Nat.le_of_ble_eq_true rfl) (fun p e R s m args below meth c C => ?_)
  show zG p l e R s m args below meth c d cy B0 2 bc bs (zQ below s args d cy B0 bc bs (zrv r) zSH zKn (zfc r bc) (zfs r bs) I L) 0 [(0, .int a0), (1, .int a1)] [] zSH zKn bc bs I L
  unfold f_X11_mustBeBelow at h
  refine z_iload_n C rfl 0 rfl dX11_mustBeBelow_0 ?_
  refine z_if_lt C 9 (by decide) dX11_mustBeBelow_1 (fun hc => ?_) (fun hc => ?_)
  · have h := zif_t hc h
    refine z_lv [] (lv' := []) rfl ?_
    exact l_X11_mustBeBelow_9 C I L  h
  · have h := zif_f hc h
    refine z_iload_n C rfl 0 rfl dX11_mustBeBelow_4 ?_
    refine z_iload_n C rfl 1 rfl dX11_mustBeBelow_5 ?_
    refine z_icmp_lt C 17 (by decide) dX11_mustBeBelow_6 (fun hc => ?_) (fun hc => ?_)
    · have h := zif_t hc h
      obtain rfl := Option.some.inj h
      exact z_vret C dX11_mustBeBelow_17 rfl rfl
    · have h := zif_f hc h
      refine z_lv [] (lv' := []) rfl ?_
      exact l_X11_mustBeBelow_9 C I L  h
set_option maxHeartbeats 4000000 in
set_option maxRecDepth 100000 in
theorem cn_X11_mustBeBelow {v9 : Unit} (hE : zE0 l s0 a0 d cy B0) (a0 : Int32) (a1 : Int32) (I : zI) (L : zL) (h : f_X11_mustBeBelow a0 a1 = some (.inl v9)) : zM l s0 d cy B0 yX11_mustBeBelow cX11_mustBeBelow 2 none 6 89 [.int a0, .int a1] zSH zKn bc bs I L (.inl none) zSH zKn bc bs I L := c_X11_mustBeBelow (r := (.inl v9)) hE a0 a1 I L h
set_option maxHeartbeats 4000000 in
set_option maxRecDepth 100000 in
theorem cx_X11_mustBeBelow {k9 : Nat} (hE : zE0 l s0 a0 d cy B0) (a0 : Int32) (a1 : Int32) (I : zI) (L : zL) (h : f_X11_mustBeBelow a0 a1 = some (.inr k9)) : zM l s0 d cy B0 yX11_mustBeBelow cX11_mustBeBelow 2 none 6 89 [.int a0, .int a1] zSH zKn bc bs I L (.inr (zex k9)) zSH zKn (bc + 1) (bs + 6) I L := c_X11_mustBeBelow (r := (.inr k9)) hE a0 a1 I L h
theorem q_97 : (Cond.initialized "java/lang/IllegalStateException") ∈ lw_tbl := List.mem_of_getElem? (i := 97) (by decide +kernel)
theorem q_795 : (Cond.code ({ cls := "DeviceFind", name := "mustBeTrue", desc := "(Z)V" } : Jvm.MethodName) prog_1_method_22_code (1 : Nat) (Option.none : Option Jvm.ClassFile.FieldType)) ∈ lw_tbl := List.mem_of_getElem? (i := 795) (by decide +kernel)
theorem q_796 : (Cond.classLink "DeviceFind" (242 : Nat) "java/lang/IllegalStateException") ∈ lw_tbl := List.mem_of_getElem? (i := 796) (by decide +kernel)
theorem yy_X11_mustBeTrue : zY yX11_mustBeTrue cX11_mustBeTrue 1 none 1 := ⟨q_795, q_75, by decide +kernel, by decide +kernel, by decide +kernel⟩
theorem xat_X11_244 : ∀ w ∈ vx_at0 RX11 244 "java/lang/IllegalStateException" ["java/lang/RuntimeException", "java/lang/Exception"], w ∈ lw_tbl ∧ zgood w = true ∧ vx_ot w = true := zat_of [93, 751, 760, 765, 768, 770, 752, 753, 109, 110, 754, 759, 766, 782, 741, 783, 743, 784, 745, 755, 757, 747, 806, 807, 808, 775, 732, 775, 776, 777, 778, 734, 778, 779, 780, 752, 736, 805, 797, 798, 799, 763, 800, 801, 802, 803, 750, 749, 804] (by decide +kernel) (by decide +kernel)
noncomputable def f_X11_mustBeTrue (a0 : Int32) : Option ((Unit ⊕ Nat)) :=
  if a0 = 0 then (some (.inr 1)) else (some (.inl ()))
set_option maxHeartbeats 4000000 in
set_option maxRecDepth 100000 in
theorem c_X11_mustBeTrue {r : (Unit ⊕ Nat)} (hE : zE0 l s0 a0 d cy B0) (a0 : Int32) (I : zI) (L : zL) (h : f_X11_mustBeTrue a0 = some r) : zM l s0 d cy B0 yX11_mustBeTrue cX11_mustBeTrue 1 none 6 89 [.int a0] zSH zKn bc bs I L (zrv r) zSH zKn (zfc r bc) (zfs r bs) I L := by
  refine z_meth yy_X11_mustBeTrue hE (Nat.le_of_ble_eq_true rfl) (fun p e R s m args below meth c C => ?_)
  show zG p l e R s m args below meth c d cy B0 1 bc bs (zQ below s args d cy B0 bc bs (zrv r) zSH zKn (zfc r bc) (zfs r bs) I L) 0 [(0, .int a0)] [] zSH zKn bc bs I L
  unfold f_X11_mustBeTrue at h
  refine z_iload_n C rfl 0 rfl dX11_mustBeTrue_0 ?_
  refine z_if_ne C 12 (by decide) dX11_mustBeTrue_1 (fun hc => ?_) (fun hc => ?_)
  · have h := zif_f hc h
    obtain rfl := Option.some.inj h
    exact z_vret C dX11_mustBeTrue_12 rfl rfl
  · have h := zif_t hc h
    obtain rfl := Option.some.inj h
    exact z_throw C dX11_mustBeTrue_4 dX11_mustBeTrue_7 dX11_mustBeTrue_8 dX11_mustBeTrue_11 (by decide +kernel) q_796 q_97 xat_X11_244 rfl (by decide) (Nat.le_of_ble_eq_true rfl) ⟨rfl, rfl⟩ rfl rfl rfl rfl
set_option maxHeartbeats 4000000 in
set_option maxRecDepth 100000 in
theorem cn_X11_mustBeTrue {v9 : Unit} (hE : zE0 l s0 a0 d cy B0) (a0 : Int32) (I : zI) (L : zL) (h : f_X11_mustBeTrue a0 = some (.inl v9)) : zM l s0 d cy B0 yX11_mustBeTrue cX11_mustBeTrue 1 none 6 89 [.int a0] zSH zKn bc bs I L (.inl none) zSH zKn bc bs I L := c_X11_mustBeTrue (r := (.inl v9)) hE a0 I L h
set_option maxHeartbeats 4000000 in
set_option maxRecDepth 100000 in
theorem cx_X11_mustBeTrue {k9 : Nat} (hE : zE0 l s0 a0 d cy B0) (a0 : Int32) (I : zI) (L : zL) (h : f_X11_mustBeTrue a0 = some (.inr k9)) : zM l s0 d cy B0 yX11_mustBeTrue cX11_mustBeTrue 1 none 6 89 [.int a0] zSH zKn bc bs I L (.inr (zex k9)) zSH zKn (bc + 1) (bs + 6) I L := c_X11_mustBeTrue (r := (.inr k9)) hE a0 I L h
theorem q_278 : (Cond.fieldLink "DeviceFind" (125 : Nat) "DeviceFind$Drawing" "polygons" "I") ∈ lw_tbl := List.mem_of_getElem? (i := 278) (by decide +kernel)
theorem q_469 : (Cond.fieldLink "DeviceFind" (19 : Nat) "DeviceFind" "inputs" "I") ∈ lw_tbl := List.mem_of_getElem? (i := 469) (by decide +kernel)
theorem q_472 : (Cond.fieldLink "DeviceFind" (42 : Nat) "DeviceFind" "drawing" "LDeviceFind$Drawing;") ∈ lw_tbl := List.mem_of_getElem? (i := 472) (by decide +kernel)
theorem q_725 : (Cond.code ({ cls := "DeviceFind", name := "polygon", desc := "(I)I" } : Jvm.MethodName) prog_1_method_5_code (2 : Nat) (Option.some Jvm.ClassFile.FieldType.int)) ∈ lw_tbl := List.mem_of_getElem? (i := 725) (by decide +kernel)
theorem q_726 : (Cond.methodLink "DeviceFind" (121 : Nat) ({ cls := "DeviceFind", name := "mustBeBelow", desc := "(II)V" } : Jvm.MethodName)) ∈ lw_tbl := List.mem_of_getElem? (i := 726) (by decide +kernel)
theorem q_727 : (Cond.static ({ cls := "DeviceFind", name := "mustBeBelow", desc := "(II)V" } : Jvm.MethodName)) ∈ lw_tbl := List.mem_of_getElem? (i := 727) (by decide +kernel)
theorem q_793 : (Cond.methodLink "DeviceFind" (128 : Nat) ({ cls := "DeviceFind", name := "mustBeTrue", desc := "(Z)V" } : Jvm.MethodName)) ∈ lw_tbl := List.mem_of_getElem? (i := 793) (by decide +kernel)
theorem q_794 : (Cond.static ({ cls := "DeviceFind", name := "mustBeTrue", desc := "(Z)V" } : Jvm.MethodName)) ∈ lw_tbl := List.mem_of_getElem? (i := 794) (by decide +kernel)
theorem q_811 : (Cond.methodLink "DeviceFind" (132 : Nat) ({ cls := "DeviceFind$Drawing", name := "add", desc := "(I)I" } : Jvm.MethodName)) ∈ lw_tbl := List.mem_of_getElem? (i := 811) (by decide +kernel)
theorem q_812 : (Cond.instanceMethod ({ cls := "DeviceFind$Drawing", name := "add", desc := "(I)I" } : Jvm.MethodName)) ∈ lw_tbl := List.mem_of_getElem? (i := 812) (by decide +kernel)
theorem q_813 : (Cond.selects "DeviceFind$Drawing" ({ cls := "DeviceFind$Drawing", name := "add", desc := "(I)I" } : Jvm.MethodName) ({ cls := "DeviceFind$Drawing", name := "add", desc := "(I)I" } : Jvm.MethodName)) ∈ lw_tbl := List.mem_of_getElem? (i := 813) (by decide +kernel)
theorem yy_X11_polygon : zY yX11_polygon cX11_polygon 2 (some .int) 1 := ⟨q_725, q_75, by decide +kernel, by decide +kernel, by decide +kernel⟩
noncomputable def f_X11_polygon_25 (v1 : Int32) (w0 : Int32) (I : zI) : Option ((Int32 ⊕ Nat) × zI) :=
  zb1 (f_X11_mustBeTrue w0) (fun x6 => zsm x6 (fun x7 => zlt (zu I 0 10 (0 : Int32)) (fun I9 => zb2 (f_X1_add v1 I9) (fun x11 I12 => some (.inl x11, I12)))) (fun k8 => some (.inr k8, I)))
noncomputable def f_X11_polygon (a1 : Int32) (I : zI) : Option ((Int32 ⊕ Nat) × zI) :=
  zb1 (f_X11_mustBeBelow a1 (I 0 0)) (fun x2 => zsm x2 (fun x3 => if (60 : Int32) ≤ (I 20 5) then (f_X11_polygon_25 a1 (0 : Int32) I) else (f_X11_polygon_25 a1 (1 : Int32) I)) (fun k4 => some (.inr k4, I)))
set_option maxHeartbeats 4000000 in
set_option maxRecDepth 100000 in
theorem l_X11_polygon_25 {r : (Int32 ⊕ Nat) × zI} (C : zC p l e R s m args below meth c s0 a0 d cy B0 yX11_polygon.cls cX11_polygon 2 (some .int) bc bs (zfc r.1 bc) (zfs r.1 bs) 7 110 []) (L : zL) (v1 : Int32) (w0 : Int32) (I : zI) (h : f_X11_polygon_25 v1 w0 I = some r) : zG p l e R s m args below meth c d cy B0 2 bc bs (zQ below s args d cy B0 bc bs (zri r.1) zSH zKn (zfc r.1 bc) (zfs r.1 bs) r.2 L) 25 [(0, .ref (B0 + 0)), (1, .int v1)] [.int w0] zSH zKn bc bs I L := by
  unfold f_X11_polygon_25 at h
  obtain ⟨x6, hg5, h⟩ := zb1_e h
  rcases x6 with x7 | k8
  · have h := zsm_l h
    refine z_callS C dX11_polygon_25 yy_X11_mustBeTrue (cn_X11_mustBeTrue C.2.2.2.2.1  w0 I L hg5) q_793 q_794 (by decide) (by decide) rfl rfl (Nat.le_of_ble_eq_true rfl) ⟨Nat.le_refl _, zfc_le _ _, Nat.le_refl _, zfs_le _ _⟩ ?_
    refine z_aload_n C rfl 0 rfl dX11_polygon_28 ?_
    refine z_iconst C (v := 0) (by decide) dX11_polygon_29 ?_
    refine z_puti C zc_11 dX11_polygon_30 10 0 rfl (by decide) (by decide) rfl q_479 rfl rfl rfl ?_
    obtain ⟨I9, eI9, h⟩ := zlt_e h
    refine z_eqI C eI9 ?_
    refine z_aload_n C rfl 0 rfl dX11_polygon_33 ?_
    refine z_getr C zc_11 dX11_polygon_34 3 0 20 rfl (by decide) (by decide) q_472 rfl rfl ?_
    refine z_iload_n C rfl 1 rfl dX11_polygon_37 ?_
    obtain ⟨x11, I12, hg10, h⟩ := zb2_e h
    refine z_callV C zc_1 rfl (by decide) dX11_polygon_38 yy_X1_add (c_X1_add C.2.2.2.2.1  v1 I9 L hg10) q_811 q_812 q_813 (by decide) (by decide) rfl rfl (Nat.le_of_ble_eq_true rfl) ⟨Nat.le_refl _, zfc_le _ _, Nat.le_refl _, zfs_le _ _⟩ ?_
    obtain rfl := Option.some.inj h
    exact z_iret C dX11_polygon_41 .int rfl rfl rfl
  · have h := zsm_r h
    obtain rfl := Option.some.inj h
    exact z_callSX C dX11_polygon_25 yy_X11_mustBeTrue (cx_X11_mustBeTrue C.2.2.2.2.1  w0 I L hg5) q_793 q_794 (by decide) (by decide) rfl rfl (Nat.le_of_ble_eq_true rfl) ⟨Nat.le_succ _, Nat.le_refl _, Nat.le_add_right _ _, Nat.le_refl _⟩ rfl rfl
set_option maxHeartbeats 4000000 in
set_option maxRecDepth 100000 in
theorem c_X11_polygon {r : (Int32 ⊕ Nat) × zI} (hE : zE0 l s0 a0 d cy B0) (a1 : Int32) (I : zI) (L : zL) (h : f_X11_polygon a1 I = some r) : zM l s0 d cy B0 yX11_polygon cX11_polygon 2 (some .int) 7 110 [.ref (B0 + 0), .int a1] zSH zKn bc bs I L (zri r.1) zSH zKn (zfc r.1 bc) (zfs r.1 bs) r.2 L := by
  refine z_meth yy_X11_polygon hE (Nat.le_of_ble_eq_true rfl) (fun p e R s m args below meth c C => ?_)
  show zG p l e R s m args below meth c d cy B0 2 bc bs (zQ below s args d cy B0 bc bs (zri r.1) zSH zKn (zfc r.1 bc) (zfs r.1 bs) r.2 L) 0 [(0, .ref (B0 + 0)), (1, .int a1)] [] zSH zKn bc bs I L
  unfold f_X11_polygon at h
  refine z_iload_n C rfl 1 rfl dX11_polygon_0 ?_
  refine z_aload_n C rfl 0 rfl dX11_polygon_1 ?_
  refine z_geti C zc_11 dX11_polygon_2 0 0 rfl (by decide) (by decide) q_469 rfl ?_
  obtain ⟨x2, hg1, h⟩ := zb1_e h
  rcases x2 with x3 | k4
  · have h := zsm_l h
    refine z_callS C dX11_polygon_5 yy_X11_mustBeBelow (cn_X11_mustBeBelow C.2.2.2.2.1  a1 (I 0 0) I L hg1) q_726 q_727 (by decide) (by decide) rfl rfl (Nat.le_of_ble_eq_true rfl) ⟨Nat.le_refl _, zfc_le _ _, Nat.le_refl _, zfs_le _ _⟩ ?_
    refine z_aload_n C rfl 0 rfl dX11_polygon_8 ?_
    refine z_getr C zc_11 dX11_polygon_9 3 0 20 rfl (by decide) (by decide) q_472 rfl rfl ?_
    refine z_geti C zc_1 dX11_polygon_12 5 20 rfl (by decide) (by decide) q_278 rfl ?_
    refine z_bipush C (v := 60) (by decide) dX11_polygon_15 ?_
    refine z_icmp_ge C 24 (by decide) dX11_polygon_17 (fun hc => ?_) (fun hc => ?_)
    · have h := zif_t hc h
      refine z_iconst C (v := 0) (by decide) dX11_polygon_24 ?_
      exact l_X11_polygon_25 C L a1 (0 : Int32) I h
    · have h := zif_f hc h
      refine z_iconst C (v := 1) (by decide) dX11_polygon_20 ?_
      refine z_goto C 25 (by decide) dX11_polygon_21 ?_
      exact l_X11_polygon_25 C L a1 (1 : Int32) I h
  · have h := zsm_r h
    obtain rfl := Option.some.inj h
    exact z_callSX C dX11_polygon_5 yy_X11_mustBeBelow (cx_X11_mustBeBelow C.2.2.2.2.1  a1 (I 0 0) I L hg1) q_726 q_727 (by decide) (by decide) rfl rfl (Nat.le_of_ble_eq_true rfl) ⟨Nat.le_succ _, Nat.le_refl _, Nat.le_add_right _ _, Nat.le_refl _⟩ rfl rfl
set_option maxHeartbeats 4000000 in
set_option maxRecDepth 100000 in
theorem cn_X11_polygon {v9 : Int32} {I9 : zI} (hE : zE0 l s0 a0 d cy B0) (a1 : Int32) (I : zI) (L : zL) (h : f_X11_polygon a1 I = some (.inl v9, I9)) : zM l s0 d cy B0 yX11_polygon cX11_polygon 2 (some .int) 7 110 [.ref (B0 + 0), .int a1] zSH zKn bc bs I L (.inl (some (.int v9))) zSH zKn bc bs I9 L := c_X11_polygon (r := (.inl v9, I9)) hE a1 I L h
set_option maxHeartbeats 4000000 in
set_option maxRecDepth 100000 in
theorem cx_X11_polygon {k9 : Nat} {I9 : zI} (hE : zE0 l s0 a0 d cy B0) (a1 : Int32) (I : zI) (L : zL) (h : f_X11_polygon a1 I = some (.inr k9, I9)) : zM l s0 d cy B0 yX11_polygon cX11_polygon 2 (some .int) 7 110 [.ref (B0 + 0), .int a1] zSH zKn bc bs I L (.inr (zex k9)) zSH zKn (bc + 1) (bs + 6) I9 L := c_X11_polygon (r := (.inr k9, I9)) hE a1 I L h
theorem q_98 : (Cond.initialized "java/lang/IllegalArgumentException") ∈ lw_tbl := List.mem_of_getElem? (i := 98) (by decide +kernel)
theorem q_271 : (Cond.fieldLink "DeviceFind" (135 : Nat) "DeviceFind$Drawing" "corners" "[I") ∈ lw_tbl := List.mem_of_getElem? (i := 271) (by decide +kernel)
theorem q_822 : (Cond.code ({ cls := "DeviceFind", name := "corner", desc := "(IJJ)Z" } : Jvm.MethodName) prog_1_method_6_code (6 : Nat) (Option.some Jvm.ClassFile.FieldType.boolean)) ∈ lw_tbl := List.mem_of_getElem? (i := 822) (by decide +kernel)
theorem q_823 : (Cond.constantLong "DeviceFind" (139 : Nat) (64 : Int64)) ∈ lw_tbl := List.mem_of_getElem? (i := 823) (by decide +kernel)
theorem q_824 : (Cond.classLink "DeviceFind" (141 : Nat) "java/lang/IllegalArgumentException") ∈ lw_tbl := List.mem_of_getElem? (i := 824) (by decide +kernel)
theorem q_839 : (Cond.methodLink "DeviceFind" (144 : Nat) ({ cls := "DeviceFind$Drawing", name := "addCorner", desc := "(III)Z" } : Jvm.MethodName)) ∈ lw_tbl := List.mem_of_getElem? (i := 839) (by decide +kernel)
theorem q_840 : (Cond.instanceMethod ({ cls := "DeviceFind$Drawing", name := "addCorner", desc := "(III)Z" } : Jvm.MethodName)) ∈ lw_tbl := List.mem_of_getElem? (i := 840) (by decide +kernel)
theorem q_841 : (Cond.selects "DeviceFind$Drawing" ({ cls := "DeviceFind$Drawing", name := "addCorner", desc := "(III)Z" } : Jvm.MethodName) ({ cls := "DeviceFind$Drawing", name := "addCorner", desc := "(III)Z" } : Jvm.MethodName)) ∈ lw_tbl := List.mem_of_getElem? (i := 841) (by decide +kernel)
theorem yy_X11_corner : zY yX11_corner cX11_corner 6 (some .boolean) 3 := ⟨q_822, q_75, by decide +kernel, by decide +kernel, by decide +kernel⟩
theorem xat_X11_143 : ∀ w ∈ vx_at0 RX11 143 "java/lang/IllegalArgumentException" ["java/lang/RuntimeException", "java/lang/Exception"], w ∈ lw_tbl ∧ zgood w = true ∧ vx_ot w = true := zat_of [93, 751, 760, 765, 768, 770, 752, 753, 109, 110, 754, 759, 766, 782, 741, 783, 743, 784, 745, 755, 757, 747, 834, 835, 836, 775, 732, 775, 776, 777, 778, 734, 778, 779, 780, 752, 736, 833, 825, 826, 827, 762, 828, 829, 830, 831, 750, 749, 832] (by decide +kernel) (by decide +kernel)
noncomputable def f_X11_corner_63 (I : zI) : Option ((Int32 ⊕ Nat) × zI) :=
  some (.inr 2, I)
noncomputable def f_X11_corner_30 (v1 : Int32) (v2 : Int64) (v4 : Int64) (w0 : Int32) (I : zI) : Option ((Int32 ⊕ Nat) × zI) :=
  zb1 (f_X11_mustBeTrue w0) (fun x7 => zsm x7 (fun x8 => if v2 < (0 : Int64) then (f_X11_corner_63 I) else (if (64 : Int64) < v2 then (f_X11_corner_63 I) else (if v4 < (0 : Int64) then (f_X11_corner_63 I) else (if v4 ≤ (64 : Int64) then (zb2 (f_X1_addCorner v1 v2.toInt32 v4.toInt32 I) (fun x11 I12 => if x11 = 0 then (some (.inl (0 : Int32), I12)) else (zlt (zu I12 0 10 (0 : Int32)) (fun I13 => some (.inl (1 : Int32), I13))))) else (f_X11_corner_63 I))))) (fun k9 => some (.inr k9, I)))
noncomputable def f_X11_corner (a1 : Int32) (a2 : Int64) (a3 : Int64) (I : zI) : Option ((Int32 ⊕ Nat) × zI) :=
  zb1 (f_X11_mustBeBelow a1 (I 20 5)) (fun x2 => zsm x2 (fun x3 => zck (zbd a1 60) (if (16 : Int32) ≤ (I 22 a1.toNatClampNeg) then (f_X11_corner_30 a1 a2 a3 (0 : Int32) I) else (f_X11_corner_30 a1 a2 a3 (1 : Int32) I))) (fun k4 => some (.inr k4, I)))
set_option maxHeartbeats 4000000 in
set_option maxRecDepth 100000 in
theorem l_X11_corner_63 {r : (Int32 ⊕ Nat) × zI} (C : zC p l e R s m args below meth c s0 a0 d cy B0 yX11_corner.cls cX11_corner 6 (some .boolean) bc bs (zfc r.1 bc) (zfs r.1 bs) 7 110 []) (L : zL) (I : zI) (h : f_X11_corner_63 I = some r) : zG p l e R s m args below meth c d cy B0 6 bc bs (zQ below s args d cy B0 bc bs (zri r.1) zSH zKn (zfc r.1 bc) (zfs r.1 bs) r.2 L) 63 [] [] zSH zKn bc bs I L := by
  unfold f_X11_corner_63 at h
  obtain rfl := Option.some.inj h
  exact z_throw C dX11_corner_63 dX11_corner_66 dX11_corner_67 dX11_corner_70 (by decide +kernel) q_824 q_98 xat_X11_143 rfl (by decide) (Nat.le_of_ble_eq_true rfl) ⟨rfl, rfl⟩ rfl rfl rfl rfl
set_option maxHeartbeats 4000000 in
set_option maxRecDepth 100000 in
theorem l_X11_corner_30 {r : (Int32 ⊕ Nat) × zI} (C : zC p l e R s m args below meth c s0 a0 d cy B0 yX11_corner.cls cX11_corner 6 (some .boolean) bc bs (zfc r.1 bc) (zfs r.1 bs) 7 110 []) (L : zL) (v1 : Int32) (v2 : Int64) (v4 : Int64) (w0 : Int32) (I : zI) (h : f_X11_corner_30 v1 v2 v4 w0 I = some r) : zG p l e R s m args below meth c d cy B0 6 bc bs (zQ below s args d cy B0 bc bs (zri r.1) zSH zKn (zfc r.1 bc) (zfs r.1 bs) r.2 L) 30 [(0, .ref (B0 + 0)), (1, .int v1), (2, .long v2), (4, .long v4)] [.int w0] zSH zKn bc bs I L := by
  unfold f_X11_corner_30 at h
  obtain ⟨x7, hg6, h⟩ := zb1_e h
  rcases x7 with x8 | k9
  · have h := zsm_l h
    refine z_callS C dX11_corner_30 yy_X11_mustBeTrue (cn_X11_mustBeTrue C.2.2.2.2.1  w0 I L hg6) q_793 q_794 (by decide) (by decide) rfl rfl (Nat.le_of_ble_eq_true rfl) ⟨Nat.le_refl _, zfc_le _ _, Nat.le_refl _, zfs_le _ _⟩ ?_
    refine z_lload_n C rfl 2 rfl dX11_corner_33 ?_
    refine z_lconst C (v := 0) (by decide) dX11_corner_34 ?_
    refine z_lif_lt C 63 (by decide) dX11_corner_35 dX11_corner_36 (fun hc => ?_) (fun hc => ?_)
    · have h := zif_t hc h
      refine z_lv [] (lv' := []) rfl ?_
      exact l_X11_corner_63 C L I h
    · have h := zif_f hc h
      refine z_lload_n C rfl 2 rfl dX11_corner_39 ?_
      refine z_ldc2 C dX11_corner_40 q_823 ?_
      refine z_lif_gt C 63 (by decide) dX11_corner_43 dX11_corner_44 (fun hc => ?_) (fun hc => ?_)
      · have h := zif_t hc h
        refine z_lv [] (lv' := []) rfl ?_
        exact l_X11_corner_63 C L I h
      · have h := zif_f hc h
        refine z_lload C 3 rfl dX11_corner_47 ?_
        refine z_lconst C (v := 0) (by decide) dX11_corner_49 ?_
        refine z_lif_lt C 63 (by decide) dX11_corner_50 dX11_corner_51 (fun hc => ?_) (fun hc => ?_)
        · have h := zif_t hc h
          refine z_lv [] (lv' := []) rfl ?_
          exact l_X11_corner_63 C L I h
        · have h := zif_f hc h
          refine z_lload C 3 rfl dX11_corner_54 ?_
          refine z_ldc2 C dX11_corner_56 q_823 ?_
          refine z_lif_le C 71 (by decide) dX11_corner_59 dX11_corner_60 (fun hc => ?_) (fun hc => ?_)
          · have h := zif_t hc h
            refine z_aload_n C rfl 0 rfl dX11_corner_71 ?_
            refine z_getr C zc_11 dX11_corner_72 3 0 20 rfl (by decide) (by decide) q_472 rfl rfl ?_
            refine z_iload_n C rfl 1 rfl dX11_corner_75 ?_
            refine z_lload_n C rfl 2 rfl dX11_corner_76 ?_
            refine z_l2i C dX11_corner_77 ?_
            refine z_lload C 3 rfl dX11_corner_78 ?_
            refine z_l2i C dX11_corner_80 ?_
            obtain ⟨x11, I12, hg10, h⟩ := zb2_e h
            refine z_callV C zc_1 rfl (by decide) dX11_corner_81 yy_X1_addCorner (c_X1_addCorner C.2.2.2.2.1  v1 v2.toInt32 v4.toInt32 I L hg10) q_839 q_840 q_841 (by decide) (by decide) rfl rfl (Nat.le_of_ble_eq_true rfl) ⟨Nat.le_refl _, zfc_le _ _, Nat.le_refl _, zfs_le _ _⟩ ?_
            refine z_if_ne C 89 (by decide) dX11_corner_84 (fun hc => ?_) (fun hc => ?_)
            · have h := zif_f hc h
              refine z_aload_n C rfl 0 rfl dX11_corner_89 ?_
              refine z_iconst C (v := 0) (by decide) dX11_corner_90 ?_
              refine z_puti C zc_11 dX11_corner_91 10 0 rfl (by decide) (by decide) rfl q_479 rfl rfl rfl ?_
              obtain ⟨I13, eI13, h⟩ := zlt_e h
              refine z_eqI C eI13 ?_
              refine z_iconst C (v := 1) (by decide) dX11_corner_94 ?_
              obtain rfl := Option.some.inj h
              exact z_iret C dX11_corner_95 .boolean rfl rfl rfl
            · have h := zif_t hc h
              refine z_iconst C (v := 0) (by decide) dX11_corner_87 ?_
              obtain rfl := Option.some.inj h
              exact z_iret C dX11_corner_88 .boolean rfl rfl rfl
          · have h := zif_f hc h
            refine z_lv [] (lv' := []) rfl ?_
            exact l_X11_corner_63 C L I h
  · have h := zsm_r h
    obtain rfl := Option.some.inj h
    exact z_callSX C dX11_corner_30 yy_X11_mustBeTrue (cx_X11_mustBeTrue C.2.2.2.2.1  w0 I L hg6) q_793 q_794 (by decide) (by decide) rfl rfl (Nat.le_of_ble_eq_true rfl) ⟨Nat.le_succ _, Nat.le_refl _, Nat.le_add_right _ _, Nat.le_refl _⟩ rfl rfl
set_option maxHeartbeats 4000000 in
set_option maxRecDepth 100000 in
theorem c_X11_corner {r : (Int32 ⊕ Nat) × zI} (hE : zE0 l s0 a0 d cy B0) (a1 : Int32) (a2 : Int64) (a3 : Int64) (I : zI) (L : zL) (h : f_X11_corner a1 a2 a3 I = some r) : zM l s0 d cy B0 yX11_corner cX11_corner 6 (some .boolean) 7 110 [.ref (B0 + 0), .int a1, .long a2, .long a3] zSH zKn bc bs I L (zri r.1) zSH zKn (zfc r.1 bc) (zfs r.1 bs) r.2 L := by
  refine z_meth yy_X11_corner hE (Nat.le_of_ble_eq_true rfl) (fun p e R s m args below meth c C => ?_)
  show zG p l e R s m args below meth c d cy B0 6 bc bs (zQ below s args d cy B0 bc bs (zri r.1) zSH zKn (zfc r.1 bc) (zfs r.1 bs) r.2 L) 0 [(0, .ref (B0 + 0)), (1, .int a1), (2, .long a2), (4, .long a3)] [] zSH zKn bc bs I L
  unfold f_X11_corner at h
  refine z_iload_n C rfl 1 rfl dX11_corner_0 ?_
  refine z_aload_n C rfl 0 rfl dX11_corner_1 ?_
  refine z_getr C zc_11 dX11_corner_2 3 0 20 rfl (by decide) (by decide) q_472 rfl rfl ?_
  refine z_geti C zc_1 dX11_corner_5 5 20 rfl (by decide) (by decide) q_278 rfl ?_
  obtain ⟨x2, hg1, h⟩ := zb1_e h
  rcases x2 with x3 | k4
  · have h := zsm_l h
    refine z_callS C dX11_corner_8 yy_X11_mustBeBelow (cn_X11_mustBeBelow C.2.2.2.2.1  a1 (I 20 5) I L hg1) q_726 q_727 (by decide) (by decide) rfl rfl (Nat.le_of_ble_eq_true rfl) ⟨Nat.le_refl _, zfc_le _ _, Nat.le_refl _, zfs_le _ _⟩ ?_
    refine z_aload_n C rfl 0 rfl dX11_corner_11 ?_
    refine z_getr C zc_11 dX11_corner_12 3 0 20 rfl (by decide) (by decide) q_472 rfl rfl ?_
    refine z_getr C zc_1 dX11_corner_15 1 20 22 rfl (by decide) (by decide) q_271 rfl rfl ?_
    refine z_iload_n C rfl 1 rfl dX11_corner_18 ?_
    obtain ⟨hb5, h⟩ := zck_e h
    refine z_iaload C dX11_corner_19 rfl rfl (by decide) (zbd_in hb5) ?_
    refine z_bipush C (v := 16) (by decide) dX11_corner_20 ?_
    refine z_icmp_ge C 29 (by decide) dX11_corner_22 (fun hc => ?_) (fun hc => ?_)
    · have h := zif_t hc h
      refine z_iconst C (v := 0) (by decide) dX11_corner_29 ?_
      exact l_X11_corner_30 C L a1 a2 a3 (0 : Int32) I h
    · have h := zif_f hc h
      refine z_iconst C (v := 1) (by decide) dX11_corner_25 ?_
      refine z_goto C 30 (by decide) dX11_corner_26 ?_
      exact l_X11_corner_30 C L a1 a2 a3 (1 : Int32) I h
  · have h := zsm_r h
    obtain rfl := Option.some.inj h
    exact z_callSX C dX11_corner_8 yy_X11_mustBeBelow (cx_X11_mustBeBelow C.2.2.2.2.1  a1 (I 20 5) I L hg1) q_726 q_727 (by decide) (by decide) rfl rfl (Nat.le_of_ble_eq_true rfl) ⟨Nat.le_succ _, Nat.le_refl _, Nat.le_add_right _ _, Nat.le_refl _⟩ rfl rfl
set_option maxHeartbeats 4000000 in
set_option maxRecDepth 100000 in
theorem cn_X11_corner {v9 : Int32} {I9 : zI} (hE : zE0 l s0 a0 d cy B0) (a1 : Int32) (a2 : Int64) (a3 : Int64) (I : zI) (L : zL) (h : f_X11_corner a1 a2 a3 I = some (.inl v9, I9)) : zM l s0 d cy B0 yX11_corner cX11_corner 6 (some .boolean) 7 110 [.ref (B0 + 0), .int a1, .long a2, .long a3] zSH zKn bc bs I L (.inl (some (.int v9))) zSH zKn bc bs I9 L := c_X11_corner (r := (.inl v9, I9)) hE a1 a2 a3 I L h
set_option maxHeartbeats 4000000 in
set_option maxRecDepth 100000 in
theorem cx_X11_corner {k9 : Nat} {I9 : zI} (hE : zE0 l s0 a0 d cy B0) (a1 : Int32) (a2 : Int64) (a3 : Int64) (I : zI) (L : zL) (h : f_X11_corner a1 a2 a3 I = some (.inr k9, I9)) : zM l s0 d cy B0 yX11_corner cX11_corner 6 (some .boolean) 7 110 [.ref (B0 + 0), .int a1, .long a2, .long a3] zSH zKn bc bs I L (.inr (zex k9)) zSH zKn (bc + 1) (bs + 6) I9 L := c_X11_corner (r := (.inr k9, I9)) hE a1 a2 a3 I L h
theorem q_856 : (Cond.code ({ cls := "DeviceFind", name := "mustBeSquare", desc := "(JJ)V" } : Jvm.MethodName) prog_1_method_21_code (4 : Nat) (Option.none : Option Jvm.ClassFile.FieldType)) ∈ lw_tbl := List.mem_of_getElem? (i := 856) (by decide +kernel)
theorem yy_X11_mustBeSquare : zY yX11_mustBeSquare cX11_mustBeSquare 4 none 2 := ⟨q_856, q_75, by decide +kernel, by decide +kernel, by decide +kernel⟩
noncomputable def f_X11_mustBeSquare_28 : Option ((Unit ⊕ Nat)) :=
  some (.inr 0)
noncomputable def f_X11_mustBeSquare (a0 : Int64) (a1 : Int64) : Option ((Unit ⊕ Nat)) :=
  if a0 < (0 : Int64) then (f_X11_mustBeSquare_28 ) else (if (64 : Int64) ≤ a0 then (f_X11_mustBeSquare_28 ) else (if a1 < (0 : Int64) then (f_X11_mustBeSquare_28 ) else (if a1 < (64 : Int64) then (some (.inl ())) else (f_X11_mustBeSquare_28 ))))
set_option maxHeartbeats 4000000 in
set_option maxRecDepth 100000 in
theorem l_X11_mustBeSquare_28 {r : (Unit ⊕ Nat)} (C : zC p l e R s m args below meth c s0 a0 d cy B0 yX11_mustBeSquare.cls cX11_mustBeSquare 4 none bc bs (zfc r bc) (zfs r bs) 6 89 []) (I : zI) (L : zL) (h : f_X11_mustBeSquare_28 = some r) : zG p l e R s m args below meth c d cy B0 4 bc bs (zQ below s args d cy B0 bc bs (zrv r) zSH zKn (zfc r bc) (zfs r bs) I L) 28 [] [] zSH zKn bc bs I L := by
  unfold f_X11_mustBeSquare_28 at h
  obtain rfl := Option.some.inj h
  exact z_throw C dX11_mustBeSquare_28 dX11_mustBeSquare_31 dX11_mustBeSquare_32 dX11_mustBeSquare_35 (by decide +kernel) q_729 q_96 xat_X11_241 rfl (by decide) (Nat.le_of_ble_eq_true rfl) ⟨rfl, rfl⟩ rfl rfl rfl rfl
set_option maxHeartbeats 4000000 in
set_option maxRecDepth 100000 in
theorem c_X11_mustBeSquare {r : (Unit ⊕ Nat)} (hE : zE0 l s0 a0 d cy B0) (a0 : Int64) (a1 : Int64) (I : zI) (L : zL) (h : f_X11_mustBeSquare a0 a1 = some r) : zM l s0 d cy B0 yX11_mustBeSquare cX11_mustBeSquare 4 none 6 89 [.long a0, .long a1] zSH zKn bc bs I L (zrv r) zSH zKn (zfc r bc) (zfs r bs) I L := by
  refine z_meth yy_X11_mustBeSquare hE (Nat.le_of_ble_eq_true rfl) (fun p e R s m args below meth c C => ?_)
  show zG p l e R s m args below meth c d cy B0 4 bc bs (zQ below s args d cy B0 bc bs (zrv r) zSH zKn (zfc r bc) (zfs r bs) I L) 0 [(0, .long a0), (2, .long a1)] [] zSH zKn bc bs I L
  unfold f_X11_mustBeSquare at h
  refine z_lload_n C rfl 0 rfl dX11_mustBeSquare_0 ?_
  refine z_lconst C (v := 0) (by decide) dX11_mustBeSquare_1 ?_
  refine z_lif_lt C 28 (by decide) dX11_mustBeSquare_2 dX11_mustBeSquare_3 (fun hc => ?_) (fun hc => ?_)
  · have h := zif_t hc h
    refine z_lv [] (lv' := []) rfl ?_
    exact l_X11_mustBeSquare_28 C I L  h
  · have h := zif_f hc h
    refine z_lload_n C rfl 0 rfl dX11_mustBeSquare_6 ?_
    refine z_ldc2 C dX11_mustBeSquare_7 q_823 ?_
    refine z_lif_ge C 28 (by decide) dX11_mustBeSquare_10 dX11_mustBeSquare_11 (fun hc => ?_) (fun hc => ?_)
    · have h := zif_t hc h
      refine z_lv [] (lv' := []) rfl ?_
      exact l_X11_mustBeSquare_28 C I L  h
    · have h := zif_f hc h
      refine z_lload_n C rfl 1 rfl dX11_mustBeSquare_14 ?_
      refine z_lconst C (v := 0) (by decide) dX11_mustBeSquare_15 ?_
      refine z_lif_lt C 28 (by decide) dX11_mustBeSquare_16 dX11_mustBeSquare_17 (fun hc => ?_) (fun hc => ?_)
      · have h := zif_t hc h
        refine z_lv [] (lv' := []) rfl ?_
        exact l_X11_mustBeSquare_28 C I L  h
      · have h := zif_f hc h
        refine z_lload_n C rfl 1 rfl dX11_mustBeSquare_20 ?_
        refine z_ldc2 C dX11_mustBeSquare_21 q_823 ?_
        refine z_lif_lt C 36 (by decide) dX11_mustBeSquare_24 dX11_mustBeSquare_25 (fun hc => ?_) (fun hc => ?_)
        · have h := zif_t hc h
          obtain rfl := Option.some.inj h
          exact z_vret C dX11_mustBeSquare_36 rfl rfl
        · have h := zif_f hc h
          refine z_lv [] (lv' := []) rfl ?_
          exact l_X11_mustBeSquare_28 C I L  h
set_option maxHeartbeats 4000000 in
set_option maxRecDepth 100000 in
theorem cn_X11_mustBeSquare {v9 : Unit} (hE : zE0 l s0 a0 d cy B0) (a0 : Int64) (a1 : Int64) (I : zI) (L : zL) (h : f_X11_mustBeSquare a0 a1 = some (.inl v9)) : zM l s0 d cy B0 yX11_mustBeSquare cX11_mustBeSquare 4 none 6 89 [.long a0, .long a1] zSH zKn bc bs I L (.inl none) zSH zKn bc bs I L := c_X11_mustBeSquare (r := (.inl v9)) hE a0 a1 I L h
set_option maxHeartbeats 4000000 in
set_option maxRecDepth 100000 in
theorem cx_X11_mustBeSquare {k9 : Nat} (hE : zE0 l s0 a0 d cy B0) (a0 : Int64) (a1 : Int64) (I : zI) (L : zL) (h : f_X11_mustBeSquare a0 a1 = some (.inr k9)) : zM l s0 d cy B0 yX11_mustBeSquare cX11_mustBeSquare 4 none 6 89 [.long a0, .long a1] zSH zKn bc bs I L (.inr (zex k9)) zSH zKn (bc + 1) (bs + 6) I L := c_X11_mustBeSquare (r := (.inr k9)) hE a0 a1 I L h
end Zp05_11_walk
