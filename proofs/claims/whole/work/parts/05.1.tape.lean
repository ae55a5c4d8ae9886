section Zp05_1_tape
variable {p : Program} {l : Launch} {e : Env} {R : Room} {s : State} {m : MethodId} {args : Array Value} {below : List Frame} {meth : Method} {c : Code} {s0 : State} {a0 : Array Value} {d : va_G} {cy : Nat → ClassId} {B0 : Nat} {bc bs : Nat}
theorem q_77 : (Cond.initialized "DeviceFind$Tape") ∈ lw_tbl := List.mem_of_getElem? (i := 77) (by decide +kernel)
theorem q_124 : (Cond.fieldLink "DeviceFind$Tape" (9 : Nat) "DeviceFind$Tape" "characters" "[C") ∈ lw_tbl := List.mem_of_getElem? (i := 124) (by decide +kernel)
theorem q_126 : (Cond.fieldLink "DeviceFind$Tape" (15 : Nat) "DeviceFind$Tape" "length" "I") ∈ lw_tbl := List.mem_of_getElem? (i := 126) (by decide +kernel)
theorem q_510 : (Cond.code ({ cls := "DeviceFind$Tape", name := "add", desc := "(I)Z" } : Jvm.MethodName) prog_11_method_2_code (3 : Nat) (Option.some Jvm.ClassFile.FieldType.boolean)) ∈ lw_tbl := List.mem_of_getElem? (i := 510) (by decide +kernel)
theorem yy_X9_add : zY yX9_add cX9_add 3 (some .boolean) 1 := ⟨q_510, q_77, by decide +kernel, by decide +kernel, by decide +kernel⟩
def f_X9_add_38 (I : zI) : Option (Int32 × zI) :=
  some ((0 : Int32), I)
def f_X9_add_23 (v1 : Int32) (w0 : Int32) (I : zI) : Option (Int32 × zI) :=
  if w0 = 0 then (f_X9_add_38 I) else (if (I 1 1) < (800 : Int32) then (zlt ((v1.toUInt32 % 65536).toInt32) (fun x1 => zck (zbd (I 1 1) 800) (zlt (zu I 2 (I 1 1).toNatClampNeg (vp_nar .char x1)) (fun I3 => zlt ((I3 1 1) + (1 : Int32)) (fun x4 => zlt (zu I3 1 1 x4) (fun I5 => some ((1 : Int32), I5))))))) else (f_X9_add_38 I))
def f_X9_add_18 (v1 : Int32) (I : zI) : Option (Int32 × zI) :=
  f_X9_add_23 v1 (1 : Int32) I
def f_X9_add_22 (v1 : Int32) (I : zI) : Option (Int32 × zI) :=
  f_X9_add_23 v1 (0 : Int32) I
def f_X9_add (a1 : Int32) (I : zI) : Option (Int32 × zI) :=
  if a1 = (10 : Int32) then (f_X9_add_18 a1 I) else (if a1 < (32 : Int32) then (f_X9_add_22 a1 I) else (if (126 : Int32) < a1 then (f_X9_add_22 a1 I) else (f_X9_add_18 a1 I)))
set_option maxHeartbeats 4000000 in
set_option maxRecDepth 100000 in
theorem l_X9_add_38 {r : Int32 × zI} (C : zC p l e R s m args below meth c s0 a0 d cy B0 yX9_add.cls cX9_add 3 (some .boolean) bc bs bc bs 0 0 []) (L : zL) (I : zI) (h : f_X9_add_38 I = some r) : zG p l e R s m args below meth c d cy B0 3 bc bs (zQ below s args d cy B0 bc bs (.inl (some (.int r.1))) zSH zKn bc bs r.2 L) 38 [] [] zSH zKn bc bs I L := by
  unfold f_X9_add_38 at h
  refine z_iconst C (v := 0) (by decide) dX9_add_38 ?_
  obtain rfl := Option.some.inj h
  exact z_iret C dX9_add_39 .boolean rfl rfl rfl
set_option maxHeartbeats 4000000 in
set_option maxRecDepth 100000 in
theorem l_X9_add_23 {r : Int32 × zI} (C : zC p l e R s m args below meth c s0 a0 d cy B0 yX9_add.cls cX9_add 3 (some .boolean) bc bs bc bs 0 0 []) (L : zL) (v1 : Int32) (w0 : Int32) (I : zI) (h : f_X9_add_23 v1 w0 I = some r) : zG p l e R s m args below meth c d cy B0 3 bc bs (zQ below s args d cy B0 bc bs (.inl (some (.int r.1))) zSH zKn bc bs r.2 L) 23 [(0, .ref (B0 + 1)), (1, .int v1)] [.int w0] zSH zKn bc bs I L := by
  unfold f_X9_add_23 at h
  refine z_istore_n C (lv' := [(2, .int w0), (0, .ref (B0 + 1)), (1, .int v1)]) rfl (by decide) rfl dX9_add_23 ?_
  refine z_iload_n C rfl 0 rfl dX9_add_24 ?_
  refine z_if_eq C 38 (by decide) dX9_add_25 (fun hc => ?_) (fun hc => ?_)
  · have h := zif_t hc h
    refine z_lv [] (lv' := []) rfl ?_
    exact l_X9_add_38 C L I h
  · have h := zif_f hc h
    refine z_aload_n C rfl 1 rfl dX9_add_28 ?_
    refine z_geti C zc_9 dX9_add_29 1 1 rfl (by decide) (by decide) q_126 rfl ?_
    refine z_sipush C (v := 800) (by decide) dX9_add_32 ?_
    refine z_icmp_lt C 40 (by decide) dX9_add_35 (fun hc => ?_) (fun hc => ?_)
    · have h := zif_t hc h
      refine z_aload_n C rfl 1 rfl dX9_add_40 ?_
      refine z_getr C zc_9 dX9_add_41 0 1 2 rfl (by decide) (by decide) q_124 rfl rfl ?_
      refine z_aload_n C rfl 1 rfl dX9_add_44 ?_
      refine z_geti C zc_9 dX9_add_45 1 1 rfl (by decide) (by decide) q_126 rfl ?_
      refine z_iload_n C rfl 2 rfl dX9_add_48 ?_
      refine z_i2c C dX9_add_49 ?_
      obtain ⟨x1, ex1, h⟩ := zlt_e h
      refine z_eqi C ex1 ?_
      obtain ⟨hb2, h⟩ := zck_e h
      refine z_castore C dX9_add_50 rfl rfl (by decide) (zbd_in hb2) ?_
      obtain ⟨I3, eI3, h⟩ := zlt_e h
      refine z_eqI C eI3 ?_
      refine z_aload_n C rfl 1 rfl dX9_add_51 ?_
      refine z_dup C rfl dX9_add_52 ?_
      refine z_geti C zc_9 dX9_add_53 1 1 rfl (by decide) (by decide) q_126 rfl ?_
      refine z_iconst C (v := 1) (by decide) dX9_add_56 ?_
      refine z_iadd C dX9_add_57 ?_
      obtain ⟨x4, ex4, h⟩ := zlt_e h
      refine z_eqi C ex4 ?_
      refine z_puti C zc_9 dX9_add_58 1 1 rfl (by decide) (by decide) rfl q_126 rfl rfl rfl ?_
      obtain ⟨I5, eI5, h⟩ := zlt_e h
      refine z_eqI C eI5 ?_
      refine z_iconst C (v := 1) (by decide) dX9_add_61 ?_
      obtain rfl := Option.some.inj h
      exact z_iret C dX9_add_62 .boolean rfl rfl rfl
    · have h := zif_f hc h
      refine z_lv [] (lv' := []) rfl ?_
      exact l_X9_add_38 C L I h
set_option maxHeartbeats 4000000 in
set_option maxRecDepth 100000 in
theorem l_X9_add_18 {r : Int32 × zI} (C : zC p l e R s m args below meth c s0 a0 d cy B0 yX9_add.cls cX9_add 3 (some .boolean) bc bs bc bs 0 0 []) (L : zL) (v1 : Int32) (I : zI) (h : f_X9_add_18 v1 I = some r) : zG p l e R s m args below meth c d cy B0 3 bc bs (zQ below s args d cy B0 bc bs (.inl (some (.int r.1))) zSH zKn bc bs r.2 L) 18 [(0, .ref (B0 + 1)), (1, .int v1)] [] zSH zKn bc bs I L := by
  unfold f_X9_add_18 at h
  refine z_iconst C (v := 1) (by decide) dX9_add_18 ?_
  refine z_goto C 23 (by decide) dX9_add_19 ?_
  exact l_X9_add_23 C L v1 (1 : Int32) I h
set_option maxHeartbeats 4000000 in
set_option maxRecDepth 100000 in
theorem l_X9_add_22 {r : Int32 × zI} (C : zC p l e R s m args below meth c s0 a0 d cy B0 yX9_add.cls cX9_add 3 (some .boolean) bc bs bc bs 0 0 []) (L : zL) (v1 : Int32) (I : zI) (h : f_X9_add_22 v1 I = some r) : zG p l e R s m args below meth c d cy B0 3 bc bs (zQ below s args d cy B0 bc bs (.inl (some (.int r.1))) zSH zKn bc bs r.2 L) 22 [(0, .ref (B0 + 1)), (1, .int v1)] [] zSH zKn bc bs I L := by
  unfold f_X9_add_22 at h
  refine z_iconst C (v := 0) (by decide) dX9_add_22 ?_
  exact l_X9_add_23 C L v1 (0 : Int32) I h
set_option maxHeartbeats 4000000 in
set_option maxRecDepth 100000 in
theorem c_X9_add {r : Int32 × zI} (hE : zE0 l s0 a0 d cy B0) (a1 : Int32) (I : zI) (L : zL) (h : f_X9_add a1 I = some r) : zM l s0 d cy B0 yX9_add cX9_add 3 (some .boolean) 0 0 [.ref (B0 + 1), .int a1] zSH zKn bc bs I L (.inl (some (.int r.1))) zSH zKn bc bs r.2 L := by
  refine z_meth yy_X9_add hE (Nat.le_of_ble_eq_true rfl) (fun p e R s m args below meth c C => ?_)
  show zG p l e R s m args below meth c d cy B0 3 bc bs (zQ below s args d cy B0 bc bs (.inl (some (.int r.1))) zSH zKn bc bs r.2 L) 0 [(0, .ref (B0 + 1)), (1, .int a1)] [] zSH zKn bc bs I L
  unfold f_X9_add at h
  refine z_iload_n C rfl 1 rfl dX9_add_0 ?_
  refine z_bipush C (v := 10) (by decide) dX9_add_1 ?_
  refine z_icmp_eq C 18 (by decide) dX9_add_3 (fun hc => ?_) (fun hc => ?_)
  · have h := zif_t hc h
    exact l_X9_add_18 C L a1 I h
  · have h := zif_f hc h
    refine z_iload_n C rfl 1 rfl dX9_add_6 ?_
    refine z_bipush C (v := 32) (by decide) dX9_add_7 ?_
    refine z_icmp_lt C 22 (by decide) dX9_add_9 (fun hc => ?_) (fun hc => ?_)
    · have h := zif_t hc h
      exact l_X9_add_22 C L a1 I h
    · have h := zif_f hc h
      refine z_iload_n C rfl 1 rfl dX9_add_12 ?_
      refine z_bipush C (v := 126) (by decide) dX9_add_13 ?_
      refine z_icmp_gt C 22 (by decide) dX9_add_15 (fun hc => ?_) (fun hc => ?_)
      · have h := zif_t hc h
        exact l_X9_add_22 C L a1 I h
      · have h := zif_f hc h
        exact l_X9_add_18 C L a1 I h
theorem q_508 : (Cond.instanceMethod ({ cls := "DeviceFind$Tape", name := "add", desc := "(I)Z" } : Jvm.MethodName)) ∈ lw_tbl := List.mem_of_getElem? (i := 508) (by decide +kernel)
theorem q_509 : (Cond.selects "DeviceFind$Tape" ({ cls := "DeviceFind$Tape", name := "add", desc := "(I)Z" } : Jvm.MethodName) ({ cls := "DeviceFind$Tape", name := "add", desc := "(I)Z" } : Jvm.MethodName)) ∈ lw_tbl := List.mem_of_getElem? (i := 509) (by decide +kernel)
theorem q_518 : (Cond.code ({ cls := "DeviceFind$Tape", name := "addFour", desc := "(I)Z" } : Jvm.MethodName) prog_11_method_3_code (5 : Nat) (Option.some Jvm.ClassFile.FieldType.boolean)) ∈ lw_tbl := List.mem_of_getElem? (i := 518) (by decide +kernel)
theorem q_519 : (Cond.methodLink "DeviceFind$Tape" (19 : Nat) ({ cls := "DeviceFind$Tape", name := "add", desc := "(I)Z" } : Jvm.MethodName)) ∈ lw_tbl := List.mem_of_getElem? (i := 519) (by decide +kernel)
theorem yy_X9_addFour : zY yX9_addFour cX9_addFour 5 (some .boolean) 1 := ⟨q_518, q_77, by decide +kernel, by decide +kernel, by decide +kernel⟩
def f_X9_addFour_42 (k8 : Int32 → Int32 → Int32 → zI → Option (Int32 × zI)) (v1 : Int32) (v2 : Int32) (v3 : Int32) (I : zI) : Option (Int32 × zI) :=
  zlt (v3 + (-8)) (fun x8 => k8 v1 v2 x8 I)
def f_X9_addFour_8 (k8 : Int32 → Int32 → Int32 → zI → Option (Int32 × zI)) (v1 : Int32) (v2 : Int32) (v3 : Int32) (I : zI) : Option (Int32 × zI) :=
  if v3 < 0 then (some ((1 : Int32), I)) else (zlt ((v1.toUInt32 >>> (v3.toUInt32 &&& Int32.toUInt32 31)).toInt32) (fun x2 => zlt (x2 &&& (255 : Int32)) (fun x3 => if x3 = 0 then (f_X9_addFour_42 k8 v1 v2 v3 I) else (zb2 (f_X9_add x3 I) (fun x5 I6 => if x5 = 0 then (zlt (zu I6 1 1 v2) (fun I7 => some ((0 : Int32), I7))) else (f_X9_addFour_42 k8 v1 v2 v3 I6))))))
def f_X9_addFour (a1 : Int32) (I : zI) : Option (Int32 × zI) :=
  zlt (I 1 1) (fun x1 => zlp4 (f_X9_addFour_8) zF a1 x1 (24 : Int32) I)
set_option maxHeartbeats 4000000 in
set_option maxRecDepth 100000 in
theorem l_X9_addFour_42 {r : Int32 × zI} (C : zC p l e R s m args below meth c s0 a0 d cy B0 yX9_addFour.cls cX9_addFour 5 (some .boolean) bc bs bc bs 1 22 []) (L : zL) (k8 : Int32 → Int32 → Int32 → zI → Option (Int32 × zI)) (hk8 : ∀ (v1 : Int32) (v2 : Int32) (v3 : Int32) (I : zI), k8 v1 v2 v3 I = some r → zG p l e R s m args below meth c d cy B0 5 bc bs (zQ below s args d cy B0 bc bs (.inl (some (.int r.1))) zSH zKn bc bs r.2 L) 8 [(0, .ref (B0 + 1)), (1, .int v1), (2, .int v2), (3, .int v3)] [] zSH zKn bc bs I L) (v1 : Int32) (v2 : Int32) (v3 : Int32) (I : zI) (h : f_X9_addFour_42 k8 v1 v2 v3 I = some r) : zG p l e R s m args below meth c d cy B0 5 bc bs (zQ below s args d cy B0 bc bs (.inl (some (.int r.1))) zSH zKn bc bs r.2 L) 42 [(0, .ref (B0 + 1)), (1, .int v1), (2, .int v2), (3, .int v3)] [] zSH zKn bc bs I L := by
  unfold f_X9_addFour_42 at h
  obtain ⟨x8, ex8, h⟩ := zlt_e h
  refine z_iinc C (j := 3) (v := x8) (lv' := [(3, .int x8), (0, .ref (B0 + 1)), (1, .int v1), (2, .int v2)]) rfl (by rw [ex8]; rfl) (by decide) rfl dX9_addFour_42 ?_
  refine z_goto C 8 (by decide) dX9_addFour_45 ?_
  refine z_lv [1, 2, 3, 0] (lv' := [(0, .ref (B0 + 1)), (1, .int v1), (2, .int v2), (3, .int x8)]) rfl ?_
  exact hk8 v1 v2 x8 I h
set_option maxHeartbeats 4000000 in
set_option maxRecDepth 100000 in
theorem l_X9_addFour_8 {r : Int32 × zI} (C : zC p l e R s m args below meth c s0 a0 d cy B0 yX9_addFour.cls cX9_addFour 5 (some .boolean) bc bs bc bs 1 22 []) (L : zL) (k8 : Int32 → Int32 → Int32 → zI → Option (Int32 × zI)) (hk8 : ∀ (v1 : Int32) (v2 : Int32) (v3 : Int32) (I : zI), k8 v1 v2 v3 I = some r → zG p l e R s m args below meth c d cy B0 5 bc bs (zQ below s args d cy B0 bc bs (.inl (some (.int r.1))) zSH zKn bc bs r.2 L) 8 [(0, .ref (B0 + 1)), (1, .int v1), (2, .int v2), (3, .int v3)] [] zSH zKn bc bs I L) (v1 : Int32) (v2 : Int32) (v3 : Int32) (I : zI) (h : f_X9_addFour_8 k8 v1 v2 v3 I = some r) : zG p l e R s m args below meth c d cy B0 5 bc bs (zQ below s args d cy B0 bc bs (.inl (some (.int r.1))) zSH zKn bc bs r.2 L) 8 [(0, .ref (B0 + 1)), (1, .int v1), (2, .int v2), (3, .int v3)] [] zSH zKn bc bs I L := by
  unfold f_X9_addFour_8 at h
  refine z_iload_n C rfl 3 rfl dX9_addFour_8 ?_
  refine z_if_lt C 48 (by decide) dX9_addFour_9 (fun hc => ?_) (fun hc => ?_)
  · have h := zif_t hc h
    refine z_iconst C (v := 1) (by decide) dX9_addFour_48 ?_
    obtain rfl := Option.some.inj h
    exact z_iret C dX9_addFour_49 .boolean rfl rfl rfl
  · have h := zif_f hc h
    refine z_iload_n C rfl 1 rfl dX9_addFour_12 ?_
    refine z_iload_n C rfl 3 rfl dX9_addFour_13 ?_
    refine z_iushr C dX9_addFour_14 ?_
    obtain ⟨x2, ex2, h⟩ := zlt_e h
    refine z_eqi C ex2 ?_
    refine z_sipush C (v := 255) (by decide) dX9_addFour_15 ?_
    refine z_iand C dX9_addFour_18 ?_
    obtain ⟨x3, ex3, h⟩ := zlt_e h
    refine z_eqi C ex3 ?_
    refine z_istore C (lv' := [(4, .int x3), (0, .ref (B0 + 1)), (1, .int v1), (2, .int v2), (3, .int v3)]) (by decide) rfl dX9_addFour_19 ?_
    refine z_iload C 0 rfl dX9_addFour_21 ?_
    refine z_if_eq C 42 (by decide) dX9_addFour_23 (fun hc => ?_) (fun hc => ?_)
    · have h := zif_t hc h
      refine z_lv [1, 2, 3, 4] (lv' := [(0, .ref (B0 + 1)), (1, .int v1), (2, .int v2), (3, .int v3)]) rfl ?_
      exact l_X9_addFour_42 C L k8 hk8 v1 v2 v3 I h
    · have h := zif_f hc h
      refine z_aload_n C rfl 1 rfl dX9_addFour_26 ?_
      refine z_iload C 0 rfl dX9_addFour_27 ?_
      obtain ⟨x5, I6, hg4, h⟩ := zb2_e h
      refine z_callV C zc_9 rfl (by decide) dX9_addFour_29 yy_X9_add (c_X9_add C.2.2.2.2.1  x3 I L hg4) q_519 q_508 q_509 (by decide) (by decide) rfl rfl (Nat.le_of_ble_eq_true rfl) ⟨Nat.le_refl _, Nat.le_refl _, Nat.le_refl _, Nat.le_refl _⟩ ?_
      refine z_if_ne C 42 (by decide) dX9_addFour_32 (fun hc => ?_) (fun hc => ?_)
      · have h := zif_f hc h
        refine z_lv [1, 2, 3, 4] (lv' := [(0, .ref (B0 + 1)), (1, .int v1), (2, .int v2), (3, .int v3)]) rfl ?_
        exact l_X9_addFour_42 C L k8 hk8 v1 v2 v3 I6 h
      · have h := zif_t hc h
        refine z_aload_n C rfl 1 rfl dX9_addFour_35 ?_
        refine z_iload_n C rfl 3 rfl dX9_addFour_36 ?_
        refine z_puti C zc_9 dX9_addFour_37 1 1 rfl (by decide) (by decide) rfl q_126 rfl rfl rfl ?_
        obtain ⟨I7, eI7, h⟩ := zlt_e h
        refine z_eqI C eI7 ?_
        refine z_iconst C (v := 0) (by decide) dX9_addFour_40 ?_
        obtain rfl := Option.some.inj h
        exact z_iret C dX9_addFour_41 .boolean rfl rfl rfl
set_option maxHeartbeats 4000000 in
set_option maxRecDepth 100000 in
theorem L_X9_addFour_8 {r : Int32 × zI} (C : zC p l e R s m args below meth c s0 a0 d cy B0 yX9_addFour.cls cX9_addFour 5 (some .boolean) bc bs bc bs 1 22 []) (L : zL) (v1 : Int32) (v2 : Int32) (v3 : Int32) (I : zI) (h : zlp4 (f_X9_addFour_8) zF v1 v2 v3 I = some r) : zG p l e R s m args below meth c d cy B0 5 bc bs (zQ below s args d cy B0 bc bs (.inl (some (.int r.1))) zSH zKn bc bs r.2 L) 8 [(0, .ref (B0 + 1)), (1, .int v1), (2, .int v2), (3, .int v3)] [] zSH zKn bc bs I L :=
 zlp4_e (fun (v1 : Int32) (v2 : Int32) (v3 : Int32) (I : zI) => zG p l e R s m args below meth c d cy B0 5 bc bs (zQ below s args d cy B0 bc bs (.inl (some (.int r.1))) zSH zKn bc bs r.2 L) 8 [(0, .ref (B0 + 1)), (1, .int v1), (2, .int v2), (3, .int v3)] [] zSH zKn bc bs I L) (fun k9 hk9 v1 v2 v3 I h => l_X9_addFour_8 C L k9 hk9 v1 v2 v3 I h) zF v1 v2 v3 I h
set_option maxHeartbeats 4000000 in
set_option maxRecDepth 100000 in
theorem c_X9_addFour {r : Int32 × zI} (hE : zE0 l s0 a0 d cy B0) (a1 : Int32) (I : zI) (L : zL) (h : f_X9_addFour a1 I = some r) : zM l s0 d cy B0 yX9_addFour cX9_addFour 5 (some .boolean) 1 22 [.ref (B0 + 1), .int a1] zSH zKn bc bs I L (.inl (some (.int r.1))) zSH zKn bc bs r.2 L := by
  refine z_meth yy_X9_addFour hE (Nat.le_of_ble_eq_true rfl) (fun p e R s m args below meth c C => ?_)
  show zG p l e R s m args below meth c d cy B0 5 bc bs (zQ below s args d cy B0 bc bs (.inl (some (.int r.1))) zSH zKn bc bs r.2 L) 0 [(0, .ref (B0 + 1)), (1, .int a1)] [] zSH zKn bc bs I L
  unfold f_X9_addFour at h
  refine z_aload_n C rfl 0 rfl dX9_addFour_0 ?_
  refine z_geti C zc_9 dX9_addFour_1 1 1 rfl (by decide) (by decide) q_126 rfl ?_
  obtain ⟨x1, ex1, h⟩ := zlt_e h
  refine z_eqi C ex1 ?_
  refine z_istore_n C (lv' := [(2, .int x1), (0, .ref (B0 + 1)), (1, .int a1)]) rfl (by decide) rfl dX9_addFour_4 ?_
  refine z_bipush C (v := 24) (by decide) dX9_addFour_5 ?_
  refine z_istore_n C (lv' := [(3, .int (24 : Int32)), (2, .int x1), (0, .ref (B0 + 1)), (1, .int a1)]) rfl (by decide) rfl dX9_addFour_7 ?_
  refine z_lv [2, 3, 1, 0] (lv' := [(0, .ref (B0 + 1)), (1, .int a1), (2, .int x1), (3, .int (24 : Int32))]) rfl ?_
  exact L_X9_addFour_8 C L a1 x1 (24 : Int32) I h
end Zp05_1_tape
