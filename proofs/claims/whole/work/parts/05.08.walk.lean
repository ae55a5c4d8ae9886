section Zp05_08_walk
variable {p : Program} {l : Launch} {e : Env} {R : Room} {s : State} {m : MethodId} {args : Array Value} {below : List Frame} {meth : Method} {c : Code} {s0 : State} {a0 : Array Value} {d : va_G} {cy : Nat → ClassId} {B0 : Nat} {bc bs : Nat}
theorem q_77 : (Cond.initialized "DeviceFind$Tape") ∈ lw_tbl := List.mem_of_getElem? (i := 77) (by decide +kernel)
theorem q_124 : (Cond.fieldLink "DeviceFind$Tape" (9 : Nat) "DeviceFind$Tape" "characters" "[C") ∈ lw_tbl := List.mem_of_getElem? (i := 124) (by decide +kernel)
theorem q_126 : (Cond.fieldLink "DeviceFind$Tape" (15 : Nat) "DeviceFind$Tape" "length" "I") ∈ lw_tbl := List.mem_of_getElem? (i := 126) (by decide +kernel)
theorem q_510 : (Cond.code ({ cls := "DeviceFind$Tape", name := "add", desc := "(I)Z" } : Jvm.MethodName) prog_11_method_2_code (3 : Nat) (Option.some Jvm.ClassFile.FieldType.boolean)) ∈ lw_tbl := List.mem_of_getElem? (i := 510) (by decide +kernel)
theorem yy_X9_add : zY yX9_add cX9_add 3 (some .boolean) 1 := ⟨q_510, q_77, by decide +kernel, by decide +kernel, by decide +kernel⟩
def f_X9_add_38 (I : zI) : Option (Int32 × zI) :=
  some ((0 : Int32), I)
def f_X9_add_23 (v1 : Int32) (w0 : Int32) (I : zI) : Option (Int32 × zI) :=
  if w0 = 0 then (f_X9_add_38 I) else (if (I 1 1) < (800 : Int32) then (zlt ((v1.toUInt32 % 65536).toInt32) (fun x1 => zck (zbd (I 1 1) 800) (zlt (zu I 2 (I 1 1).toNatClampNeg (vp_nar .char x1)) (fun I3 => zlt ((I3 1 1) + (1 : Int32)) (fun x4 => zlt (zu I3 1 1 x4) (fun I5 => some ((1 : Int32), I5))))))) else (f_X9_add_38 I))
def f_X9_add_18 (v1 : Int32) (I : zI) : Option (Int32 × zI) :=
  f_X9_add_23 v1 (1 : Int32) I
def f_X9_add_22 (v1 : Int32) (I : zI) : Option (Int32 × zI) :=
  f_X9_add_23 v1 (0 : Int32) I
def f_X9_add (a1 : Int32) (I : zI) : Option (Int32 × zI) :=
  if a1 = (10 : Int32) then (f_X9_add_18 a1 I) else (if a1 < (32 : Int32) then (f_X9_add_22 a1 I) else (if (126 : Int32) < a1 then (f_X9_add_22 a1 I) else (f_X9_add_18 a1 I)))
set_option maxHeartbeats 4000000 in
set_option maxRecDepth 100000 in
theorem l_X9_add_38 {r : Int32 × zI} (C : zC p l e R s m args below meth c s0 a0 d cy B0 yX9_add.cls cX9_add 3 (some .boolean) bc bs bc bs 0 0 []) (L : zL) (I : zI) (h : f_X9_add_38 I = some r) : zG p l e R s m args below meth c d cy B0 3 bc bs (zQ below s args d cy B0 bc bs (.inl (some (.int r.1))) zSH zKn bc bs r.2 L) 38 [] [] zSH zKn bc bs I L := by
  unfold f_X9_add_38 at h
  refine z_iconst C (v := 0) (by decide) dX9_add_38 ?_
  obtain rfl := Option.some.inj h
  exact z_iret C dX9_add_39 .boolean rfl rfl rfl
set_option maxHeartbeats 4000000 in
set_option maxRecDepth 100000 in
theorem l_X9_add_23 {r : Int32 × zI} (C : zC p l e R s m args below meth c s0 a0 d cy B0 yX9_add.cls cX9_add 3 (some .boolean) bc bs bc bs 0 0 []) (L : zL) (v1 : Int32) (w0 : Int32) (I : zI) (h : f_X9_add_23 v1 w0 I = some r) : zG p l e R s m args below meth c d cy B0 3 bc bs (zQ below s args d cy B0 bc bs (.inl (some (.int r.1))) zSH zKn bc bs r.2 L) 23 [(0, .ref (B0 + 1)), (1, .int v1)] [.int w0] zSH zKn bc bs I L := by
  unfold f_X9_add_23 at h
  refine z_istore_n C (lv' := [(2, .int w0), (0, .ref (B0 + 1)), (1, .int v1)]) rfl (by decide) rfl dX9_add_23 ?_
  refine z_iload_n C rfl 0 rfl dX9_add_24 ?_
  refine z_if_eq C 38 (by decide) dX9_add_25 (fun hc => ?_) (fun hc => ?_)
  · have h := zif_t hc h
    refine z_lv [] (lv' := []) rfl ?_
    exact l_X9_add_38 C L I h
  · have h := zif_f hc h
    refine z_aload_n C rfl 1 rfl dX9_add_28 ?_
    refine z_geti C zc_9 dX9_add_29 1 1 rfl (by decide) (by decide) q_126 rfl ?_
    refine z_sipush C (v := 800) (by decide) dX9_add_32 ?_
    refine z_icmp_lt C 40 (by decide) dX9_add_35 (fun hc => ?_) (fun hc => ?_)
    · have h := zif_t hc h
      refine z_aload_n C rfl 1 rfl dX9_add_40 ?_
      refine z_getr C zc_9 dX9_add_41 0 1 2 rfl (by decide) (by decide) q_124 rfl rfl ?_
      refine z_aload_n C rfl 1 rfl dX9_add_44 ?_
      refine z_geti C zc_9 dX9_add_45 1 1 rfl (by decide) (by decide) q_126 rfl ?_
      refine z_iload_n C rfl 2 rfl dX9_add_48 ?_
      refine z_i2c C dX9_add_49 ?_
      obtain ⟨x1, ex1, h⟩ := zlt_e h
      refine z_eqi C ex1 ?_
      obtain ⟨hb2, h⟩ := zck_e h
      refine z_castore C dX9_add_50 rfl rfl (by decide) (zbd_in hb2) ?_
      obtain ⟨I3, eI3, h⟩ := zlt_e h
      refine z_eqI C eI3 ?_
      refine z_aload_n C rfl 1 rfl dX9_add_51 ?_
      refine z_dup C rfl dX9_add_52 ?_
      refine z_geti C zc_9 dX9_add_53 1 1 rfl (by decide) (by decide) q_126 rfl ?_
      refine z_iconst C (v := 1) (by decide) dX9_add_56 ?_
      refine z_iadd C dX9_add_57 ?_
      obtain ⟨x4, ex4, h⟩ := zlt_e h
      refine z_eqi C ex4 ?_
      refine z_puti C zc_9 dX9_add_58 1 1 rfl (by decide) (by decide) rfl q_126 rfl rfl rfl ?_
      obtain ⟨I5, eI5, h⟩ := zlt_e h
      refine z_eqI C eI5 ?_
      refine z_iconst C (v := 1) (by decide) dX9_add_61 ?_
      obtain rfl := Option.some.inj h
      exact z_iret C dX9_add_62 .boolean rfl rfl rfl
    · have h := zif_f hc h
      refine z_lv [] (lv' := []) rfl ?_
      exact l_X9_add_38 C L I h
set_option maxHeartbeats 4000000 in
set_option maxRecDepth 100000 in
theorem l_X9_add_18 {r : Int32 × zI} (C : zC p l e R s m args below meth c s0 a0 d cy B0 yX9_add.cls cX9_add 3 (some .boolean) bc bs bc bs 0 0 []) (L : zL) (v1 : Int32) (I : zI) (h : f_X9_add_18 v1 I = some r) : zG p l e R s m args below meth c d cy B0 3 bc bs (zQ below s args d cy B0 bc bs (.inl (some (.int r.1))) zSH zKn bc bs r.2 L) 18 [(0, .ref (B0 + 1)), (1, .int v1)] [] zSH zKn bc bs I L := by
  unfold f_X9_add_18 at h
  refine z_iconst C (v := 1) (by decide) dX9_add_18 ?_
  refine z_goto C 23 (by decide) dX9_add_19 ?_
  exact l_X9_add_23 C L v1 (1 : Int32) I h
set_option maxHeartbeats 4000000 in
set_option maxRecDepth 100000 in
theorem l_X9_add_22 {r : Int32 × zI} (C : zC p l e R s m args below meth c s0 a0 d cy B0 yX9_add.cls cX9_add 3 (some .boolean) bc bs bc bs 0 0 []) (L : zL) (v1 : Int32) (I : zI) (h : f_X9_add_22 v1 I = some r) : zG p l e R s m args below meth c d cy B0 3 bc bs (zQ below s args d cy B0 bc bs (.inl (some (.int r.1))) zSH zKn bc bs r.2 L) 22 [(0, .ref (B0 + 1)), (1, .int v1)] [] zSH zKn bc bs I L := by
  unfold f_X9_add_22 at h
  refine z_iconst C (v := 0) (by decide) dX9_add_22 ?_
  exact l_X9_add_23 C L v1 (0 : Int32) I h
set_option maxHeartbeats 4000000 in
set_option maxRecDepth 100000 in
theorem c_X9_add {r : Int32 × zI} (hE : zE0 l s0 a0 d cy B0) (a1 : Int32) (I : zI) (L : zL) (h : f_X9_add a1 I = some r) : zM l s0 d cy B0 yX9_add cX9_add 3 (some .boolean) 0 0 [.ref (B0 + 1), .int a1] zSH zKn bc bs I L (.inl (some (.int r.1))) zSH zKn bc bs r.2 L := by
  refine z_meth yy_X9_add hE (Nat.le_of_ble_eq_true rfl) (fun p e R s m args below meth c C => ?_)
  show zG p l e R s m args below meth c d cy B0 3 bc bs (zQ below s args d cy B0 bc bs (.inl (some (.int r.1))) zSH zKn bc bs r.2 L) 0 [(0, .ref (B0 + 1)), (1, .int a1)] [] zSH zKn bc bs I L
  unfold f_X9_add at h
  refine z_iload_n C rfl 1 rfl dX9_add_0 ?_
  refine z_bipush C (v := 10) (by decide) dX9_add_1 ?_
  refine z_icmp_eq C 18 (by decide) dX9_add_3 (fun hc => ?_) (fun hc => ?_)
  · have h := zif_t hc h
    exact l_X9_add_18 C L a1 I h
  · have h := zif_f hc h
    refine z_iload_n C rfl 1 rfl dX9_add_6 ?_
    refine z_bipush C (v := 32) (by decide) dX9_add_7 ?_
    refine z_icmp_lt C 22 (by decide) dX9_add_9 (fun hc => ?_) (fun hc => ?_)
    · have h := zif_t hc h
      exact l_X9_add_22 C L a1 I h
    · have h := zif_f hc h
      refine z_iload_n C rfl 1 rfl dX9_add_12 ?_
      refine z_bipush C (v := 126) (by decide) dX9_add_13 ?_
      refine z_icmp_gt C 22 (by decide) dX9_add_15 (fun hc => ?_) (fun hc => ?_)
      · have h := zif_t hc h
        exact l_X9_add_22 C L a1 I h
      · have h := zif_f hc h
        exact l_X9_add_18 C L a1 I h
theorem q_508 : (Cond.instanceMethod ({ cls := "DeviceFind$Tape", name := "add", desc := "(I)Z" } : Jvm.MethodName)) ∈ lw_tbl := List.mem_of_getElem? (i := 508) (by decide +kernel)
theorem q_509 : (Cond.selects "DeviceFind$Tape" ({ cls := "DeviceFind$Tape", name := "add", desc := "(I)Z" } : Jvm.MethodName) ({ cls := "DeviceFind$Tape", name := "add", desc := "(I)Z" } : Jvm.MethodName)) ∈ lw_tbl := List.mem_of_getElem? (i := 509) (by decide +kernel)
theorem q_518 : (Cond.code ({ cls := "DeviceFind$Tape", name := "addFour", desc := "(I)Z" } : Jvm.MethodName) prog_11_method_3_code (5 : Nat) (Option.some Jvm.ClassFile.FieldType.boolean)) ∈ lw_tbl := List.mem_of_getElem? (i := 518) (by decide +kernel)
theorem q_519 : (Cond.methodLink "DeviceFind$Tape" (19 : Nat) ({ cls := "DeviceFind$Tape", name := "add", desc := "(I)Z" } : Jvm.MethodName)) ∈ lw_tbl := List.mem_of_getElem? (i := 519) (by decide +kernel)
theorem yy_X9_addFour : zY yX9_addFour cX9_addFour 5 (some .boolean) 1 := ⟨q_518, q_77, by decide +kernel, by decide +kernel, by decide +kernel⟩
def f_X9_addFour_42 (k8 : Int32 → Int32 → Int32 → zI → Option (Int32 × zI)) (v1 : Int32) (v2 : Int32) (v3 : Int32) (I : zI) : Option (Int32 × zI) :=
  zlt (v3 + (-8)) (fun x8 => k8 v1 v2 x8 I)
def f_X9_addFour_8 (k8 : Int32 → Int32 → Int32 → zI → Option (Int32 × zI)) (v1 : Int32) (v2 : Int32) (v3 : Int32) (I : zI) : Option (Int32 × zI) :=
  if v3 < 0 then (some ((1 : Int32), I)) else (zlt ((v1.toUInt32 >>> (v3.toUInt32 &&& Int32.toUInt32 31)).toInt32) (fun x2 => zlt (x2 &&& (255 : Int32)) (fun x3 => if x3 = 0 then (f_X9_addFour_42 k8 v1 v2 v3 I) else (zb2 (f_X9_add x3 I) (fun x5 I6 => if x5 = 0 then (zlt (zu I6 1 1 v2) (fun I7 => some ((0 : Int32), I7))) else (f_X9_addFour_42 k8 v1 v2 v3 I6))))))
def f_X9_addFour (a1 : Int32) (I : zI) : Option (Int32 × zI) :=
  zlt (I 1 1) (fun x1 => zlp4 (f_X9_addFour_8) zF a1 x1 (24 : Int32) I)
set_option maxHeartbeats 4000000 in
set_option maxRecDepth 100000 in
theorem l_X9_addFour_42 {r : Int32 × zI} (C : zC p l e R s m args below meth c s0 a0 d cy B0 yX9_addFour.cls cX9_addFour 5 (some .boolean) bc bs bc bs 1 22 []) (L : zL) (k8 : Int32 → Int32 → Int32 → zI → Option (Int32 × zI)) (hk8 : ∀ (v1 : Int32) (v2 : Int32) (v3 : Int32) (I : zI), k8 v1 v2 v3 I = some r → zG p l e R s m args below meth c d cy B0 5 bc bs (zQ below s args d cy B0 bc bs (.inl (some (.int r.1))) zSH zKn bc bs r.2 L) 8 [(0, .ref (B0 + 1)), (1, .int v1), (2, .int v2), (3, .int v3)] [] zSH zKn bc bs I L) (v1 : Int32) (v2 : Int32) (v3 : Int32) (I : zI) (h : f_X9_addFour_42 k8 v1 v2 v3 I = some r) : zG p l e R s m args below meth c d cy B0 5 bc bs (zQ below s args d cy B0 bc bs (.inl (some (.int r.1))) zSH zKn bc bs r.2 L) 42 [(0, .ref (B0 + 1)), (1, .int v1), (2, .int v2), (3, .int v3)] [] zSH zKn bc bs I L := by
  unfold f_X9_addFour_42 at h
  obtain ⟨x8, ex8, h⟩ := zlt_e h
  refine z_iinc C (j := 3) (v := x8) (lv' := [(3, .int x8), (0, .ref (B0 + 1)), (1, .int v1), (2, .int v2)]) rfl (by rw [ex8]; rfl) (by decide) rfl dX9_addFour_42 ?_
  refine z_goto C 8 (by decide) dX9_addFour_45 ?_
  refine z_lv [1, 2, 3, 0] (lv' := [(0, .ref (B0 + 1)), (1, .int v1), (2, .int v2), (3, .int x8)]) rfl ?_
  exact hk8 v1 v2 x8 I h
set_option maxHeartbeats 4000000 in
set_option maxRecDepth 100000 in
theorem l_X9_addFour_8 {r : Int32 × zI} (C : zC p l e R s m args below meth c s0 a0 d cy B0 yX9_addFour.cls cX9_addFour 5 (some .boolean) bc bs bc bs 1 22 []) (L : zL) (k8 : Int32 → Int32 → Int32 → zI → Option (Int32 × zI)) (hk8 : ∀ (v1 : Int32) (v2 : Int32) (v3 : Int32) (I : zI), k8 v1 v2 v3 I = some r → zG p l e R s m args below meth c d cy B0 5 bc bs (zQ below s args d cy B0 bc bs (.inl (some (.int r.1))) zSH zKn bc bs r.2 L) 8 [(0, .ref (B0 + 1)), (1, .int v1), (2, .int v2), (3, .int v3)] [] zSH zKn bc bs I L) (v1 : Int32) (v2 : Int32) (v3 : Int32) (I : zI) (h : f_X9_addFour_8 k8 v1 v2 v3 I = some r) : zG p l e R s m args below meth c d cy B0 5 bc bs (zQ below s args d cy B0 bc bs (.inl (some (.int r.1))) zSH zKn bc bs r.2 L) 8 [(0, .ref (B0 + 1)), (1, .int v1), (2, .int v2), (3, .int v3)] [] zSH zKn bc bs I L := by
  unfold f_X9_addFour_8 at h
  refine z_iload_n C rfl 3 rfl dX9_addFour_8 ?_
  refine z_if_lt C 48 (by decide) dX9_addFour_9 (fun hc => ?_) (fun hc => ?_)
  · have h := zif_t hc h
    refine z_iconst C (v := 1) (by decide) dX9_addFour_48 ?_
    obtain rfl := Option.some.inj h
    exact z_iret C dX9_addFour_49 .boolean rfl rfl rfl
  · have h := zif_f hc h
    refine z_iload_n C rfl 1 rfl dX9_addFour_12 ?_
    refine z_iload_n C rfl 3 rfl dX9_addFour_13 ?_
    refine z_iushr C dX9_addFour_14 ?_
    obtain ⟨x2, ex2, h⟩ := zlt_e h
    refine z_eqi C ex2 ?_
    refine z_sipush C (v := 255) (by decide) dX9_addFour_15 ?_
    refine z_iand C dX9_addFour_18 ?_
    obtain ⟨x3, ex3, h⟩ := zlt_e h
    refine z_eqi C ex3 ?_
    refine z_istore C (lv' := [(4, .int x3), (0, .ref (B0 + 1)), (1, .int v1), (2, .int v2), (3, .int v3)]) (by decide) rfl dX9_addFour_19 ?_
    refine z_iload C 0 rfl dX9_addFour_21 ?_
    refine z_if_eq C 42 (by decide) dX9_addFour_23 (fun hc => ?_) (fun hc => ?_)
    · have h := zif_t hc h
      refine z_lv [1, 2, 3, 4] (lv' := [(0, .ref (B0 + 1)), (1, .int v1), (2, .int v2), (3, .int v3)]) rfl ?_
      exact l_X9_addFour_42 C L k8 hk8 v1 v2 v3 I h
    · have h := zif_f hc h
      refine z_aload_n C rfl 1 rfl dX9_addFour_26 ?_
      refine z_iload C 0 rfl dX9_addFour_27 ?_
      obtain ⟨x5, I6, hg4, h⟩ := zb2_e h
      refine z_callV C zc_9 rfl (by decide) dX9_addFour_29 yy_X9_add (c_X9_add C.2.2.2.2.1  x3 I L hg4) q_519 q_508 q_509 (by decide) (by decide) rfl rfl (Nat.le_of_ble_eq_true rfl) ⟨Nat.le_refl _, Nat.le_refl _, Nat.le_refl _, Nat.le_refl _⟩ ?_
      refine z_if_ne C 42 (by decide) dX9_addFour_32 (fun hc => ?_) (fun hc => ?_)
      · have h := zif_f hc h
        refine z_lv [1, 2, 3, 4] (lv' := [(0, .ref (B0 + 1)), (1, .int v1), (2, .int v2), (3, .int v3)]) rfl ?_
        exact l_X9_addFour_42 C L k8 hk8 v1 v2 v3 I6 h
      · have h := zif_t hc h
        refine z_aload_n C rfl 1 rfl dX9_addFour_35 ?_
        refine z_iload_n C rfl 3 rfl dX9_addFour_36 ?_
        refine z_puti C zc_9 dX9_addFour_37 1 1 rfl (by decide) (by decide) rfl q_126 rfl rfl rfl ?_
        obtain ⟨I7, eI7, h⟩ := zlt_e h
        refine z_eqI C eI7 ?_
        refine z_iconst C (v := 0) (by decide) dX9_addFour_40 ?_
        obtain rfl := Option.some.inj h
        exact z_iret C dX9_addFour_41 .boolean rfl rfl rfl
set_option maxHeartbeats 4000000 in
set_option maxRecDepth 100000 in
theorem L_X9_addFour_8 {r : Int32 × zI} (C : zC p l e R s m args below meth c s0 a0 d cy B0 yX9_addFour.cls cX9_addFour 5 (some .boolean) bc bs bc bs 1 22 []) (L : zL) (v1 : Int32) (v2 : Int32) (v3 : Int32) (I : zI) (h : zlp4 (f_X9_addFour_8) zF v1 v2 v3 I = some r) : zG p l e R s m args below meth c d cy B0 5 bc bs (zQ below s args d cy B0 bc bs (.inl (some (.int r.1))) zSH zKn bc bs r.2 L) 8 [(0, .ref (B0 + 1)), (1, .int v1), (2, .int v2), (3, .int v3)] [] zSH zKn bc bs I L :=
 zlp4_e (fun (v1 : Int32) (v2 : Int32) (v3 : Int32) (I : zI) => zG p l e R s m args below meth c d cy B0 5 bc bs (zQ below s args d cy B0 bc bs (.inl (some (.int r.1))) zSH zKn bc bs r.2 L) 8 [(0, .ref (B0 + 1)), (1, .int v1), (2, .int v2), (3, .int v3)] [] zSH zKn bc bs I L) (fun k9 hk9 v1 v2 v3 I h => l_X9_addFour_8 C L k9 hk9 v1 v2 v3 I h) zF v1 v2 v3 I h
set_option maxHeartbeats 4000000 in
set_option maxRecDepth 100000 in
theorem c_X9_addFour {r : Int32 × zI} (hE : zE0 l s0 a0 d cy B0) (a1 : Int32) (I : zI) (L : zL) (h : f_X9_addFour a1 I = some r) : zM l s0 d cy B0 yX9_addFour cX9_addFour 5 (some .boolean) 1 22 [.ref (B0 + 1), .int a1] zSH zKn bc bs I L (.inl (some (.int r.1))) zSH zKn bc bs r.2 L := by
  refine z_meth yy_X9_addFour hE (Nat.le_of_ble_eq_true rfl) (fun p e R s m args below meth c C => ?_)
  show zG p l e R s m args below meth c d cy B0 5 bc bs (zQ below s args d cy B0 bc bs (.inl (some (.int r.1))) zSH zKn bc bs r.2 L) 0 [(0, .ref (B0 + 1)), (1, .int a1)] [] zSH zKn bc bs I L
  unfold f_X9_addFour at h
  refine z_aload_n C rfl 0 rfl dX9_addFour_0 ?_
  refine z_geti C zc_9 dX9_addFour_1 1 1 rfl (by decide) (by decide) q_126 rfl ?_
  obtain ⟨x1, ex1, h⟩ := zlt_e h
  refine z_eqi C ex1 ?_
  refine z_istore_n C (lv' := [(2, .int x1), (0, .ref (B0 + 1)), (1, .int a1)]) rfl (by decide) rfl dX9_addFour_4 ?_
  refine z_bipush C (v := 24) (by decide) dX9_addFour_5 ?_
  refine z_istore_n C (lv' := [(3, .int (24 : Int32)), (2, .int x1), (0, .ref (B0 + 1)), (1, .int a1)]) rfl (by decide) rfl dX9_addFour_7 ?_
  refine z_lv [2, 3, 1, 0] (lv' := [(0, .ref (B0 + 1)), (1, .int a1), (2, .int x1), (3, .int (24 : Int32))]) rfl ?_
  exact L_X9_addFour_8 C L a1 x1 (24 : Int32) I h
theorem q_470 : (Cond.fieldLink "DeviceFind" (26 : Nat) "DeviceFind" "tape" "LDeviceFind$Tape;") ∈ lw_tbl := List.mem_of_getElem? (i := 470) (by decide +kernel)
theorem q_506 : (Cond.code ({ cls := "DeviceFind", name := "unit", desc := "(I)Z" } : Jvm.MethodName) prog_1_method_2_code (2 : Nat) (Option.some Jvm.ClassFile.FieldType.boolean)) ∈ lw_tbl := List.mem_of_getElem? (i := 506) (by decide +kernel)
theorem q_507 : (Cond.methodLink "DeviceFind" (100 : Nat) ({ cls := "DeviceFind$Tape", name := "add", desc := "(I)Z" } : Jvm.MethodName)) ∈ lw_tbl := List.mem_of_getElem? (i := 507) (by decide +kernel)
theorem yy_X11_unit : zY yX11_unit cX11_unit 2 (some .boolean) 1 := ⟨q_506, q_75, by decide +kernel, by decide +kernel, by decide +kernel⟩
def f_X11_unit (a1 : Int32) (I : zI) : Option (Int32 × zI) :=
  zb2 (f_X9_add a1 I) (fun x2 I3 => zck (zbo x2) (some (x2, I3)))
set_option maxHeartbeats 4000000 in
set_option maxRecDepth 100000 in
theorem c_X11_unit {r : Int32 × zI} (hE : zE0 l s0 a0 d cy B0) (a1 : Int32) (I : zI) (L : zL) (h : f_X11_unit a1 I = some r) : zM l s0 d cy B0 yX11_unit cX11_unit 2 (some .boolean) 1 22 [.ref (B0 + 0), .int a1] zSH zKn bc bs I L (.inl (some (.int r.1))) zSH zKn bc bs r.2 L := by
  refine z_meth yy_X11_unit hE (Nat.le_of_ble_eq_true rfl) (fun p e R s m args below meth c C => ?_)
  show zG p l e R s m args below meth c d cy B0 2 bc bs (zQ below s args d cy B0 bc bs (.inl (some (.int r.1))) zSH zKn bc bs r.2 L) 0 [(0, .ref (B0 + 0)), (1, .int a1)] [] zSH zKn bc bs I L
  unfold f_X11_unit at h
  refine z_aload_n C rfl 0 rfl dX11_unit_0 ?_
  refine z_getr C zc_11 dX11_unit_1 1 0 1 rfl (by decide) (by decide) q_470 rfl rfl ?_
  refine z_iload_n C rfl 1 rfl dX11_unit_4 ?_
  obtain ⟨x2, I3, hg1, h⟩ := zb2_e h
  refine z_callV C zc_9 rfl (by decide) dX11_unit_5 yy_X9_add (c_X9_add C.2.2.2.2.1  a1 I L hg1) q_507 q_508 q_509 (by decide) (by decide) rfl rfl (Nat.le_of_ble_eq_true rfl) ⟨Nat.le_refl _, Nat.le_refl _, Nat.le_refl _, Nat.le_refl _⟩ ?_
  obtain ⟨hb4, h⟩ := zck_e h
  obtain rfl := Option.some.inj h
  exact z_iret C dX11_unit_8 .boolean rfl (zbo_n hb4).1 rfl
theorem q_514 : (Cond.code ({ cls := "DeviceFind", name := "units", desc := "(I)Z" } : Jvm.MethodName) prog_1_method_3_code (2 : Nat) (Option.some Jvm.ClassFile.FieldType.boolean)) ∈ lw_tbl := List.mem_of_getElem? (i := 514) (by decide +kernel)
theorem q_515 : (Cond.methodLink "DeviceFind" (104 : Nat) ({ cls := "DeviceFind$Tape", name := "addFour", desc := "(I)Z" } : Jvm.MethodName)) ∈ lw_tbl := List.mem_of_getElem? (i := 515) (by decide +kernel)
theorem q_516 : (Cond.instanceMethod ({ cls := "DeviceFind$Tape", name := "addFour", desc := "(I)Z" } : Jvm.MethodName)) ∈ lw_tbl := List.mem_of_getElem? (i := 516) (by decide +kernel)
theorem q_517 : (Cond.selects "DeviceFind$Tape" ({ cls := "DeviceFind$Tape", name := "addFour", desc := "(I)Z" } : Jvm.MethodName) ({ cls := "DeviceFind$Tape", name := "addFour", desc := "(I)Z" } : Jvm.MethodName)) ∈ lw_tbl := List.mem_of_getElem? (i := 517) (by decide +kernel)
theorem yy_X11_units : zY yX11_units cX11_units 2 (some .boolean) 1 := ⟨q_514, q_75, by decide +kernel, by decide +kernel, by decide +kernel⟩
def f_X11_units (a1 : Int32) (I : zI) : Option (Int32 × zI) :=
  zb2 (f_X9_addFour a1 I) (fun x2 I3 => zck (zbo x2) (some (x2, I3)))
set_option maxHeartbeats 4000000 in
set_option maxRecDepth 100000 in
theorem c_X11_units {r : Int32 × zI} (hE : zE0 l s0 a0 d cy B0) (a1 : Int32) (I : zI) (L : zL) (h : f_X11_units a1 I = some r) : zM l s0 d cy B0 yX11_units cX11_units 2 (some .boolean) 2 46 [.ref (B0 + 0), .int a1] zSH zKn bc bs I L (.inl (some (.int r.1))) zSH zKn bc bs r.2 L := by
  refine z_meth yy_X11_units hE (Nat.le_of_ble_eq_true rfl) (fun p e R s m args below meth c C => ?_)
  show zG p l e R s m args below meth c d cy B0 2 bc bs (zQ below s args d cy B0 bc bs (.inl (some (.int r.1))) zSH zKn bc bs r.2 L) 0 [(0, .ref (B0 + 0)), (1, .int a1)] [] zSH zKn bc bs I L
  unfold f_X11_units at h
  refine z_aload_n C rfl 0 rfl dX11_units_0 ?_
  refine z_getr C zc_11 dX11_units_1 1 0 1 rfl (by decide) (by decide) q_470 rfl rfl ?_
  refine z_iload_n C rfl 1 rfl dX11_units_4 ?_
  obtain ⟨x2, I3, hg1, h⟩ := zb2_e h
  refine z_callV C zc_9 rfl (by decide) dX11_units_5 yy_X9_addFour (c_X9_addFour C.2.2.2.2.1  a1 I L hg1) q_515 q_516 q_517 (by decide) (by decide) rfl rfl (Nat.le_of_ble_eq_true rfl) ⟨Nat.le_refl _, Nat.le_refl _, Nat.le_refl _, Nat.le_refl _⟩ ?_
  obtain ⟨hb4, h⟩ := zck_e h
  obtain rfl := Option.some.inj h
  exact z_iret C dX11_units_8 .boolean rfl (zbo_n hb4).1 rfl
theorem q_128 : (Cond.fieldLink "DeviceFind" (111 : Nat) "DeviceFind$Tape" "length" "I") ∈ lw_tbl := List.mem_of_getElem? (i := 128) (by decide +kernel)
theorem q_211 : (Cond.fieldLink "DeviceFind" (118 : Nat) "DeviceFind$Plan" "kinds" "I") ∈ lw_tbl := List.mem_of_getElem? (i := 211) (by decide +kernel)
theorem q_471 : (Cond.fieldLink "DeviceFind" (35 : Nat) "DeviceFind" "reader" "LDeviceFind$Reader;") ∈ lw_tbl := List.mem_of_getElem? (i := 471) (by decide +kernel)
theorem q_477 : (Cond.fieldLink "DeviceFind" (89 : Nat) "DeviceFind" "plan" "LDeviceFind$Plan;") ∈ lw_tbl := List.mem_of_getElem? (i := 477) (by decide +kernel)
theorem q_478 : (Cond.fieldLink "DeviceFind" (93 : Nat) "DeviceFind" "told" "Z") ∈ lw_tbl := List.mem_of_getElem? (i := 478) (by decide +kernel)
theorem q_479 : (Cond.fieldLink "DeviceFind" (97 : Nat) "DeviceFind" "found" "Z") ∈ lw_tbl := List.mem_of_getElem? (i := 479) (by decide +kernel)
theorem q_523 : (Cond.code ({ cls := "DeviceFind", name := "read", desc := "()I" } : Jvm.MethodName) prog_1_method_4_code (2 : Nat) (Option.some Jvm.ClassFile.FieldType.int)) ∈ lw_tbl := List.mem_of_getElem? (i := 523) (by decide +kernel)
theorem q_524 : (Cond.methodLink "DeviceFind" (107 : Nat) ({ cls := "DeviceFind$Reader", name := "wrongWord", desc := "()I" } : Jvm.MethodName)) ∈ lw_tbl := List.mem_of_getElem? (i := 524) (by decide +kernel)
theorem q_525 : (Cond.instanceMethod ({ cls := "DeviceFind$Reader", name := "wrongWord", desc := "()I" } : Jvm.MethodName)) ∈ lw_tbl := List.mem_of_getElem? (i := 525) (by decide +kernel)
theorem q_526 : (Cond.selects "DeviceFind$Reader" ({ cls := "DeviceFind$Reader", name := "wrongWord", desc := "()I" } : Jvm.MethodName) ({ cls := "DeviceFind$Reader", name := "wrongWord", desc := "()I" } : Jvm.MethodName)) ∈ lw_tbl := List.mem_of_getElem? (i := 526) (by decide +kernel)
theorem q_709 : (Cond.methodLink "DeviceFind" (114 : Nat) ({ cls := "DeviceFind$Reader", name := "exchange", desc := "(LDeviceFind$Plan;)LDeviceFind$Plan;" } : Jvm.MethodName)) ∈ lw_tbl := List.mem_of_getElem? (i := 709) (by decide +kernel)
theorem q_710 : (Cond.instanceMethod ({ cls := "DeviceFind$Reader", name := "exchange", desc := "(LDeviceFind$Plan;)LDeviceFind$Plan;" } : Jvm.MethodName)) ∈ lw_tbl := List.mem_of_getElem? (i := 710) (by decide +kernel)
theorem q_711 : (Cond.selects "DeviceFind$Reader" ({ cls := "DeviceFind$Reader", name := "exchange", desc := "(LDeviceFind$Plan;)LDeviceFind$Plan;" } : Jvm.MethodName) ({ cls := "DeviceFind$Reader", name := "exchange", desc := "(LDeviceFind$Plan;)LDeviceFind$Plan;" } : Jvm.MethodName)) ∈ lw_tbl := List.mem_of_getElem? (i := 711) (by decide +kernel)
theorem yy_X11_read : zY yX11_read cX11_read 2 (some .int) 0 := ⟨q_523, q_75, by decide +kernel, by decide +kernel, by decide +kernel⟩
def f_X11_read (P : Nat) (Q : Nat) (I : zI) (L : zL) : Option (Int32 × zI × zL) :=
  zb3 (f_X8_wrongWord Q I L) (fun x2 I3 L4 => zlt (zu I3 1 1 (0 : Int32)) (fun I5 => if x2 = (-1 : Int32) then (zck (decide (I5 0 8 = nI (P + 1))) (zb1 (f_X8_exchange P Q I5) (fun I8 => zlt (zu I8 0 8 (nI (Q + 1))) (fun I9 => zlt (zu I9 0 9 (1 : Int32)) (fun I10 => zlt (zu I10 0 10 (0 : Int32)) (fun I11 => zck (decide (I11 0 8 = nI (Q + 1))) (some (I11 Q 15, I11, L4)))))))) else (some ((-1 : Int32) - x2, I5, L4))))
set_option maxHeartbeats 4000000 in
set_option maxRecDepth 100000 in
theorem c_X11_read {r : Int32 × zI × zL} (hE : zE0 l s0 a0 d cy B0) {P : Nat} (hP : zpl P) {Q : Nat} (hQ : zpl Q) (I : zI) (L : zL) (h : f_X11_read P Q I L = some r) : zM l s0 d cy B0 yX11_read cX11_read 2 (some .int) 11 237 [.ref (B0 + 0)] zSH zKn bc bs I L (.inl (some (.int r.1))) zSH zKn bc bs r.2.1 r.2.2 := by
  refine z_meth yy_X11_read hE (Nat.le_of_ble_eq_true rfl) (fun p e R s m args below meth c C => ?_)
  show zG p l e R s m args below meth c d cy B0 2 bc bs (zQ below s args d cy B0 bc bs (.inl (some (.int r.1))) zSH zKn bc bs r.2.1 r.2.2) 0 [(0, .ref (B0 + 0))] [] zSH zKn bc bs I L
  unfold f_X11_read at h
  refine z_aload_n C rfl 0 rfl dX11_read_0 ?_
  refine z_getr C zc_11 dX11_read_1 2 0 3 rfl (by decide) (by decide) q_471 rfl rfl ?_
  obtain ⟨x2, I3, L4, hg1, h⟩ := zb3_e h
  refine z_callV C zc_8 rfl (by decide) dX11_read_4 yy_X8_wrongWord (c_X8_wrongWord C.2.2.2.2.1 hQ I L hg1) q_524 q_525 q_526 (by decide) (by decide) rfl rfl (Nat.le_of_ble_eq_true rfl) ⟨Nat.le_refl _, Nat.le_refl _, Nat.le_refl _, Nat.le_refl _⟩ ?_
  refine z_istore_n C (lv' := [(1, .int x2), (0, .ref (B0 + 0))]) rfl (by decide) rfl dX11_read_7 ?_
  refine z_aload_n C rfl 1 rfl dX11_read_8 ?_
  refine z_getr C zc_11 dX11_read_9 1 0 1 rfl (by decide) (by decide) q_470 rfl rfl ?_
  refine z_iconst C (v := 0) (by decide) dX11_read_12 ?_
  refine z_puti C zc_9 dX11_read_13 1 1 rfl (by decide) (by decide) rfl q_128 rfl rfl rfl ?_
  obtain ⟨I5, eI5, h⟩ := zlt_e h
  refine z_eqI C eI5 ?_
  refine z_iload_n C rfl 0 rfl dX11_read_16 ?_
  refine z_iconst C (v := -1) (by decide) dX11_read_17 ?_
  refine z_icmp_eq C 25 (by decide) dX11_read_18 (fun hc => ?_) (fun hc => ?_)
  · have h := zif_t hc h
    refine z_aload_n C rfl 1 rfl dX11_read_25 ?_
    refine z_aload_n C rfl 1 rfl dX11_read_26 ?_
    refine z_getr C zc_11 dX11_read_27 2 0 3 rfl (by decide) (by decide) q_471 rfl rfl ?_
    refine z_aload_n C rfl 1 rfl dX11_read_30 ?_
    obtain ⟨hb6, h⟩ := zck_e h
    refine z_getm C zc_11 dX11_read_31 8 0 P rfl (by decide) (by decide) q_477 rfl (of_decide_eq_true hb6) (zpl_lt2 hP) ?_
    obtain ⟨I8, hg7, h⟩ := zb1_e h
    refine z_callV C zc_8 rfl (by decide) dX11_read_34 yy_X8_exchange (c_X8_exchange C.2.2.2.2.1 hP hQ I5 L4 hg7) q_709 q_710 q_711 (by decide) (by decide) rfl rfl (Nat.le_of_ble_eq_true rfl) ⟨Nat.le_refl _, Nat.le_refl _, Nat.le_refl _, Nat.le_refl _⟩ ?_
    refine z_putr C zc_11 dX11_read_37 8 0 rfl (by decide) (by decide) rfl q_477 (zpl_lt2 hQ) rfl rfl rfl ?_
    obtain ⟨I9, eI9, h⟩ := zlt_e h
    refine z_eqI C eI9 ?_
    refine z_aload_n C rfl 1 rfl dX11_read_40 ?_
    refine z_iconst C (v := 1) (by decide) dX11_read_41 ?_
    refine z_puti C zc_11 dX11_read_42 9 0 rfl (by decide) (by decide) rfl q_478 rfl rfl rfl ?_
    obtain ⟨I10, eI10, h⟩ := zlt_e h
    refine z_eqI C eI10 ?_
    refine z_aload_n C rfl 1 rfl dX11_read_45 ?_
    refine z_iconst C (v := 0) (by decide) dX11_read_46 ?_
    refine z_puti C zc_11 dX11_read_47 10 0 rfl (by decide) (by decide) rfl q_479 rfl rfl rfl ?_
    obtain ⟨I11, eI11, h⟩ := zlt_e h
    refine z_eqI C eI11 ?_
    refine z_aload_n C rfl 1 rfl dX11_read_50 ?_
    obtain ⟨hb12, h⟩ := zck_e h
    refine z_getm C zc_11 dX11_read_51 8 0 Q rfl (by decide) (by decide) q_477 rfl (of_decide_eq_true hb12) (zpl_lt2 hQ) ?_
    refine z_geti C zc_7 dX11_read_54 15 Q (zpl_k hQ) (zpl_lt hQ) (by decide) q_211 rfl ?_
    obtain rfl := Option.some.inj h
    exact z_iret C dX11_read_57 .int rfl rfl rfl
  · have h := zif_f hc h
    refine z_iconst C (v := -1) (by decide) dX11_read_21 ?_
    refine z_iload_n C rfl 0 rfl dX11_read_22 ?_
    refine z_isub C dX11_read_23 ?_
    obtain rfl := Option.some.inj h
    exact z_iret C dX11_read_24 .int rfl rfl rfl
theorem q_96 : (Cond.initialized "java/lang/IndexOutOfBoundsException") ∈ lw_tbl := List.mem_of_getElem? (i := 96) (by decide +kernel)
theorem q_728 : (Cond.code ({ cls := "DeviceFind", name := "mustBeBelow", desc := "(II)V" } : Jvm.MethodName) prog_1_method_19_code (2 : Nat) (Option.none : Option Jvm.ClassFile.FieldType)) ∈ lw_tbl := List.mem_of_getElem? (i := 728) (by decide +kernel)
theorem q_729 : (Cond.classLink "DeviceFind" (239 : Nat) "java/lang/IndexOutOfBoundsException") ∈ lw_tbl := List.mem_of_getElem? (i := 729) (by decide +kernel)
theorem yy_X11_mustBeBelow : zY yX11_mustBeBelow cX11_mustBeBelow 2 none 2 := ⟨q_728, q_75, by decide +kernel, by decide +kernel, by decide +kernel⟩
theorem xat_X11_241 : ∀ w ∈ vx_at0 RX11 241 "java/lang/IndexOutOfBoundsException" ["java/lang/RuntimeException", "java/lang/Exception"], w ∈ lw_tbl ∧ zgood w = true ∧ vx_ot w = true := by decide +kernel
def f_X11_mustBeBelow_9 : Option ((Unit ⊕ Nat)) :=
  some (.inr 0)
def f_X11_mustBeBelow (a0 : Int32) (a1 : Int32) : Option ((Unit ⊕ Nat)) :=
  if a0 < 0 then (f_X11_mustBeBelow_9 ) else (if a0 < a1 then (some (.inl ())) else (f_X11_mustBeBelow_9 ))
set_option maxHeartbeats 4000000 in
set_option maxRecDepth 100000 in
theorem l_X11_mustBeBelow_9 {r : (Unit ⊕ Nat)} (C : zC p l e R s m args below meth c s0 a0 d cy B0 yX11_mustBeBelow.cls cX11_mustBeBelow 2 none bc bs (zfc r bc) (zfs r bs) 6 89 []) (I : zI) (L : zL) (h : f_X11_mustBeBelow_9 = some r) : zG p l e R s m args below meth c d cy B0 2 bc bs (zQ below s args d cy B0 bc bs (zrv r) zSH zKn (zfc r bc) (zfs r bs) I L) 9 [] [] zSH zKn bc bs I L := by
  unfold f_X11_mustBeBelow_9 at h
  obtain rfl := Option.some.inj h
  exact z_throw C dX11_mustBeBelow_9 dX11_mustBeBelow_12 dX11_mustBeBelow_13 dX11_mustBeBelow_16 (by decide +kernel) q_729 q_96 xat_X11_241 rfl (by decide) (Nat.le_of_ble_eq_true rfl) ⟨rfl, rfl⟩ rfl rfl rfl rfl
set_option maxHeartbeats 4000000 in
set_option maxRecDepth 100000 in
theorem c_X11_mustBeBelow {r : (Unit ⊕ Nat)} (hE : zE0 l s0 a0 d cy B0) (a0 : Int32) (a1 : Int32) (I : zI) (L : zL) (h : f_X11_mustBeBelow a0 a1 = some r) : zM l s0 d cy B0 yX11_mustBeBelow cX11_mustBeBelow 2 none 6 89 [.int a0, .int a1] zSH zKn bc bs I L (zrv r) zSH zKn (zfc r bc) (zfs r bs) I L := by
  refine z_meth yy_X11_mustBeBelow hE (Nat.le_of_ble_eq_true rfl) (fun p e R s m args below meth c C => ?_)
  show zG p l e R s m args below meth c d cy B0 2 bc bs (zQ below s args d cy B0 bc bs (zrv r) zSH zKn (zfc r bc) (zfs r bs) I L) 0 [(0, .int a0), (1, .int a1)] [] zSH zKn bc bs I L
  unfold f_X11_mustBeBelow at h
  refine z_iload_n C rfl 0 rfl dX11_mustBeBelow_0 ?_
  refine z_if_lt C 9 (by decide) dX11_mustBeBelow_1 (fun hc => ?_) (fun hc => ?_)
  · have h := zif_t hc h
    refine z_lv [] (lv' := []) rfl ?_
    exact l_X11_mustBeBelow_9 C I L  h
  · have h := zif_f hc h
    refine z_iload_n C rfl 0 rfl dX11_mustBeBelow_4 ?_
    refine z_iload_n C rfl 1 rfl dX11_mustBeBelow_5 ?_
    refine z_icmp_lt C 17 (by decide) dX11_mustBeBelow_6 (fun hc => ?_) (fun hc => ?_)
    · have h := zif_t hc h
      obtain rfl := Option.some.inj h
      exact z_vret C dX11_mustBeBelow_17 rfl rfl
    · have h := zif_f hc h
      refine z_lv [] (lv' := []) rfl ?_
      exact l_X11_mustBeBelow_9 C I L  h
set_option maxHeartbeats 4000000 in
set_option maxRecDepth 100000 in
theorem cn_X11_mustBeBelow {v9 : Unit} (hE : zE0 l s0 a0 d cy B0) (a0 : Int32) (a1 : Int32) (I : zI) (L : zL) (h : f_X11_mustBeBelow a0 a1 = some (.inl v9)) : zM l s0 d cy B0 yX11_mustBeBelow cX11_mustBeBelow 2 none 6 89 [.int a0, .int a1] zSH zKn bc bs I L (.inl none) zSH zKn bc bs I L := c_X11_mustBeBelow hE a0 a1 I L h
set_option maxHeartbeats 4000000 in
set_option maxRecDepth 100000 in
theorem cx_X11_mustBeBelow {k9 : Nat} (hE : zE0 l s0 a0 d cy B0) (a0 : Int32) (a1 : Int32) (I : zI) (L : zL) (h : f_X11_mustBeBelow a0 a1 = some (.inr k9)) : zM l s0 d cy B0 yX11_mustBeBelow cX11_mustBeBelow 2 none 6 89 [.int a0, .int a1] zSH zKn bc bs I L (.inr (zex k9)) zSH zKn (bc + 1) (bs + 6) I L := c_X11_mustBeBelow hE a0 a1 I L h
theorem q_97 : (Cond.initialized "java/lang/IllegalStateException") ∈ lw_tbl := List.mem_of_getElem? (i := 97) (by decide +kernel)
theorem q_795 : (Cond.code ({ cls := "DeviceFind", name := "mustBeTrue", desc := "(Z)V" } : Jvm.MethodName) prog_1_method_22_code (1 : Nat) (Option.none : Option Jvm.ClassFile.FieldType)) ∈ lw_tbl := List.mem_of_getElem? (i := 795) (by decide +kernel)
theorem q_796 : (Cond.classLink "DeviceFind" (242 : Nat) "java/lang/IllegalStateException") ∈ lw_tbl := List.mem_of_getElem? (i := 796) (by decide +kernel)
theorem yy_X11_mustBeTrue : zY yX11_mustBeTrue cX11_mustBeTrue 1 none 1 := ⟨q_795, q_75, by decide +kernel, by decide +kernel, by decide +kernel⟩
theorem xat_X11_244 : ∀ w ∈ vx_at0 RX11 244 "java/lang/IllegalStateException" ["java/lang/RuntimeException", "java/lang/Exception"], w ∈ lw_tbl ∧ zgood w = true ∧ vx_ot w = true := by decide +kernel
def f_X11_mustBeTrue (a0 : Int32) : Option ((Unit ⊕ Nat)) :=
  if a0 = 0 then (some (.inr 1)) else (some (.inl ()))
set_option maxHeartbeats 4000000 in
set_option maxRecDepth 100000 in
theorem c_X11_mustBeTrue {r : (Unit ⊕ Nat)} (hE : zE0 l s0 a0 d cy B0) (a0 : Int32) (I : zI) (L : zL) (h : f_X11_mustBeTrue a0 = some r) : zM l s0 d cy B0 yX11_mustBeTrue cX11_mustBeTrue 1 none 6 89 [.int a0] zSH zKn bc bs I L (zrv r) zSH zKn (zfc r bc) (zfs r bs) I L := by
  refine z_meth yy_X11_mustBeTrue hE (Nat.le_of_ble_eq_true rfl) (fun p e R s m args below meth c C => ?_)
  show zG p l e R s m args below meth c d cy B0 1 bc bs (zQ below s args d cy B0 bc bs (zrv r) zSH zKn (zfc r bc) (zfs r bs) I L) 0 [(0, .int a0)] [] zSH zKn bc bs I L
  unfold f_X11_mustBeTrue at h
  refine z_iload_n C rfl 0 rfl dX11_mustBeTrue_0 ?_
  refine z_if_ne C 12 (by decide) dX11_mustBeTrue_1 (fun hc => ?_) (fun hc => ?_)
  · have h := zif_f hc h
    obtain rfl := Option.some.inj h
    exact z_vret C dX11_mustBeTrue_12 rfl rfl
  · have h := zif_t hc h
    obtain rfl := Option.some.inj h
    exact z_throw C dX11_mustBeTrue_4 dX11_mustBeTrue_7 dX11_mustBeTrue_8 dX11_mustBeTrue_11 (by decide +kernel) q_796 q_97 xat_X11_244 rfl (by decide) (Nat.le_of_ble_eq_true rfl) ⟨rfl, rfl⟩ rfl rfl rfl rfl
set_option maxHeartbeats 4000000 in
set_option maxRecDepth 100000 in
theorem cn_X11_mustBeTrue {v9 : Unit} (hE : zE0 l s0 a0 d cy B0) (a0 : Int32) (I : zI) (L : zL) (h : f_X11_mustBeTrue a0 = some (.inl v9)) : zM l s0 d cy B0 yX11_mustBeTrue cX11_mustBeTrue 1 none 6 89 [.int a0] zSH zKn bc bs I L (.inl none) zSH zKn bc bs I L := c_X11_mustBeTrue hE a0 I L h
set_option maxHeartbeats 4000000 in
set_option maxRecDepth 100000 in
theorem cx_X11_mustBeTrue {k9 : Nat} (hE : zE0 l s0 a0 d cy B0) (a0 : Int32) (I : zI) (L : zL) (h : f_X11_mustBeTrue a0 = some (.inr k9)) : zM l s0 d cy B0 yX11_mustBeTrue cX11_mustBeTrue 1 none 6 89 [.int a0] zSH zKn bc bs I L (.inr (zex k9)) zSH zKn (bc + 1) (bs + 6) I L := c_X11_mustBeTrue hE a0 I L h
theorem q_278 : (Cond.fieldLink "DeviceFind" (125 : Nat) "DeviceFind$Drawing" "polygons" "I") ∈ lw_tbl := List.mem_of_getElem? (i := 278) (by decide +kernel)
theorem q_469 : (Cond.fieldLink "DeviceFind" (19 : Nat) "DeviceFind" "inputs" "I") ∈ lw_tbl := List.mem_of_getElem? (i := 469) (by decide +kernel)
theorem q_472 : (Cond.fieldLink "DeviceFind" (42 : Nat) "DeviceFind" "drawing" "LDeviceFind$Drawing;") ∈ lw_tbl := List.mem_of_getElem? (i := 472) (by decide +kernel)
theorem q_725 : (Cond.code ({ cls := "DeviceFind", name := "polygon", desc := "(I)I" } : Jvm.MethodName) prog_1_method_5_code (2 : Nat) (Option.some Jvm.ClassFile.FieldType.int)) ∈ lw_tbl := List.mem_of_getElem? (i := 725) (by decide +kernel)
theorem q_726 : (Cond.methodLink "DeviceFind" (121 : Nat) ({ cls := "DeviceFind", name := "mustBeBelow", desc := "(II)V" } : Jvm.MethodName)) ∈ lw_tbl := List.mem_of_getElem? (i := 726) (by decide +kernel)
theorem q_727 : (Cond.static ({ cls := "DeviceFind", name := "mustBeBelow", desc := "(II)V" } : Jvm.MethodName)) ∈ lw_tbl := List.mem_of_getElem? (i := 727) (by decide +kernel)
theorem q_793 : (Cond.methodLink "DeviceFind" (128 : Nat) ({ cls := "DeviceFind", name := "mustBeTrue", desc := "(Z)V" } : Jvm.MethodName)) ∈ lw_tbl := List.mem_of_getElem? (i := 793) (by decide +kernel)
theorem q_794 : (Cond.static ({ cls := "DeviceFind", name := "mustBeTrue", desc := "(Z)V" } : Jvm.MethodName)) ∈ lw_tbl := List.mem_of_getElem? (i := 794) (by decide +kernel)
theorem q_811 : (Cond.methodLink "DeviceFind" (132 : Nat) ({ cls := "DeviceFind$Drawing", name := "add", desc := "(I)I" } : Jvm.MethodName)) ∈ lw_tbl := List.mem_of_getElem? (i := 811) (by decide +kernel)
theorem q_812 : (Cond.instanceMethod ({ cls := "DeviceFind$Drawing", name := "add", desc := "(I)I" } : Jvm.MethodName)) ∈ lw_tbl := List.mem_of_getElem? (i := 812) (by decide +kernel)
theorem q_813 : (Cond.selects "DeviceFind$Drawing" ({ cls := "DeviceFind$Drawing", name := "add", desc := "(I)I" } : Jvm.MethodName) ({ cls := "DeviceFind$Drawing", name := "add", desc := "(I)I" } : Jvm.MethodName)) ∈ lw_tbl := List.mem_of_getElem? (i := 813) (by decide +kernel)
theorem yy_X11_polygon : zY yX11_polygon cX11_polygon 2 (some .int) 1 := ⟨q_725, q_75, by decide +kernel, by decide +kernel, by decide +kernel⟩
def f_X11_polygon_25 (v1 : Int32) (w0 : Int32) (I : zI) : Option ((Int32 ⊕ Nat) × zI) :=
  zb1 (f_X11_mustBeTrue w0) (fun x6 => zsm x6 (fun x7 => zlt (zu I 0 10 (0 : Int32)) (fun I9 => zb2 (f_X1_add v1 I9) (fun x11 I12 => some (.inl x11, I12)))) (fun k8 => some (.inr k8, I)))
def f_X11_polygon (a1 : Int32) (I : zI) : Option ((Int32 ⊕ Nat) × zI) :=
  zb1 (f_X11_mustBeBelow a1 (I 0 0)) (fun x2 => zsm x2 (fun x3 => if (60 : Int32) ≤ (I 20 5) then (f_X11_polygon_25 a1 (0 : Int32) I) else (f_X11_polygon_25 a1 (1 : Int32) I)) (fun k4 => some (.inr k4, I)))
set_option maxHeartbeats 4000000 in
set_option maxRecDepth 100000 in
theorem l_X11_polygon_25 {r : (Int32 ⊕ Nat) × zI} (C : zC p l e R s m args below meth c s0 a0 d cy B0 yX11_polygon.cls cX11_polygon 2 (some .int) bc bs (zfc r.1 bc) (zfs r.1 bs) 7 110 []) (L : zL) (v1 : Int32) (w0 : Int32) (I : zI) (h : f_X11_polygon_25 v1 w0 I = some r) : zG p l e R s m args below meth c d cy B0 2 bc bs (zQ below s args d cy B0 bc bs (zri r.1) zSH zKn (zfc r.1 bc) (zfs r.1 bs) r.2 L) 25 [(0, .ref (B0 + 0)), (1, .int v1)] [.int w0] zSH zKn bc bs I L := by
  unfold f_X11_polygon_25 at h
  obtain ⟨x6, hg5, h⟩ := zb1_e h
  rcases x6 with x7 | k8
  · have h := zsm_l h
    refine z_callS C dX11_polygon_25 yy_X11_mustBeTrue (cn_X11_mustBeTrue C.2.2.2.2.1  w0 I L hg5) q_793 q_794 (by decide) (by decide) rfl rfl (Nat.le_of_ble_eq_true rfl) ⟨Nat.le_refl _, zfc_le _ _, Nat.le_refl _, zfs_le _ _⟩ ?_
    refine z_aload_n C rfl 0 rfl dX11_polygon_28 ?_
    refine z_iconst C (v := 0) (by decide) dX11_polygon_29 ?_
    refine z_puti C zc_11 dX11_polygon_30 10 0 rfl (by decide) (by decide) rfl q_479 rfl rfl rfl ?_
    obtain ⟨I9, eI9, h⟩ := zlt_e h
    refine z_eqI C eI9 ?_
    refine z_aload_n C rfl 0 rfl dX11_polygon_33 ?_
    refine z_getr C zc_11 dX11_polygon_34 3 0 20 rfl (by decide) (by decide) q_472 rfl rfl ?_
    refine z_iload_n C rfl 1 rfl dX11_polygon_37 ?_
    obtain ⟨x11, I12, hg10, h⟩ := zb2_e h
    refine z_callV C zc_1 rfl (by decide) dX11_polygon_38 yy_X1_add (c_X1_add C.2.2.2.2.1  v1 I9 L hg10) q_811 q_812 q_813 (by decide) (by decide) rfl rfl (Nat.le_of_ble_eq_true rfl) ⟨Nat.le_refl _, zfc_le _ _, Nat.le_refl _, zfs_le _ _⟩ ?_
    obtain rfl := Option.some.inj h
    exact z_iret C dX11_polygon_41 .int rfl rfl rfl
  · have h := zsm_r h
    obtain rfl := Option.some.inj h
    exact z_callSX C dX11_polygon_25 yy_X11_mustBeTrue (cx_X11_mustBeTrue C.2.2.2.2.1  w0 I L hg5) q_793 q_794 (by decide) (by decide) rfl rfl (Nat.le_of_ble_eq_true rfl) ⟨Nat.le_succ _, Nat.le_refl _, Nat.le_add_right _ _, Nat.le_refl _⟩ rfl rfl
set_option maxHeartbeats 4000000 in
set_option maxRecDepth 100000 in
theorem c_X11_polygon {r : (Int32 ⊕ Nat) × zI} (hE : zE0 l s0 a0 d cy B0) (a1 : Int32) (I : zI) (L : zL) (h : f_X11_polygon a1 I = some r) : zM l s0 d cy B0 yX11_polygon cX11_polygon 2 (some .int) 7 110 [.ref (B0 + 0), .int a1] zSH zKn bc bs I L (zri r.1) zSH zKn (zfc r.1 bc) (zfs r.1 bs) r.2 L := by
  refine z_meth yy_X11_polygon hE (Nat.le_of_ble_eq_true rfl) (fun p e R s m args below meth c C => ?_)
  show zG p l e R s m args below meth c d cy B0 2 bc bs (zQ below s args d cy B0 bc bs (zri r.1) zSH zKn (zfc r.1 bc) (zfs r.1 bs) r.2 L) 0 [(0, .ref (B0 + 0)), (1, .int a1)] [] zSH zKn bc bs I L
  unfold f_X11_polygon at h
  refine z_iload_n C rfl 1 rfl dX11_polygon_0 ?_
  refine z_aload_n C rfl 0 rfl dX11_polygon_1 ?_
  refine z_geti C zc_11 dX11_polygon_2 0 0 rfl (by decide) (by decide) q_469 rfl ?_
  obtain ⟨x2, hg1, h⟩ := zb1_e h
  rcases x2 with x3 | k4
  · have h := zsm_l h
    refine z_callS C dX11_polygon_5 yy_X11_mustBeBelow (cn_X11_mustBeBelow C.2.2.2.2.1  a1 (I 0 0) I L hg1) q_726 q_727 (by decide) (by decide) rfl rfl (Nat.le_of_ble_eq_true rfl) ⟨Nat.le_refl _, zfc_le _ _, Nat.le_refl _, zfs_le _ _⟩ ?_
    refine z_aload_n C rfl 0 rfl dX11_polygon_8 ?_
    refine z_getr C zc_11 dX11_polygon_9 3 0 20 rfl (by decide) (by decide) q_472 rfl rfl ?_
    refine z_geti C zc_1 dX11_polygon_12 5 20 rfl (by decide) (by decide) q_278 rfl ?_
    refine z_bipush C (v := 60) (by decide) dX11_polygon_15 ?_
    refine z_icmp_ge C 24 (by decide) dX11_polygon_17 (fun hc => ?_) (fun hc => ?_)
    · have h := zif_t hc h
      refine z_iconst C (v := 0) (by decide) dX11_polygon_24 ?_
      exact l_X11_polygon_25 C L a1 (0 : Int32) I h
    · have h := zif_f hc h
      refine z_iconst C (v := 1) (by decide) dX11_polygon_20 ?_
      refine z_goto C 25 (by decide) dX11_polygon_21 ?_
      exact l_X11_polygon_25 C L a1 (1 : Int32) I h
  · have h := zsm_r h
    obtain rfl := Option.some.inj h
    exact z_callSX C dX11_polygon_5 yy_X11_mustBeBelow (cx_X11_mustBeBelow C.2.2.2.2.1  a1 (I 0 0) I L hg1) q_726 q_727 (by decide) (by decide) rfl rfl (Nat.le_of_ble_eq_true rfl) ⟨Nat.le_succ _, Nat.le_refl _, Nat.le_add_right _ _, Nat.le_refl _⟩ rfl rfl
set_option maxHeartbeats 4000000 in
set_option maxRecDepth 100000 in
theorem cn_X11_polygon {v9 : Int32} {I9 : zI} (hE : zE0 l s0 a0 d cy B0) (a1 : Int32) (I : zI) (L : zL) (h : f_X11_polygon a1 I = some (.inl v9, I9)) : zM l s0 d cy B0 yX11_polygon cX11_polygon 2 (some .int) 7 110 [.ref (B0 + 0), .int a1] zSH zKn bc bs I L (.inl (some (.int v9))) zSH zKn bc bs I9 L := c_X11_polygon hE a1 I L h
set_option maxHeartbeats 4000000 in
set_option maxRecDepth 100000 in
theorem cx_X11_polygon {k9 : Nat} {I9 : zI} (hE : zE0 l s0 a0 d cy B0) (a1 : Int32) (I : zI) (L : zL) (h : f_X11_polygon a1 I = some (.inr k9, I9)) : zM l s0 d cy B0 yX11_polygon cX11_polygon 2 (some .int) 7 110 [.ref (B0 + 0), .int a1] zSH zKn bc bs I L (.inr (zex k9)) zSH zKn (bc + 1) (bs + 6) I9 L := c_X11_polygon hE a1 I L h
theorem q_98 : (Cond.initialized "java/lang/IllegalArgumentException") ∈ lw_tbl := List.mem_of_getElem? (i := 98) (by decide +kernel)
theorem q_271 : (Cond.fieldLink "DeviceFind" (135 : Nat) "DeviceFind$Drawing" "corners" "[I") ∈ lw_tbl := List.mem_of_getElem? (i := 271) (by decide +kernel)
theorem q_822 : (Cond.code ({ cls := "DeviceFind", name := "corner", desc := "(IJJ)Z" } : Jvm.MethodName) prog_1_method_6_code (6 : Nat) (Option.some Jvm.ClassFile.FieldType.boolean)) ∈ lw_tbl := List.mem_of_getElem? (i := 822) (by decide +kernel)
theorem q_823 : (Cond.constantLong "DeviceFind" (139 : Nat) (64 : Int64)) ∈ lw_tbl := List.mem_of_getElem? (i := 823) (by decide +kernel)
theorem q_824 : (Cond.classLink "DeviceFind" (141 : Nat) "java/lang/IllegalArgumentException") ∈ lw_tbl := List.mem_of_getElem? (i := 824) (by decide +kernel)
theorem q_839 : (Cond.methodLink "DeviceFind" (144 : Nat) ({ cls := "DeviceFind$Drawing", name := "addCorner", desc := "(III)Z" } : Jvm.MethodName)) ∈ lw_tbl := List.mem_of_getElem? (i := 839) (by decide +kernel)
theorem q_840 : (Cond.instanceMethod ({ cls := "DeviceFind$Drawing", name := "addCorner", desc := "(III)Z" } : Jvm.MethodName)) ∈ lw_tbl := List.mem_of_getElem? (i := 840) (by decide +kernel)
theorem q_841 : (Cond.selects "DeviceFind$Drawing" ({ cls := "DeviceFind$Drawing", name := "addCorner", desc := "(III)Z" } : Jvm.MethodName) ({ cls := "DeviceFind$Drawing", name := "addCorner", desc := "(III)Z" } : Jvm.MethodName)) ∈ lw_tbl := List.mem_of_getElem? (i := 841) (by decide +kernel)
theorem yy_X11_corner : zY yX11_corner cX11_corner 6 (some .boolean) 3 := ⟨q_822, q_75, by decide +kernel, by decide +kernel, by decide +kernel⟩
theorem xat_X11_143 : ∀ w ∈ vx_at0 RX11 143 "java/lang/IllegalArgumentException" ["java/lang/RuntimeException", "java/lang/Exception"], w ∈ lw_tbl ∧ zgood w = true ∧ vx_ot w = true := by decide +kernel
def f_X11_corner_63 (I : zI) : Option ((Int32 ⊕ Nat) × zI) :=
  some (.inr 2, I)
def f_X11_corner_30 (v1 : Int32) (v2 : Int64) (v4 : Int64) (w0 : Int32) (I : zI) : Option ((Int32 ⊕ Nat) × zI) :=
  zb1 (f_X11_mustBeTrue w0) (fun x7 => zsm x7 (fun x8 => if v2 < (0 : Int64) then (f_X11_corner_63 I) else (if (64 : Int64) < v2 then (f_X11_corner_63 I) else (if v4 < (0 : Int64) then (f_X11_corner_63 I) else (if v4 ≤ (64 : Int64) then (zb2 (f_X1_addCorner v1 v2.toInt32 v4.toInt32 I) (fun x11 I12 => if x11 = 0 then (some (.inl (0 : Int32), I12)) else (zlt (zu I12 0 10 (0 : Int32)) (fun I13 => some (.inl (1 : Int32), I13))))) else (f_X11_corner_63 I))))) (fun k9 => some (.inr k9, I)))
def f_X11_corner (a1 : Int32) (a2 : Int64) (a3 : Int64) (I : zI) : Option ((Int32 ⊕ Nat) × zI) :=
  zb1 (f_X11_mustBeBelow a1 (I 20 5)) (fun x2 => zsm x2 (fun x3 => zck (zbd a1 60) (if (16 : Int32) ≤ (I 22 a1.toNatClampNeg) then (f_X11_corner_30 a1 a2 a3 (0 : Int32) I) else (f_X11_corner_30 a1 a2 a3 (1 : Int32) I))) (fun k4 => some (.inr k4, I)))
set_option maxHeartbeats 4000000 in
set_option maxRecDepth 100000 in
theorem l_X11_corner_63 {r : (Int32 ⊕ Nat) × zI} (C : zC p l e R s m args below meth c s0 a0 d cy B0 yX11_corner.cls cX11_corner 6 (some .boolean) bc bs (zfc r.1 bc) (zfs r.1 bs) 7 110 []) (L : zL) (I : zI) (h : f_X11_corner_63 I = some r) : zG p l e R s m args below meth c d cy B0 6 bc bs (zQ below s args d cy B0 bc bs (zri r.1) zSH zKn (zfc r.1 bc) (zfs r.1 bs) r.2 L) 63 [] [] zSH zKn bc bs I L := by
  unfold f_X11_corner_63 at h
  obtain rfl := Option.some.inj h
  exact z_throw C dX11_corner_63 dX11_corner_66 dX11_corner_67 dX11_corner_70 (by decide +kernel) q_824 q_98 xat_X11_143 rfl (by decide) (Nat.le_of_ble_eq_true rfl) ⟨rfl, rfl⟩ rfl rfl rfl rfl
set_option maxHeartbeats 4000000 in
set_option maxRecDepth 100000 in
theorem l_X11_corner_30 {r : (Int32 ⊕ Nat) × zI} (C : zC p l e R s m args below meth c s0 a0 d cy B0 yX11_corner.cls cX11_corner 6 (some .boolean) bc bs (zfc r.1 bc) (zfs r.1 bs) 7 110 []) (L : zL) (v1 : Int32) (v2 : Int64) (v4 : Int64) (w0 : Int32) (I : zI) (h : f_X11_corner_30 v1 v2 v4 w0 I = some r) : zG p l e R s m args below meth c d cy B0 6 bc bs (zQ below s args d cy B0 bc bs (zri r.1) zSH zKn (zfc r.1 bc) (zfs r.1 bs) r.2 L) 30 [(0, .ref (B0 + 0)), (1, .int v1), (2, .long v2), (4, .long v4)] [.int w0] zSH zKn bc bs I L := by
  unfold f_X11_corner_30 at h
  obtain ⟨x7, hg6, h⟩ := zb1_e h
  rcases x7 with x8 | k9
  · have h := zsm_l h
    refine z_callS C dX11_corner_30 yy_X11_mustBeTrue (cn_X11_mustBeTrue C.2.2.2.2.1  w0 I L hg6) q_793 q_794 (by decide) (by decide) rfl rfl (Nat.le_of_ble_eq_true rfl) ⟨Nat.le_refl _, zfc_le _ _, Nat.le_refl _, zfs_le _ _⟩ ?_
    refine z_lload_n C rfl 2 rfl dX11_corner_33 ?_
    refine z_lconst C (v := 0) (by decide) dX11_corner_34 ?_
    refine z_lif_lt C 63 (by decide) dX11_corner_35 dX11_corner_36 (fun hc => ?_) (fun hc => ?_)
    · have h := zif_t hc h
      refine z_lv [] (lv' := []) rfl ?_
      exact l_X11_corner_63 C L I h
    · have h := zif_f hc h
      refine z_lload_n C rfl 2 rfl dX11_corner_39 ?_
      refine z_ldc2 C dX11_corner_40 q_823 ?_
      refine z_lif_gt C 63 (by decide) dX11_corner_43 dX11_corner_44 (fun hc => ?_) (fun hc => ?_)
      · have h := zif_t hc h
        refine z_lv [] (lv' := []) rfl ?_
        exact l_X11_corner_63 C L I h
      · have h := zif_f hc h
        refine z_lload C 3 rfl dX11_corner_47 ?_
        refine z_lconst C (v := 0) (by decide) dX11_corner_49 ?_
        refine z_lif_lt C 63 (by decide) dX11_corner_50 dX11_corner_51 (fun hc => ?_) (fun hc => ?_)
        · have h := zif_t hc h
          refine z_lv [] (lv' := []) rfl ?_
          exact l_X11_corner_63 C L I h
        · have h := zif_f hc h
          refine z_lload C 3 rfl dX11_corner_54 ?_
          refine z_ldc2 C dX11_corner_56 q_823 ?_
          refine z_lif_le C 71 (by decide) dX11_corner_59 dX11_corner_60 (fun hc => ?_) (fun hc => ?_)
          · have h := zif_t hc h
            refine z_aload_n C rfl 0 rfl dX11_corner_71 ?_
            refine z_getr C zc_11 dX11_corner_72 3 0 20 rfl (by decide) (by decide) q_472 rfl rfl ?_
            refine z_iload_n C rfl 1 rfl dX11_corner_75 ?_
            refine z_lload_n C rfl 2 rfl dX11_corner_76 ?_
            refine z_l2i C dX11_corner_77 ?_
            refine z_lload C 3 rfl dX11_corner_78 ?_
            refine z_l2i C dX11_corner_80 ?_
            obtain ⟨x11, I12, hg10, h⟩ := zb2_e h
            refine z_callV C zc_1 rfl (by decide) dX11_corner_81 yy_X1_addCorner (c_X1_addCorner C.2.2.2.2.1  v1 v2.toInt32 v4.toInt32 I L hg10) q_839 q_840 q_841 (by decide) (by decide) rfl rfl (Nat.le_of_ble_eq_true rfl) ⟨Nat.le_refl _, zfc_le _ _, Nat.le_refl _, zfs_le _ _⟩ ?_
            refine z_if_ne C 89 (by decide) dX11_corner_84 (fun hc => ?_) (fun hc => ?_)
            · have h := zif_f hc h
              refine z_aload_n C rfl 0 rfl dX11_corner_89 ?_
              refine z_iconst C (v := 0) (by decide) dX11_corner_90 ?_
              refine z_puti C zc_11 dX11_corner_91 10 0 rfl (by decide) (by decide) rfl q_479 rfl rfl rfl ?_
              obtain ⟨I13, eI13, h⟩ := zlt_e h
              refine z_eqI C eI13 ?_
              refine z_iconst C (v := 1) (by decide) dX11_corner_94 ?_
              obtain rfl := Option.some.inj h
              exact z_iret C dX11_corner_95 .boolean rfl rfl rfl
            · have h := zif_t hc h
              refine z_iconst C (v := 0) (by decide) dX11_corner_87 ?_
              obtain rfl := Option.some.inj h
              exact z_iret C dX11_corner_88 .boolean rfl rfl rfl
          · have h := zif_f hc h
            refine z_lv [] (lv' := []) rfl ?_
            exact l_X11_corner_63 C L I h
  · have h := zsm_r h
    obtain rfl := Option.some.inj h
    exact z_callSX C dX11_corner_30 yy_X11_mustBeTrue (cx_X11_mustBeTrue C.2.2.2.2.1  w0 I L hg6) q_793 q_794 (by decide) (by decide) rfl rfl (Nat.le_of_ble_eq_true rfl) ⟨Nat.le_succ _, Nat.le_refl _, Nat.le_add_right _ _, Nat.le_refl _⟩ rfl rfl
set_option maxHeartbeats 4000000 in
set_option maxRecDepth 100000 in
theorem c_X11_corner {r : (Int32 ⊕ Nat) × zI} (hE : zE0 l s0 a0 d cy B0) (a1 : Int32) (a2 : Int64) (a3 : Int64) (I : zI) (L : zL) (h : f_X11_corner a1 a2 a3 I = some r) : zM l s0 d cy B0 yX11_corner cX11_corner 6 (some .boolean) 7 110 [.ref (B0 + 0), .int a1, .long a2, .long a3] zSH zKn bc bs I L (zri r.1) zSH zKn (zfc r.1 bc) (zfs r.1 bs) r.2 L := by
  refine z_meth yy_X11_corner hE (Nat.le_of_ble_eq_true rfl) (fun p e R s m args below meth c C => ?_)
  show zG p l e R s m args below meth c d cy B0 6 bc bs (zQ below s args d cy B0 bc bs (zri r.1) zSH zKn (zfc r.1 bc) (zfs r.1 bs) r.2 L) 0 [(0, .ref (B0 + 0)), (1, .int a1), (2, .long a2), (4, .long a3)] [] zSH zKn bc bs I L
  unfold f_X11_corner at h
  refine z_iload_n C rfl 1 rfl dX11_corner_0 ?_
  refine z_aload_n C rfl 0 rfl dX11_corner_1 ?_
  refine z_getr C zc_11 dX11_corner_2 3 0 20 rfl (by decide) (by decide) q_472 rfl rfl ?_
  refine z_geti C zc_1 dX11_corner_5 5 20 rfl (by decide) (by decide) q_278 rfl ?_
  obtain ⟨x2, hg1, h⟩ := zb1_e h
  rcases x2 with x3 | k4
  · have h := zsm_l h
    refine z_callS C dX11_corner_8 yy_X11_mustBeBelow (cn_X11_mustBeBelow C.2.2.2.2.1  a1 (I 20 5) I L hg1) q_726 q_727 (by decide) (by decide) rfl rfl (Nat.le_of_ble_eq_true rfl) ⟨Nat.le_refl _, zfc_le _ _, Nat.le_refl _, zfs_le _ _⟩ ?_
    refine z_aload_n C rfl 0 rfl dX11_corner_11 ?_
    refine z_getr C zc_11 dX11_corner_12 3 0 20 rfl (by decide) (by decide) q_472 rfl rfl ?_
    refine z_getr C zc_1 dX11_corner_15 1 20 22 rfl (by decide) (by decide) q_271 rfl rfl ?_
    refine z_iload_n C rfl 1 rfl dX11_corner_18 ?_
    obtain ⟨hb5, h⟩ := zck_e h
    refine z_iaload C dX11_corner_19 rfl rfl (by decide) (zbd_in hb5) ?_
    refine z_bipush C (v := 16) (by decide) dX11_corner_20 ?_
    refine z_icmp_ge C 29 (by decide) dX11_corner_22 (fun hc => ?_) (fun hc => ?_)
    · have h := zif_t hc h
      refine z_iconst C (v := 0) (by decide) dX11_corner_29 ?_
      exact l_X11_corner_30 C L a1 a2 a3 (0 : Int32) I h
    · have h := zif_f hc h
      refine z_iconst C (v := 1) (by decide) dX11_corner_25 ?_
      refine z_goto C 30 (by decide) dX11_corner_26 ?_
      exact l_X11_corner_30 C L a1 a2 a3 (1 : Int32) I h
  · have h := zsm_r h
    obtain rfl := Option.some.inj h
    exact z_callSX C dX11_corner_8 yy_X11_mustBeBelow (cx_X11_mustBeBelow C.2.2.2.2.1  a1 (I 20 5) I L hg1) q_726 q_727 (by decide) (by decide) rfl rfl (Nat.le_of_ble_eq_true rfl) ⟨Nat.le_succ _, Nat.le_refl _, Nat.le_add_right _ _, Nat.le_refl _⟩ rfl rfl
set_option maxHeartbeats 4000000 in
set_option maxRecDepth 100000 in
theorem cn_X11_corner {v9 : Int32} {I9 : zI} (hE : zE0 l s0 a0 d cy B0) (a1 : Int32) (a2 : Int64) (a3 : Int64) (I : zI) (L : zL) (h : f_X11_corner a1 a2 a3 I = some (.inl v9, I9)) : zM l s0 d cy B0 yX11_corner cX11_corner 6 (some .boolean) 7 110 [.ref (B0 + 0), .int a1, .long a2, .long a3] zSH zKn bc bs I L (.inl (some (.int v9))) zSH zKn bc bs I9 L := c_X11_corner hE a1 a2 a3 I L h
set_option maxHeartbeats 4000000 in
set_option maxRecDepth 100000 in
theorem cx_X11_corner {k9 : Nat} {I9 : zI} (hE : zE0 l s0 a0 d cy B0) (a1 : Int32) (a2 : Int64) (a3 : Int64) (I : zI) (L : zL) (h : f_X11_corner a1 a2 a3 I = some (.inr k9, I9)) : zM l s0 d cy B0 yX11_corner cX11_corner 6 (some .boolean) 7 110 [.ref (B0 + 0), .int a1, .long a2, .long a3] zSH zKn bc bs I L (.inr (zex k9)) zSH zKn (bc + 1) (bs + 6) I9 L := c_X11_corner hE a1 a2 a3 I L h
theorem q_856 : (Cond.code ({ cls := "DeviceFind", name := "mustBeSquare", desc := "(JJ)V" } : Jvm.MethodName) prog_1_method_21_code (4 : Nat) (Option.none : Option Jvm.ClassFile.FieldType)) ∈ lw_tbl := List.mem_of_getElem? (i := 856) (by decide +kernel)
theorem yy_X11_mustBeSquare : zY yX11_mustBeSquare cX11_mustBeSquare 4 none 2 := ⟨q_856, q_75, by decide +kernel, by decide +kernel, by decide +kernel⟩
def f_X11_mustBeSquare_28 : Option ((Unit ⊕ Nat)) :=
  some (.inr 0)
def f_X11_mustBeSquare (a0 : Int64) (a1 : Int64) : Option ((Unit ⊕ Nat)) :=
  if a0 < (0 : Int64) then (f_X11_mustBeSquare_28 ) else (if (64 : Int64) ≤ a0 then (f_X11_mustBeSquare_28 ) else (if a1 < (0 : Int64) then (f_X11_mustBeSquare_28 ) else (if a1 < (64 : Int64) then (some (.inl ())) else (f_X11_mustBeSquare_28 ))))
set_option maxHeartbeats 4000000 in
set_option maxRecDepth 100000 in
theorem l_X11_mustBeSquare_28 {r : (Unit ⊕ Nat)} (C : zC p l e R s m args below meth c s0 a0 d cy B0 yX11_mustBeSquare.cls cX11_mustBeSquare 4 none bc bs (zfc r bc) (zfs r bs) 6 89 []) (I : zI) (L : zL) (h : f_X11_mustBeSquare_28 = some r) : zG p l e R s m args below meth c d cy B0 4 bc bs (zQ below s args d cy B0 bc bs (zrv r) zSH zKn (zfc r bc) (zfs r bs) I L) 28 [] [] zSH zKn bc bs I L := by
  unfold f_X11_mustBeSquare_28 at h
  obtain rfl := Option.some.inj h
  exact z_throw C dX11_mustBeSquare_28 dX11_mustBeSquare_31 dX11_mustBeSquare_32 dX11_mustBeSquare_35 (by decide +kernel) q_729 q_96 xat_X11_241 rfl (by decide) (Nat.le_of_ble_eq_true rfl) ⟨rfl, rfl⟩ rfl rfl rfl rfl
set_option maxHeartbeats 4000000 in
set_option maxRecDepth 100000 in
theorem c_X11_mustBeSquare {r : (Unit ⊕ Nat)} (hE : zE0 l s0 a0 d cy B0) (a0 : Int64) (a1 : Int64) (I : zI) (L : zL) (h : f_X11_mustBeSquare a0 a1 = some r) : zM l s0 d cy B0 yX11_mustBeSquare cX11_mustBeSquare 4 none 6 89 [.long a0, .long a1] zSH zKn bc bs I L (zrv r) zSH zKn (zfc r bc) (zfs r bs) I L := by
  refine z_meth yy_X11_mustBeSquare hE (Nat.le_of_ble_eq_true rfl) (fun p e R s m args below meth c C => ?_)
  show zG p l e R s m args below meth c d cy B0 4 bc bs (zQ below s args d cy B0 bc bs (zrv r) zSH zKn (zfc r bc) (zfs r bs) I L) 0 [(0, .long a0), (2, .long a1)] [] zSH zKn bc bs I L
  unfold f_X11_mustBeSquare at h
  refine z_lload_n C rfl 0 rfl dX11_mustBeSquare_0 ?_
  refine z_lconst C (v := 0) (by decide) dX11_mustBeSquare_1 ?_
  refine z_lif_lt C 28 (by decide) dX11_mustBeSquare_2 dX11_mustBeSquare_3 (fun hc => ?_) (fun hc => ?_)
  · have h := zif_t hc h
    refine z_lv [] (lv' := []) rfl ?_
    exact l_X11_mustBeSquare_28 C I L  h
  · have h := zif_f hc h
    refine z_lload_n C rfl 0 rfl dX11_mustBeSquare_6 ?_
    refine z_ldc2 C dX11_mustBeSquare_7 q_823 ?_
    refine z_lif_ge C 28 (by decide) dX11_mustBeSquare_10 dX11_mustBeSquare_11 (fun hc => ?_) (fun hc => ?_)
    · have h := zif_t hc h
      refine z_lv [] (lv' := []) rfl ?_
      exact l_X11_mustBeSquare_28 C I L  h
    · have h := zif_f hc h
      refine z_lload_n C rfl 1 rfl dX11_mustBeSquare_14 ?_
      refine z_lconst C (v := 0) (by decide) dX11_mustBeSquare_15 ?_
      refine z_lif_lt C 28 (by decide) dX11_mustBeSquare_16 dX11_mustBeSquare_17 (fun hc => ?_) (fun hc => ?_)
      · have h := zif_t hc h
        refine z_lv [] (lv' := []) rfl ?_
        exact l_X11_mustBeSquare_28 C I L  h
      · have h := zif_f hc h
        refine z_lload_n C rfl 1 rfl dX11_mustBeSquare_20 ?_
        refine z_ldc2 C dX11_mustBeSquare_21 q_823 ?_
        refine z_lif_lt C 36 (by decide) dX11_mustBeSquare_24 dX11_mustBeSquare_25 (fun hc => ?_) (fun hc => ?_)
        · have h := zif_t hc h
          obtain rfl := Option.some.inj h
          exact z_vret C dX11_mustBeSquare_36 rfl rfl
        · have h := zif_f hc h
          refine z_lv [] (lv' := []) rfl ?_
          exact l_X11_mustBeSquare_28 C I L  h
set_option maxHeartbeats 4000000 in
set_option maxRecDepth 100000 in
theorem cn_X11_mustBeSquare {v9 : Unit} (hE : zE0 l s0 a0 d cy B0) (a0 : Int64) (a1 : Int64) (I : zI) (L : zL) (h : f_X11_mustBeSquare a0 a1 = some (.inl v9)) : zM l s0 d cy B0 yX11_mustBeSquare cX11_mustBeSquare 4 none 6 89 [.long a0, .long a1] zSH zKn bc bs I L (.inl none) zSH zKn bc bs I L := c_X11_mustBeSquare hE a0 a1 I L h
set_option maxHeartbeats 4000000 in
set_option maxRecDepth 100000 in
theorem cx_X11_mustBeSquare {k9 : Nat} (hE : zE0 l s0 a0 d cy B0) (a0 : Int64) (a1 : Int64) (I : zI) (L : zL) (h : f_X11_mustBeSquare a0 a1 = some (.inr k9)) : zM l s0 d cy B0 yX11_mustBeSquare cX11_mustBeSquare 4 none 6 89 [.long a0, .long a1] zSH zKn bc bs I L (.inr (zex k9)) zSH zKn (bc + 1) (bs + 6) I L := c_X11_mustBeSquare hE a0 a1 I L h
theorem q_299 : (Cond.fieldLink "DeviceFind" (152 : Nat) "DeviceFind$Notes" "told" "I") ∈ lw_tbl := List.mem_of_getElem? (i := 299) (by decide +kernel)
theorem q_473 : (Cond.fieldLink "DeviceFind" (49 : Nat) "DeviceFind" "notes" "LDeviceFind$Notes;") ∈ lw_tbl := List.mem_of_getElem? (i := 473) (by decide +kernel)
theorem q_853 : (Cond.code ({ cls := "DeviceFind", name := "text", desc := "(IJJI)I" } : Jvm.MethodName) prog_1_method_7_code (7 : Nat) (Option.some Jvm.ClassFile.FieldType.int)) ∈ lw_tbl := List.mem_of_getElem? (i := 853) (by decide +kernel)
theorem q_854 : (Cond.methodLink "DeviceFind" (148 : Nat) ({ cls := "DeviceFind", name := "mustBeSquare", desc := "(JJ)V" } : Jvm.MethodName)) ∈ lw_tbl := List.mem_of_getElem? (i := 854) (by decide +kernel)
theorem q_855 : (Cond.static ({ cls := "DeviceFind", name := "mustBeSquare", desc := "(JJ)V" } : Jvm.MethodName)) ∈ lw_tbl := List.mem_of_getElem? (i := 855) (by decide +kernel)
theorem q_857 : (Cond.methodLink "DeviceFind" (154 : Nat) ({ cls := "DeviceFind", name := "squareAt", desc := "(II)I" } : Jvm.MethodName)) ∈ lw_tbl := List.mem_of_getElem? (i := 857) (by decide +kernel)
theorem q_860 : (Cond.methodLink "DeviceFind" (157 : Nat) ({ cls := "DeviceFind$Notes", name := "add", desc := "(III)V" } : Jvm.MethodName)) ∈ lw_tbl := List.mem_of_getElem? (i := 860) (by decide +kernel)
theorem q_861 : (Cond.instanceMethod ({ cls := "DeviceFind$Notes", name := "add", desc := "(III)V" } : Jvm.MethodName)) ∈ lw_tbl := List.mem_of_getElem? (i := 861) (by decide +kernel)
theorem q_862 : (Cond.selects "DeviceFind$Notes" ({ cls := "DeviceFind$Notes", name := "add", desc := "(III)V" } : Jvm.MethodName) ({ cls := "DeviceFind$Notes", name := "add", desc := "(III)V" } : Jvm.MethodName)) ∈ lw_tbl := List.mem_of_getElem? (i := 862) (by decide +kernel)
theorem yy_X11_text : zY yX11_text cX11_text 7 (some .int) 4 := ⟨q_853, q_75, by decide +kernel, by decide +kernel, by decide +kernel⟩
def f_X11_text_29 (v1 : Int32) (v2 : Int64) (v4 : Int64) (v6 : Int32) (w0 : Int32) (I : zI) : Option ((Int32 ⊕ Nat) × zI) :=
  zb1 (f_X11_mustBeTrue w0) (fun x10 => zsm x10 (fun x11 => if 0 ≤ v6 then (zlt (zu I 0 10 (0 : Int32)) (fun I13 => zb1 (f_X11_squareAt v2.toInt32 v4.toInt32) (fun x15 => zb1 (f_X4_add v1 x15 v6 I13) (fun I17 => some (.inl (I17 26 0), I17))))) else (some (.inr 2, I))) (fun k12 => some (.inr k12, I)))
def f_X11_text (a1 : Int32) (a2 : Int64) (a3 : Int64) (a4 : Int32) (I : zI) : Option ((Int32 ⊕ Nat) × zI) :=
  zb1 (f_X11_mustBeBelow a1 (8 : Int32)) (fun x2 => zsm x2 (fun x3 => zb1 (f_X11_mustBeSquare a2 a3) (fun x6 => zsm x6 (fun x7 => if (40 : Int32) ≤ (I 26 0) then (f_X11_text_29 a1 a2 a3 a4 (0 : Int32) I) else (f_X11_text_29 a1 a2 a3 a4 (1 : Int32) I)) (fun k8 => some (.inr k8, I)))) (fun k4 => some (.inr k4, I)))
set_option maxHeartbeats 4000000 in
set_option maxRecDepth 100000 in
theorem l_X11_text_29 {r : (Int32 ⊕ Nat) × zI} (C : zC p l e R s m args below meth c s0 a0 d cy B0 yX11_text.cls cX11_text 7 (some .int) bc bs (zfc r.1 bc) (zfs r.1 bs) 7 112 []) (L : zL) (v1 : Int32) (v2 : Int64) (v4 : Int64) (v6 : Int32) (w0 : Int32) (I : zI) (h : f_X11_text_29 v1 v2 v4 v6 w0 I = some r) : zG p l e R s m args below meth c d cy B0 7 bc bs (zQ below s args d cy B0 bc bs (zri r.1) zSH zKn (zfc r.1 bc) (zfs r.1 bs) r.2 L) 29 [(0, .ref (B0 + 0)), (1, .int v1), (2, .long v2), (4, .long v4), (6, .int v6)] [.int w0] zSH zKn bc bs I L := by
  unfold f_X11_text_29 at h
  obtain ⟨x10, hg9, h⟩ := zb1_e h
  rcases x10 with x11 | k12
  · have h := zsm_l h
    refine z_callS C dX11_text_29 yy_X11_mustBeTrue (cn_X11_mustBeTrue C.2.2.2.2.1  w0 I L hg9) q_793 q_794 (by decide) (by decide) rfl rfl (Nat.le_of_ble_eq_true rfl) ⟨Nat.le_refl _, zfc_le _ _, Nat.le_refl _, zfs_le _ _⟩ ?_
    refine z_iload C 4 rfl dX11_text_32 ?_
    refine z_if_ge C 45 (by decide) dX11_text_34 (fun hc => ?_) (fun hc => ?_)
    · have h := zif_t hc h
      refine z_aload_n C rfl 0 rfl dX11_text_45 ?_
      refine z_iconst C (v := 0) (by decide) dX11_text_46 ?_
      refine z_puti C zc_11 dX11_text_47 10 0 rfl (by decide) (by decide) rfl q_479 rfl rfl rfl ?_
      obtain ⟨I13, eI13, h⟩ := zlt_e h
      refine z_eqI C eI13 ?_
      refine z_aload_n C rfl 0 rfl dX11_text_50 ?_
      refine z_getr C zc_11 dX11_text_51 4 0 26 rfl (by decide) (by decide) q_473 rfl rfl ?_
      refine z_iload_n C rfl 1 rfl dX11_text_54 ?_
      refine z_lload_n C rfl 2 rfl dX11_text_55 ?_
      refine z_l2i C dX11_text_56 ?_
      refine z_lload C 3 rfl dX11_text_57 ?_
      refine z_l2i C dX11_text_59 ?_
      obtain ⟨x15, hg14, h⟩ := zb1_e h
      refine z_callS C dX11_text_60 yy_X11_squareAt (c_X11_squareAt C.2.2.2.2.1  v2.toInt32 v4.toInt32 I13 L hg14) q_857 q_858 (by decide) (by decide) rfl rfl (Nat.le_of_ble_eq_true rfl) ⟨Nat.le_refl _, zfc_le _ _, Nat.le_refl _, zfs_le _ _⟩ ?_
      refine z_iload C 4 rfl dX11_text_63 ?_
      obtain ⟨I17, hg16, h⟩ := zb1_e h
      refine z_callV C zc_4 rfl (by decide) dX11_text_65 yy_X4_add (c_X4_add C.2.2.2.2.1  v1 x15 v6 I13 L hg16) q_860 q_861 q_862 (by decide) (by decide) rfl rfl (Nat.le_of_ble_eq_true rfl) ⟨Nat.le_refl _, zfc_le _ _, Nat.le_refl _, zfs_le _ _⟩ ?_
      refine z_aload_n C rfl 0 rfl dX11_text_68 ?_
      refine z_getr C zc_11 dX11_text_69 4 0 26 rfl (by decide) (by decide) q_473 rfl rfl ?_
      refine z_geti C zc_4 dX11_text_72 0 26 rfl (by decide) (by decide) q_299 rfl ?_
      obtain rfl := Option.some.inj h
      exact z_iret C dX11_text_75 .int rfl rfl rfl
    · have h := zif_f hc h
      obtain rfl := Option.some.inj h
      exact z_throw C dX11_text_37 dX11_text_40 dX11_text_41 dX11_text_44 (by decide +kernel) q_824 q_98 xat_X11_143 rfl (by decide) (Nat.le_of_ble_eq_true rfl) ⟨rfl, rfl⟩ rfl rfl rfl rfl
  · have h := zsm_r h
    obtain rfl := Option.some.inj h
    exact z_callSX C dX11_text_29 yy_X11_mustBeTrue (cx_X11_mustBeTrue C.2.2.2.2.1  w0 I L hg9) q_793 q_794 (by decide) (by decide) rfl rfl (Nat.le_of_ble_eq_true rfl) ⟨Nat.le_succ _, Nat.le_refl _, Nat.le_add_right _ _, Nat.le_refl _⟩ rfl rfl
set_option maxHeartbeats 4000000 in
set_option maxRecDepth 100000 in
theorem c_X11_text {r : (Int32 ⊕ Nat) × zI} (hE : zE0 l s0 a0 d cy B0) (a1 : Int32) (a2 : Int64) (a3 : Int64) (a4 : Int32) (I : zI) (L : zL) (h : f_X11_text a1 a2 a3 a4 I = some r) : zM l s0 d cy B0 yX11_text cX11_text 7 (some .int) 7 112 [.ref (B0 + 0), .int a1, .long a2, .long a3, .int a4] zSH zKn bc bs I L (zri r.1) zSH zKn (zfc r.1 bc) (zfs r.1 bs) r.2 L := by
  refine z_meth yy_X11_text hE (Nat.le_of_ble_eq_true rfl) (fun p e R s m args below meth c C => ?_)
  show zG p l e R s m args below meth c d cy B0 7 bc bs (zQ below s args d cy B0 bc bs (zri r.1) zSH zKn (zfc r.1 bc) (zfs r.1 bs) r.2 L) 0 [(0, .ref (B0 + 0)), (1, .int a1), (2, .long a2), (4, .long a3), (6, .int a4)] [] zSH zKn bc bs I L
  unfold f_X11_text at h
  refine z_iload_n C rfl 1 rfl dX11_text_0 ?_
  refine z_bipush C (v := 8) (by decide) dX11_text_1 ?_
  obtain ⟨x2, hg1, h⟩ := zb1_e h
  rcases x2 with x3 | k4
  · have h := zsm_l h
    refine z_callS C dX11_text_3 yy_X11_mustBeBelow (cn_X11_mustBeBelow C.2.2.2.2.1  a1 (8 : Int32) I L hg1) q_726 q_727 (by decide) (by decide) rfl rfl (Nat.le_of_ble_eq_true rfl) ⟨Nat.le_refl _, zfc_le _ _, Nat.le_refl _, zfs_le _ _⟩ ?_
    refine z_lload_n C rfl 2 rfl dX11_text_6 ?_
    refine z_lload C 3 rfl dX11_text_7 ?_
    obtain ⟨x6, hg5, h⟩ := zb1_e h
    rcases x6 with x7 | k8
    · have h := zsm_l h
      refine z_callS C dX11_text_9 yy_X11_mustBeSquare (cn_X11_mustBeSquare C.2.2.2.2.1  a2 a3 I L hg5) q_854 q_855 (by decide) (by decide) rfl rfl (Nat.le_of_ble_eq_true rfl) ⟨Nat.le_refl _, zfc_le _ _, Nat.le_refl _, zfs_le _ _⟩ ?_
      refine z_aload_n C rfl 0 rfl dX11_text_12 ?_
      refine z_getr C zc_11 dX11_text_13 4 0 26 rfl (by decide) (by decide) q_473 rfl rfl ?_
      refine z_geti C zc_4 dX11_text_16 0 26 rfl (by decide) (by decide) q_299 rfl ?_
      refine z_bipush C (v := 40) (by decide) dX11_text_19 ?_
      refine z_icmp_ge C 28 (by decide) dX11_text_21 (fun hc => ?_) (fun hc => ?_)
      · have h := zif_t hc h
        refine z_iconst C (v := 0) (by decide) dX11_text_28 ?_
        exact l_X11_text_29 C L a1 a2 a3 a4 (0 : Int32) I h
      · have h := zif_f hc h
        refine z_iconst C (v := 1) (by decide) dX11_text_24 ?_
        refine z_goto C 29 (by decide) dX11_text_25 ?_
        exact l_X11_text_29 C L a1 a2 a3 a4 (1 : Int32) I h
    · have h := zsm_r h
      obtain rfl := Option.some.inj h
      exact z_callSX C dX11_text_9 yy_X11_mustBeSquare (cx_X11_mustBeSquare C.2.2.2.2.1  a2 a3 I L hg5) q_854 q_855 (by decide) (by decide) rfl rfl (Nat.le_of_ble_eq_true rfl) ⟨Nat.le_succ _, Nat.le_refl _, Nat.le_add_right _ _, Nat.le_refl _⟩ rfl rfl
  · have h := zsm_r h
    obtain rfl := Option.some.inj h
    exact z_callSX C dX11_text_3 yy_X11_mustBeBelow (cx_X11_mustBeBelow C.2.2.2.2.1  a1 (8 : Int32) I L hg1) q_726 q_727 (by decide) (by decide) rfl rfl (Nat.le_of_ble_eq_true rfl) ⟨Nat.le_succ _, Nat.le_refl _, Nat.le_add_right _ _, Nat.le_refl _⟩ rfl rfl
set_option maxHeartbeats 4000000 in
set_option maxRecDepth 100000 in
theorem cn_X11_text {v9 : Int32} {I9 : zI} (hE : zE0 l s0 a0 d cy B0) (a1 : Int32) (a2 : Int64) (a3 : Int64) (a4 : Int32) (I : zI) (L : zL) (h : f_X11_text a1 a2 a3 a4 I = some (.inl v9, I9)) : zM l s0 d cy B0 yX11_text cX11_text 7 (some .int) 7 112 [.ref (B0 + 0), .int a1, .long a2, .long a3, .int a4] zSH zKn bc bs I L (.inl (some (.int v9))) zSH zKn bc bs I9 L := c_X11_text hE a1 a2 a3 a4 I L h
set_option maxHeartbeats 4000000 in
set_option maxRecDepth 100000 in
theorem cx_X11_text {k9 : Nat} {I9 : zI} (hE : zE0 l s0 a0 d cy B0) (a1 : Int32) (a2 : Int64) (a3 : Int64) (a4 : Int32) (I : zI) (L : zL) (h : f_X11_text a1 a2 a3 a4 I = some (.inr k9, I9)) : zM l s0 d cy B0 yX11_text cX11_text 7 (some .int) 7 112 [.ref (B0 + 0), .int a1, .long a2, .long a3, .int a4] zSH zKn bc bs I L (.inr (zex k9)) zSH zKn (bc + 1) (bs + 6) I9 L := c_X11_text hE a1 a2 a3 a4 I L h
theorem q_474 : (Cond.fieldLink "DeviceFind" (56 : Nat) "DeviceFind" "layers" "LDeviceFind$Layers;") ∈ lw_tbl := List.mem_of_getElem? (i := 474) (by decide +kernel)
theorem q_475 : (Cond.fieldLink "DeviceFind" (68 : Nat) "DeviceFind" "nets" "LDeviceFind$Nets;") ∈ lw_tbl := List.mem_of_getElem? (i := 475) (by decide +kernel)
theorem q_476 : (Cond.fieldLink "DeviceFind" (82 : Nat) "DeviceFind" "devices" "LDeviceFind$Devices;") ∈ lw_tbl := List.mem_of_getElem? (i := 476) (by decide +kernel)
theorem q_875 : (Cond.code ({ cls := "DeviceFind", name := "findAll", desc := "()Z" } : Jvm.MethodName) prog_1_method_18_code (1 : Nat) (Option.some Jvm.ClassFile.FieldType.boolean)) ∈ lw_tbl := List.mem_of_getElem? (i := 875) (by decide +kernel)
theorem q_876 : (Cond.methodLink "DeviceFind" (224 : Nat) ({ cls := "DeviceFind$Layers", name := "draw", desc := "(LDeviceFind$Plan;LDeviceFind$Drawing;)V" } : Jvm.MethodName)) ∈ lw_tbl := List.mem_of_getElem? (i := 876) (by decide +kernel)
theorem q_877 : (Cond.instanceMethod ({ cls := "DeviceFind$Layers", name := "draw", desc := "(LDeviceFind$Plan;LDeviceFind$Drawing;)V" } : Jvm.MethodName)) ∈ lw_tbl := List.mem_of_getElem? (i := 877) (by decide +kernel)
theorem q_878 : (Cond.selects "DeviceFind$Layers" ({ cls := "DeviceFind$Layers", name := "draw", desc := "(LDeviceFind$Plan;LDeviceFind$Drawing;)V" } : Jvm.MethodName) ({ cls := "DeviceFind$Layers", name := "draw", desc := "(LDeviceFind$Plan;LDeviceFind$Drawing;)V" } : Jvm.MethodName)) ∈ lw_tbl := List.mem_of_getElem? (i := 878) (by decide +kernel)
theorem q_907 : (Cond.methodLink "DeviceFind" (228 : Nat) ({ cls := "DeviceFind$Nets", name := "find", desc := "(LDeviceFind$Plan;)V" } : Jvm.MethodName)) ∈ lw_tbl := List.mem_of_getElem? (i := 907) (by decide +kernel)
theorem q_908 : (Cond.instanceMethod ({ cls := "DeviceFind$Nets", name := "find", desc := "(LDeviceFind$Plan;)V" } : Jvm.MethodName)) ∈ lw_tbl := List.mem_of_getElem? (i := 908) (by decide +kernel)
theorem q_909 : (Cond.selects "DeviceFind$Nets" ({ cls := "DeviceFind$Nets", name := "find", desc := "(LDeviceFind$Plan;)V" } : Jvm.MethodName) ({ cls := "DeviceFind$Nets", name := "find", desc := "(LDeviceFind$Plan;)V" } : Jvm.MethodName)) ∈ lw_tbl := List.mem_of_getElem? (i := 909) (by decide +kernel)
theorem q_976 : (Cond.methodLink "DeviceFind" (232 : Nat) ({ cls := "DeviceFind$Notes", name := "findNets", desc := "(LDeviceFind$Plan;LDeviceFind$Nets;)V" } : Jvm.MethodName)) ∈ lw_tbl := List.mem_of_getElem? (i := 976) (by decide +kernel)
theorem q_977 : (Cond.instanceMethod ({ cls := "DeviceFind$Notes", name := "findNets", desc := "(LDeviceFind$Plan;LDeviceFind$Nets;)V" } : Jvm.MethodName)) ∈ lw_tbl := List.mem_of_getElem? (i := 977) (by decide +kernel)
theorem q_978 : (Cond.selects "DeviceFind$Notes" ({ cls := "DeviceFind$Notes", name := "findNets", desc := "(LDeviceFind$Plan;LDeviceFind$Nets;)V" } : Jvm.MethodName) ({ cls := "DeviceFind$Notes", name := "findNets", desc := "(LDeviceFind$Plan;LDeviceFind$Nets;)V" } : Jvm.MethodName)) ∈ lw_tbl := List.mem_of_getElem? (i := 978) (by decide +kernel)
theorem q_988 : (Cond.methodLink "DeviceFind" (236 : Nat) ({ cls := "DeviceFind$Devices", name := "find", desc := "(LDeviceFind$Plan;)Z" } : Jvm.MethodName)) ∈ lw_tbl := List.mem_of_getElem? (i := 988) (by decide +kernel)
theorem q_989 : (Cond.instanceMethod ({ cls := "DeviceFind$Devices", name := "find", desc := "(LDeviceFind$Plan;)Z" } : Jvm.MethodName)) ∈ lw_tbl := List.mem_of_getElem? (i := 989) (by decide +kernel)
theorem q_990 : (Cond.selects "DeviceFind$Devices" ({ cls := "DeviceFind$Devices", name := "find", desc := "(LDeviceFind$Plan;)Z" } : Jvm.MethodName) ({ cls := "DeviceFind$Devices", name := "find", desc := "(LDeviceFind$Plan;)Z" } : Jvm.MethodName)) ∈ lw_tbl := List.mem_of_getElem? (i := 990) (by decide +kernel)
theorem yy_X11_findAll : zY yX11_findAll cX11_findAll 1 (some .boolean) 0 := ⟨q_875, q_75, by decide +kernel, by decide +kernel, by decide +kernel⟩
def f_X11_findAll (P : Nat) (I : zI) (L : zL) : Option (Int32 × zI × zL) :=
  zck (decide (I 0 8 = nI (P + 1))) (zb1 (f_X2_draw P I L) (fun L3 => zck (decide (I 0 8 = nI (P + 1))) (zb2 (f_X3_find P I L3) (fun I6 L7 => zck (decide (I6 0 8 = nI (P + 1))) (zb1 (f_X4_findNets P I6) (fun I10 => zck (decide (I10 0 8 = nI (P + 1))) (zb3 (f_X0_find P I10 L7) (fun x13 I14 L15 => zck (zbo x13) (some (x13, I14, L15))))))))))
set_option maxHeartbeats 4000000 in
set_option maxRecDepth 100000 in
theorem c_X11_findAll {r : Int32 × zI × zL} (hE : zE0 l s0 a0 d cy B0) {P : Nat} (hP : zpl P) (I : zI) (L : zL) (h : f_X11_findAll P I L = some r) : zM l s0 d cy B0 yX11_findAll cX11_findAll 1 (some .boolean) 6 160 [.ref (B0 + 0)] zSH zKn bc bs I L (.inl (some (.int r.1))) zSH zKn bc bs r.2.1 r.2.2 := by
  refine z_meth yy_X11_findAll hE (Nat.le_of_ble_eq_true rfl) (fun p e R s m args below meth c C => ?_)
  show zG p l e R s m args below meth c d cy B0 1 bc bs (zQ below s args d cy B0 bc bs (.inl (some (.int r.1))) zSH zKn bc bs r.2.1 r.2.2) 0 [(0, .ref (B0 + 0))] [] zSH zKn bc bs I L
  unfold f_X11_findAll at h
  refine z_aload_n C rfl 0 rfl dX11_findAll_0 ?_
  refine z_getr C zc_11 dX11_findAll_1 5 0 31 rfl (by decide) (by decide) q_474 rfl rfl ?_
  refine z_aload_n C rfl 0 rfl dX11_findAll_4 ?_
  obtain ⟨hb1, h⟩ := zck_e h
  refine z_getm C zc_11 dX11_findAll_5 8 0 P rfl (by decide) (by decide) q_477 rfl (of_decide_eq_true hb1) (zpl_lt2 hP) ?_
  refine z_aload_n C rfl 0 rfl dX11_findAll_8 ?_
  refine z_getr C zc_11 dX11_findAll_9 3 0 20 rfl (by decide) (by decide) q_472 rfl rfl ?_
  obtain ⟨L3, hg2, h⟩ := zb1_e h
  refine z_callV C zc_2 rfl (by decide) dX11_findAll_12 yy_X2_draw (c_X2_draw C.2.2.2.2.1 hP I L hg2) q_876 q_877 q_878 (by decide) (by decide) rfl rfl (Nat.le_of_ble_eq_true rfl) ⟨Nat.le_refl _, Nat.le_refl _, Nat.le_refl _, Nat.le_refl _⟩ ?_
  refine z_aload_n C rfl 0 rfl dX11_findAll_15 ?_
  refine z_getr C zc_11 dX11_findAll_16 6 0 61 rfl (by decide) (by decide) q_475 rfl rfl ?_
  refine z_aload_n C rfl 0 rfl dX11_findAll_19 ?_
  obtain ⟨hb4, h⟩ := zck_e h
  refine z_getm C zc_11 dX11_findAll_20 8 0 P rfl (by decide) (by decide) q_477 rfl (of_decide_eq_true hb4) (zpl_lt2 hP) ?_
  obtain ⟨I6, L7, hg5, h⟩ := zb2_e h
  refine z_callV C zc_3 rfl (by decide) dX11_findAll_23 yy_X3_find (c_X3_find C.2.2.2.2.1 hP I L3 hg5) q_907 q_908 q_909 (by decide) (by decide) rfl rfl (Nat.le_of_ble_eq_true rfl) ⟨Nat.le_refl _, Nat.le_refl _, Nat.le_refl _, Nat.le_refl _⟩ ?_
  refine z_aload_n C rfl 0 rfl dX11_findAll_26 ?_
  refine z_getr C zc_11 dX11_findAll_27 4 0 26 rfl (by decide) (by decide) q_473 rfl rfl ?_
  refine z_aload_n C rfl 0 rfl dX11_findAll_30 ?_
  obtain ⟨hb8, h⟩ := zck_e h
  refine z_getm C zc_11 dX11_findAll_31 8 0 P rfl (by decide) (by decide) q_477 rfl (of_decide_eq_true hb8) (zpl_lt2 hP) ?_
  refine z_aload_n C rfl 0 rfl dX11_findAll_34 ?_
  refine z_getr C zc_11 dX11_findAll_35 6 0 61 rfl (by decide) (by decide) q_475 rfl rfl ?_
  obtain ⟨I10, hg9, h⟩ := zb1_e h
  refine z_callV C zc_4 rfl (by decide) dX11_findAll_38 yy_X4_findNets (c_X4_findNets C.2.2.2.2.1 hP I6 L7 hg9) q_976 q_977 q_978 (by decide) (by decide) rfl rfl (Nat.le_of_ble_eq_true rfl) ⟨Nat.le_refl _, Nat.le_refl _, Nat.le_refl _, Nat.le_refl _⟩ ?_
  refine z_aload_n C rfl 0 rfl dX11_findAll_41 ?_
  refine z_getr C zc_11 dX11_findAll_42 7 0 73 rfl (by decide) (by decide) q_476 rfl rfl ?_
  refine z_aload_n C rfl 0 rfl dX11_findAll_45 ?_
  obtain ⟨hb11, h⟩ := zck_e h
  refine z_getm C zc_11 dX11_findAll_46 8 0 P rfl (by decide) (by decide) q_477 rfl (of_decide_eq_true hb11) (zpl_lt2 hP) ?_
  obtain ⟨x13, I14, L15, hg12, h⟩ := zb3_e h
  refine z_callV C zc_0 rfl (by decide) dX11_findAll_49 yy_X0_find (c_X0_find C.2.2.2.2.1 hP I10 L7 hg12) q_988 q_989 q_990 (by decide) (by decide) rfl rfl (Nat.le_of_ble_eq_true rfl) ⟨Nat.le_refl _, Nat.le_refl _, Nat.le_refl _, Nat.le_refl _⟩ ?_
  obtain ⟨hb16, h⟩ := zck_e h
  obtain rfl := Option.some.inj h
  exact z_iret C dX11_findAll_52 .boolean rfl (zbo_n hb16).1 rfl
theorem q_21 : Cond.selects "DeviceFind" ⟨"DeviceFind", "findAll", "()Z"⟩ ⟨"DeviceFind", "findAll", "()Z"⟩ ∈ lw_tbl := List.mem_of_getElem? (i := 21) (by decide +kernel)
theorem q_102 : (Cond.initialized "java/lang/UnsupportedOperationException") ∈ lw_tbl := List.mem_of_getElem? (i := 102) (by decide +kernel)
theorem q_440 : (Cond.fieldLink "DeviceFind" (167 : Nat) "DeviceFind$Devices" "total" "I") ∈ lw_tbl := List.mem_of_getElem? (i := 440) (by decide +kernel)
theorem q_871 : (Cond.code ({ cls := "DeviceFind", name := "run", desc := "()I" } : Jvm.MethodName) prog_1_method_8_code (1 : Nat) (Option.some Jvm.ClassFile.FieldType.int)) ∈ lw_tbl := List.mem_of_getElem? (i := 871) (by decide +kernel)
theorem q_872 : (Cond.methodLink "DeviceFind" (160 : Nat) ({ cls := "DeviceFind", name := "findAll", desc := "()Z" } : Jvm.MethodName)) ∈ lw_tbl := List.mem_of_getElem? (i := 872) (by decide +kernel)
theorem q_874 : (Cond.instanceMethod ({ cls := "DeviceFind", name := "findAll", desc := "()Z" } : Jvm.MethodName)) ∈ lw_tbl := List.mem_of_getElem? (i := 874) (by decide +kernel)
theorem q_1056 : (Cond.classLink "DeviceFind" (164 : Nat) "java/lang/UnsupportedOperationException") ∈ lw_tbl := List.mem_of_getElem? (i := 1056) (by decide +kernel)
theorem yy_X11_run : zY yX11_run cX11_run 1 (some .int) 0 := ⟨q_871, q_75, by decide +kernel, by decide +kernel, by decide +kernel⟩
theorem xat_X11_166 : ∀ w ∈ vx_at0 RX11 166 "java/lang/UnsupportedOperationException" ["java/lang/RuntimeException", "java/lang/Exception"], w ∈ lw_tbl ∧ zgood w = true ∧ vx_ot w = true := by decide +kernel
def f_X11_run_22 (P : Nat) (I : zI) (L : zL) : Option ((Int32 ⊕ Nat) × zI × zL) :=
  if (I 0 10) = 0 then (some (.inr 3, I, L)) else (some (.inl (I 73 7), I, L))
def f_X11_run (P : Nat) (I : zI) (L : zL) : Option ((Int32 ⊕ Nat) × zI × zL) :=
  zb1 (f_X11_mustBeTrue (I 0 9)) (fun x2 => zsm x2 (fun x3 => if (I 0 10) = 0 then (zb3 (f_X11_findAll P I L) (fun x6 I7 L8 => zck (zbo x6) (zlt (zu I7 0 10 x6) (fun I9 => f_X11_run_22 P I9 L8)))) else (f_X11_run_22 P I L)) (fun k4 => some (.inr k4, I, L)))
set_option maxHeartbeats 4000000 in
set_option maxRecDepth 100000 in
theorem l_X11_run_22 {r : (Int32 ⊕ Nat) × zI × zL} (C : zC p l e R s m args below meth c s0 a0 d cy B0 yX11_run.cls cX11_run 1 (some .int) bc bs (zfc r.1 bc) (zfs r.1 bs) 7 180 []) {P : Nat} (hP : zpl P) (I : zI) (L : zL) (h : f_X11_run_22 P I L = some r) : zG p l e R s m args below meth c d cy B0 1 bc bs (zQ below s args d cy B0 bc bs (zri r.1) zSH zKn (zfc r.1 bc) (zfs r.1 bs) r.2.1 r.2.2) 22 [(0, .ref (B0 + 0))] [] zSH zKn bc bs I L := by
  unfold f_X11_run_22 at h
  refine z_aload_n C rfl 0 rfl dX11_run_22 ?_
  refine z_geti C zc_11 dX11_run_23 10 0 rfl (by decide) (by decide) q_479 rfl ?_
  refine z_if_ne C 37 (by decide) dX11_run_26 (fun hc => ?_) (fun hc => ?_)
  · have h := zif_f hc h
    refine z_aload_n C rfl 0 rfl dX11_run_37 ?_
    refine z_getr C zc_11 dX11_run_38 7 0 73 rfl (by decide) (by decide) q_476 rfl rfl ?_
    refine z_geti C zc_0 dX11_run_41 7 73 rfl (by decide) (by decide) q_440 rfl ?_
    obtain rfl := Option.some.inj h
    exact z_iret C dX11_run_44 .int rfl rfl rfl
  · have h := zif_t hc h
    obtain rfl := Option.some.inj h
    exact z_throw C dX11_run_29 dX11_run_32 dX11_run_33 dX11_run_36 (by decide +kernel) q_1056 q_102 xat_X11_166 rfl (by decide) (Nat.le_of_ble_eq_true rfl) ⟨rfl, rfl⟩ rfl rfl rfl rfl
set_option maxHeartbeats 4000000 in
set_option maxRecDepth 100000 in
theorem c_X11_run {r : (Int32 ⊕ Nat) × zI × zL} (hE : zE0 l s0 a0 d cy B0) {P : Nat} (hP : zpl P) (I : zI) (L : zL) (h : f_X11_run P I L = some r) : zM l s0 d cy B0 yX11_run cX11_run 1 (some .int) 7 180 [.ref (B0 + 0)] zSH zKn bc bs I L (zri r.1) zSH zKn (zfc r.1 bc) (zfs r.1 bs) r.2.1 r.2.2 := by
  refine z_meth yy_X11_run hE (Nat.le_of_ble_eq_true rfl) (fun p e R s m args below meth c C => ?_)
  show zG p l e R s m args below meth c d cy B0 1 bc bs (zQ below s args d cy B0 bc bs (zri r.1) zSH zKn (zfc r.1 bc) (zfs r.1 bs) r.2.1 r.2.2) 0 [(0, .ref (B0 + 0))] [] zSH zKn bc bs I L
  unfold f_X11_run at h
  refine z_aload_n C rfl 0 rfl dX11_run_0 ?_
  refine z_geti C zc_11 dX11_run_1 9 0 rfl (by decide) (by decide) q_478 rfl ?_
  obtain ⟨x2, hg1, h⟩ := zb1_e h
  rcases x2 with x3 | k4
  · have h := zsm_l h
    refine z_callS C dX11_run_4 yy_X11_mustBeTrue (cn_X11_mustBeTrue C.2.2.2.2.1  (I 0 9) I L hg1) q_793 q_794 (by decide) (by decide) rfl rfl (Nat.le_of_ble_eq_true rfl) ⟨Nat.le_refl _, zfc_le _ _, Nat.le_refl _, zfs_le _ _⟩ ?_
    refine z_aload_n C rfl 0 rfl dX11_run_7 ?_
    refine z_geti C zc_11 dX11_run_8 10 0 rfl (by decide) (by decide) q_479 rfl ?_
    refine z_if_ne C 22 (by decide) dX11_run_11 (fun hc => ?_) (fun hc => ?_)
    · have h := zif_f hc h
      exact l_X11_run_22 C hP I L h
    · have h := zif_t hc h
      refine z_aload_n C rfl 0 rfl dX11_run_14 ?_
      refine z_aload_n C rfl 0 rfl dX11_run_15 ?_
      obtain ⟨x6, I7, L8, hg5, h⟩ := zb3_e h
      refine z_callV C zc_11 rfl (by decide) dX11_run_16 yy_X11_findAll (c_X11_findAll C.2.2.2.2.1 hP I L hg5) q_872 q_874 q_21 (by decide) (by decide) rfl rfl (Nat.le_of_ble_eq_true rfl) ⟨Nat.le_refl _, zfc_le _ _, Nat.le_refl _, zfs_le _ _⟩ ?_
      obtain ⟨hb10, h⟩ := zck_e h
      refine z_puti C zc_11 dX11_run_19 10 0 rfl (by decide) (by decide) rfl q_479 (zbo_n hb10).1 (zbo_n hb10).2 rfl ?_
      obtain ⟨I9, eI9, h⟩ := zlt_e h
      refine z_eqI C eI9 ?_
      exact l_X11_run_22 C hP I9 L8 h
  · have h := zsm_r h
    obtain rfl := Option.some.inj h
    exact z_callSX C dX11_run_4 yy_X11_mustBeTrue (cx_X11_mustBeTrue C.2.2.2.2.1  (I 0 9) I L hg1) q_793 q_794 (by decide) (by decide) rfl rfl (Nat.le_of_ble_eq_true rfl) ⟨Nat.le_succ _, Nat.le_refl _, Nat.le_add_right _ _, Nat.le_refl _⟩ rfl rfl
set_option maxHeartbeats 4000000 in
set_option maxRecDepth 100000 in
theorem cn_X11_run {v9 : Int32} {I9 : zI} {L9 : zL} (hE : zE0 l s0 a0 d cy B0) {P : Nat} (hP : zpl P) (I : zI) (L : zL) (h : f_X11_run P I L = some (.inl v9, I9, L9)) : zM l s0 d cy B0 yX11_run cX11_run 1 (some .int) 7 180 [.ref (B0 + 0)] zSH zKn bc bs I L (.inl (some (.int v9))) zSH zKn bc bs I9 L9 := c_X11_run hE hP I L h
set_option maxHeartbeats 4000000 in
set_option maxRecDepth 100000 in
theorem cx_X11_run {k9 : Nat} {I9 : zI} {L9 : zL} (hE : zE0 l s0 a0 d cy B0) {P : Nat} (hP : zpl P) (I : zI) (L : zL) (h : f_X11_run P I L = some (.inr k9, I9, L9)) : zM l s0 d cy B0 yX11_run cX11_run 1 (some .int) 7 180 [.ref (B0 + 0)] zSH zKn bc bs I L (.inr (zex k9)) zSH zKn (bc + 1) (bs + 6) I9 L9 := c_X11_run hE hP I L h
theorem q_426 : (Cond.fieldLink "DeviceFind" (170 : Nat) "DeviceFind$Devices" "kinds" "[I") ∈ lw_tbl := List.mem_of_getElem? (i := 426) (by decide +kernel)
theorem q_428 : (Cond.fieldLink "DeviceFind" (172 : Nat) "DeviceFind$Devices" "shapes" "[I") ∈ lw_tbl := List.mem_of_getElem? (i := 428) (by decide +kernel)
theorem q_430 : (Cond.fieldLink "DeviceFind" (175 : Nat) "DeviceFind$Devices" "faults" "[I") ∈ lw_tbl := List.mem_of_getElem? (i := 430) (by decide +kernel)
theorem q_432 : (Cond.fieldLink "DeviceFind" (178 : Nat) "DeviceFind$Devices" "firsts" "[I") ∈ lw_tbl := List.mem_of_getElem? (i := 432) (by decide +kernel)
theorem q_1077 : (Cond.code ({ cls := "DeviceFind", name := "device", desc := "(II)I" } : Jvm.MethodName) prog_1_method_9_code (3 : Nat) (Option.some Jvm.ClassFile.FieldType.int)) ∈ lw_tbl := List.mem_of_getElem? (i := 1077) (by decide +kernel)
theorem q_1078 : (Cond.methodLink "DeviceFind" (181 : Nat) ({ cls := "DeviceFind", name := "columnOf", desc := "(I)I" } : Jvm.MethodName)) ∈ lw_tbl := List.mem_of_getElem? (i := 1078) (by decide +kernel)
theorem q_1079 : (Cond.methodLink "DeviceFind" (184 : Nat) ({ cls := "DeviceFind", name := "rowOf", desc := "(I)I" } : Jvm.MethodName)) ∈ lw_tbl := List.mem_of_getElem? (i := 1079) (by decide +kernel)
theorem yy_X11_device : zY yX11_device cX11_device 3 (some .int) 2 := ⟨q_1077, q_75, by decide +kernel, by decide +kernel, by decide +kernel⟩
def f_X11_device (a1 : Int32) (a2 : Int32) (I : zI) : Option ((Int32 ⊕ Nat)) :=
  zb1 (f_X11_mustBeBelow a2 (5 : Int32)) (fun x2 => zsm x2 (fun x3 => zb1 (f_X11_mustBeTrue (I 0 10)) (fun x6 => zsm x6 (fun x7 => zb1 (f_X11_mustBeBelow a1 (I 73 7)) (fun x10 => zsm x10 (fun x11 => if a2 = (0 : Int32) then (zck (zbd a1 300) (some (.inl (I 77 a1.toNatClampNeg)))) else (if a2 = (1 : Int32) then (zck (zbd a1 300) (some (.inl (I 78 a1.toNatClampNeg)))) else (if a2 = (2 : Int32) then (zck (zbd a1 300) (some (.inl (I 79 a1.toNatClampNeg)))) else (if a2 = (3 : Int32) then (zck (zbd a1 300) (zb1 (f_X11_columnOf (I 80 a1.toNatClampNeg)) (fun x18 => some (.inl x18)))) else (zck (zbd a1 300) (zb1 (f_X11_rowOf (I 80 a1.toNatClampNeg)) (fun x21 => some (.inl x21)))))))) (fun k12 => some (.inr k12)))) (fun k8 => some (.inr k8)))) (fun k4 => some (.inr k4)))
set_option maxHeartbeats 4000000 in
set_option maxRecDepth 100000 in
theorem c_X11_device {r : (Int32 ⊕ Nat)} (hE : zE0 l s0 a0 d cy B0) (a1 : Int32) (a2 : Int32) (I : zI) (L : zL) (h : f_X11_device a1 a2 I = some r) : zM l s0 d cy B0 yX11_device cX11_device 3 (some .int) 7 110 [.ref (B0 + 0), .int a1, .int a2] zSH zKn bc bs I L (zri r) zSH zKn (zfc r bc) (zfs r bs) I L := by
  refine z_meth yy_X11_device hE (Nat.le_of_ble_eq_true rfl) (fun p e R s m args below meth c C => ?_)
  show zG p l e R s m args below meth c d cy B0 3 bc bs (zQ below s args d cy B0 bc bs (zri r) zSH zKn (zfc r bc) (zfs r bs) I L) 0 [(0, .ref (B0 + 0)), (1, .int a1), (2, .int a2)] [] zSH zKn bc bs I L
  unfold f_X11_device at h
  refine z_iload_n C rfl 2 rfl dX11_device_0 ?_
  refine z_iconst C (v := 5) (by decide) dX11_device_1 ?_
  obtain ⟨x2, hg1, h⟩ := zb1_e h
  rcases x2 with x3 | k4
  · have h := zsm_l h
    refine z_callS C dX11_device_2 yy_X11_mustBeBelow (cn_X11_mustBeBelow C.2.2.2.2.1  a2 (5 : Int32) I L hg1) q_726 q_727 (by decide) (by decide) rfl rfl (Nat.le_of_ble_eq_true rfl) ⟨Nat.le_refl _, zfc_le _ _, Nat.le_refl _, zfs_le _ _⟩ ?_
    refine z_aload_n C rfl 0 rfl dX11_device_5 ?_
    refine z_geti C zc_11 dX11_device_6 10 0 rfl (by decide) (by decide) q_479 rfl ?_
    obtain ⟨x6, hg5, h⟩ := zb1_e h
    rcases x6 with x7 | k8
    · have h := zsm_l h
      refine z_callS C dX11_device_9 yy_X11_mustBeTrue (cn_X11_mustBeTrue C.2.2.2.2.1  (I 0 10) I L hg5) q_793 q_794 (by decide) (by decide) rfl rfl (Nat.le_of_ble_eq_true rfl) ⟨Nat.le_refl _, zfc_le _ _, Nat.le_refl _, zfs_le _ _⟩ ?_
      refine z_iload_n C rfl 1 rfl dX11_device_12 ?_
      refine z_aload_n C rfl 0 rfl dX11_device_13 ?_
      refine z_getr C zc_11 dX11_device_14 7 0 73 rfl (by decide) (by decide) q_476 rfl rfl ?_
      refine z_geti C zc_0 dX11_device_17 7 73 rfl (by decide) (by decide) q_440 rfl ?_
      obtain ⟨x10, hg9, h⟩ := zb1_e h
      rcases x10 with x11 | k12
      · have h := zsm_l h
        refine z_callS C dX11_device_20 yy_X11_mustBeBelow (cn_X11_mustBeBelow C.2.2.2.2.1  a1 (I 73 7) I L hg9) q_726 q_727 (by decide) (by decide) rfl rfl (Nat.le_of_ble_eq_true rfl) ⟨Nat.le_refl _, zfc_le _ _, Nat.le_refl _, zfs_le _ _⟩ ?_
        refine z_iload_n C rfl 2 rfl dX11_device_23 ?_
        by_cases hc0 : a2 = (0 : Int32)
        · have h := zif_t hc0 h
          refine z_tableIn C 56 (by rw [hc0]; decide) (by rw [hc0]; decide) (by rw [hc0]; rfl) (by decide) dX11_device_24 ?_
          refine z_aload_n C rfl 0 rfl dX11_device_56 ?_
          refine z_getr C zc_11 dX11_device_57 7 0 73 rfl (by decide) (by decide) q_476 rfl rfl ?_
          refine z_getr C zc_0 dX11_device_60 0 73 77 rfl (by decide) (by decide) q_426 rfl rfl ?_
          refine z_iload_n C rfl 1 rfl dX11_device_63 ?_
          obtain ⟨hb13, h⟩ := zck_e h
          refine z_iaload C dX11_device_64 rfl rfl (by decide) (zbd_in hb13) ?_
          obtain rfl := Option.some.inj h
          exact z_iret C dX11_device_65 .int rfl rfl rfl
        · have h := zif_f hc0 h
          by_cases hc1 : a2 = (1 : Int32)
          · have h := zif_t hc1 h
            refine z_tableIn C 66 (by rw [hc1]; decide) (by rw [hc1]; decide) (by rw [hc1]; rfl) (by decide) dX11_device_24 ?_
            refine z_aload_n C rfl 0 rfl dX11_device_66 ?_
            refine z_getr C zc_11 dX11_device_67 7 0 73 rfl (by decide) (by decide) q_476 rfl rfl ?_
            refine z_getr C zc_0 dX11_device_70 1 73 78 rfl (by decide) (by decide) q_428 rfl rfl ?_
            refine z_iload_n C rfl 1 rfl dX11_device_73 ?_
            obtain ⟨hb14, h⟩ := zck_e h
            refine z_iaload C dX11_device_74 rfl rfl (by decide) (zbd_in hb14) ?_
            obtain rfl := Option.some.inj h
            exact z_iret C dX11_device_75 .int rfl rfl rfl
          · have h := zif_f hc1 h
            by_cases hc2 : a2 = (2 : Int32)
            · have h := zif_t hc2 h
              refine z_tableIn C 76 (by rw [hc2]; decide) (by rw [hc2]; decide) (by rw [hc2]; rfl) (by decide) dX11_device_24 ?_
              refine z_aload_n C rfl 0 rfl dX11_device_76 ?_
              refine z_getr C zc_11 dX11_device_77 7 0 73 rfl (by decide) (by decide) q_476 rfl rfl ?_
              refine z_getr C zc_0 dX11_device_80 2 73 79 rfl (by decide) (by decide) q_430 rfl rfl ?_
              refine z_iload_n C rfl 1 rfl dX11_device_83 ?_
              obtain ⟨hb15, h⟩ := zck_e h
              refine z_iaload C dX11_device_84 rfl rfl (by decide) (zbd_in hb15) ?_
              obtain rfl := Option.some.inj h
              exact z_iret C dX11_device_85 .int rfl rfl rfl
            · have h := zif_f hc2 h
              by_cases hc3 : a2 = (3 : Int32)
              · have h := zif_t hc3 h
                refine z_tableIn C 86 (by rw [hc3]; decide) (by rw [hc3]; decide) (by rw [hc3]; rfl) (by decide) dX11_device_24 ?_
                refine z_aload_n C rfl 0 rfl dX11_device_86 ?_
                refine z_getr C zc_11 dX11_device_87 7 0 73 rfl (by decide) (by decide) q_476 rfl rfl ?_
                refine z_getr C zc_0 dX11_device_90 3 73 80 rfl (by decide) (by decide) q_432 rfl rfl ?_
                refine z_iload_n C rfl 1 rfl dX11_device_93 ?_
                obtain ⟨hb16, h⟩ := zck_e h
                refine z_iaload C dX11_device_94 rfl rfl (by decide) (zbd_in hb16) ?_
                obtain ⟨x18, hg17, h⟩ := zb1_e h
                refine z_callS C dX11_device_95 yy_X11_columnOf (c_X11_columnOf C.2.2.2.2.1  (I 80 a1.toNatClampNeg) I L hg17) q_1078 q_949 (by decide) (by decide) rfl rfl (Nat.le_of_ble_eq_true rfl) ⟨Nat.le_refl _, zfc_le _ _, Nat.le_refl _, zfs_le _ _⟩ ?_
                obtain rfl := Option.some.inj h
                exact z_iret C dX11_device_98 .int rfl rfl rfl
              · have h := zif_f hc3 h
                refine z_tableOut C 99 (z_sw (n := 4) (by decide) (fun k hk => by match k, hk with | 0, _ => exact hc0 | 1, _ => exact hc1 | 2, _ => exact hc2 | 3, _ => exact hc3)) (by decide) dX11_device_24 ?_
                refine z_aload_n C rfl 0 rfl dX11_device_99 ?_
                refine z_getr C zc_11 dX11_device_100 7 0 73 rfl (by decide) (by decide) q_476 rfl rfl ?_
                refine z_getr C zc_0 dX11_device_103 3 73 80 rfl (by decide) (by decide) q_432 rfl rfl ?_
                refine z_iload_n C rfl 1 rfl dX11_device_106 ?_
                obtain ⟨hb19, h⟩ := zck_e h
                refine z_iaload C dX11_device_107 rfl rfl (by decide) (zbd_in hb19) ?_
                obtain ⟨x21, hg20, h⟩ := zb1_e h
                refine z_callS C dX11_device_108 yy_X11_rowOf (c_X11_rowOf C.2.2.2.2.1  (I 80 a1.toNatClampNeg) I L hg20) q_1079 q_952 (by decide) (by decide) rfl rfl (Nat.le_of_ble_eq_true rfl) ⟨Nat.le_refl _, zfc_le _ _, Nat.le_refl _, zfs_le _ _⟩ ?_
                obtain rfl := Option.some.inj h
                exact z_iret C dX11_device_111 .int rfl rfl rfl
      · have h := zsm_r h
        obtain rfl := Option.some.inj h
        exact z_callSX C dX11_device_20 yy_X11_mustBeBelow (cx_X11_mustBeBelow C.2.2.2.2.1  a1 (I 73 7) I L hg9) q_726 q_727 (by decide) (by decide) rfl rfl (Nat.le_of_ble_eq_true rfl) ⟨Nat.le_succ _, Nat.le_refl _, Nat.le_add_right _ _, Nat.le_refl _⟩ rfl rfl
    · have h := zsm_r h
      obtain rfl := Option.some.inj h
      exact z_callSX C dX11_device_9 yy_X11_mustBeTrue (cx_X11_mustBeTrue C.2.2.2.2.1  (I 0 10) I L hg5) q_793 q_794 (by decide) (by decide) rfl rfl (Nat.le_of_ble_eq_true rfl) ⟨Nat.le_succ _, Nat.le_refl _, Nat.le_add_right _ _, Nat.le_refl _⟩ rfl rfl
  · have h := zsm_r h
    obtain rfl := Option.some.inj h
    exact z_callSX C dX11_device_2 yy_X11_mustBeBelow (cx_X11_mustBeBelow C.2.2.2.2.1  a2 (5 : Int32) I L hg1) q_726 q_727 (by decide) (by decide) rfl rfl (Nat.le_of_ble_eq_true rfl) ⟨Nat.le_succ _, Nat.le_refl _, Nat.le_add_right _ _, Nat.le_refl _⟩ rfl rfl
set_option maxHeartbeats 4000000 in
set_option maxRecDepth 100000 in
theorem cn_X11_device {v9 : Int32} (hE : zE0 l s0 a0 d cy B0) (a1 : Int32) (a2 : Int32) (I : zI) (L : zL) (h : f_X11_device a1 a2 I = some (.inl v9)) : zM l s0 d cy B0 yX11_device cX11_device 3 (some .int) 7 110 [.ref (B0 + 0), .int a1, .int a2] zSH zKn bc bs I L (.inl (some (.int v9))) zSH zKn bc bs I L := c_X11_device hE a1 a2 I L h
set_option maxHeartbeats 4000000 in
set_option maxRecDepth 100000 in
theorem cx_X11_device {k9 : Nat} (hE : zE0 l s0 a0 d cy B0) (a1 : Int32) (a2 : Int32) (I : zI) (L : zL) (h : f_X11_device a1 a2 I = some (.inr k9)) : zM l s0 d cy B0 yX11_device cX11_device 3 (some .int) 7 110 [.ref (B0 + 0), .int a1, .int a2] zSH zKn bc bs I L (.inr (zex k9)) zSH zKn (bc + 1) (bs + 6) I L := c_X11_device hE a1 a2 I L h
theorem q_434 : (Cond.fieldLink "DeviceFind" (187 : Nat) "DeviceFind$Devices" "sizes" "[I") ∈ lw_tbl := List.mem_of_getElem? (i := 434) (by decide +kernel)
theorem q_1086 : (Cond.code ({ cls := "DeviceFind", name := "size", desc := "(II)J" } : Jvm.MethodName) prog_1_method_10_code (3 : Nat) (Option.some Jvm.ClassFile.FieldType.long)) ∈ lw_tbl := List.mem_of_getElem? (i := 1086) (by decide +kernel)
theorem yy_X11_size : zY yX11_size cX11_size 3 (some .long) 2 := ⟨q_1086, q_75, by decide +kernel, by decide +kernel, by decide +kernel⟩
def f_X11_size (a1 : Int32) (a2 : Int32) (I : zI) : Option ((Int64 ⊕ Nat)) :=
  zb1 (f_X11_mustBeBelow a2 (3 : Int32)) (fun x2 => zsm x2 (fun x3 => zb1 (f_X11_mustBeTrue (I 0 10)) (fun x6 => zsm x6 (fun x7 => zb1 (f_X11_mustBeBelow a1 (I 73 7)) (fun x10 => zsm x10 (fun x11 => zlt ((a1 * (3 : Int32)) + a2) (fun x13 => zck (zbd x13 900) (zlt ((I 81 x13.toNatClampNeg).toInt64) (fun x15 => some (.inl x15))))) (fun k12 => some (.inr k12)))) (fun k8 => some (.inr k8)))) (fun k4 => some (.inr k4)))
set_option maxHeartbeats 4000000 in
set_option maxRecDepth 100000 in
theorem c_X11_size {r : (Int64 ⊕ Nat)} (hE : zE0 l s0 a0 d cy B0) (a1 : Int32) (a2 : Int32) (I : zI) (L : zL) (h : f_X11_size a1 a2 I = some r) : zM l s0 d cy B0 yX11_size cX11_size 3 (some .long) 7 110 [.ref (B0 + 0), .int a1, .int a2] zSH zKn bc bs I L (zrl r) zSH zKn (zfc r bc) (zfs r bs) I L := by
  refine z_meth yy_X11_size hE (Nat.le_of_ble_eq_true rfl) (fun p e R s m args below meth c C => ?_)
  show zG p l e R s m args below meth c d cy B0 3 bc bs (zQ below s args d cy B0 bc bs (zrl r) zSH zKn (zfc r bc) (zfs r bs) I L) 0 [(0, .ref (B0 + 0)), (1, .int a1), (2, .int a2)] [] zSH zKn bc bs I L
  unfold f_X11_size at h
  refine z_iload_n C rfl 2 rfl dX11_size_0 ?_
  refine z_iconst C (v := 3) (by decide) dX11_size_1 ?_
  obtain ⟨x2, hg1, h⟩ := zb1_e h
  rcases x2 with x3 | k4
  · have h := zsm_l h
    refine z_callS C dX11_size_2 yy_X11_mustBeBelow (cn_X11_mustBeBelow C.2.2.2.2.1  a2 (3 : Int32) I L hg1) q_726 q_727 (by decide) (by decide) rfl rfl (Nat.le_of_ble_eq_true rfl) ⟨Nat.le_refl _, zfc_le _ _, Nat.le_refl _, zfs_le _ _⟩ ?_
    refine z_aload_n C rfl 0 rfl dX11_size_5 ?_
    refine z_geti C zc_11 dX11_size_6 10 0 rfl (by decide) (by decide) q_479 rfl ?_
    obtain ⟨x6, hg5, h⟩ := zb1_e h
    rcases x6 with x7 | k8
    · have h := zsm_l h
      refine z_callS C dX11_size_9 yy_X11_mustBeTrue (cn_X11_mustBeTrue C.2.2.2.2.1  (I 0 10) I L hg5) q_793 q_794 (by decide) (by decide) rfl rfl (Nat.le_of_ble_eq_true rfl) ⟨Nat.le_refl _, zfc_le _ _, Nat.le_refl _, zfs_le _ _⟩ ?_
      refine z_iload_n C rfl 1 rfl dX11_size_12 ?_
      refine z_aload_n C rfl 0 rfl dX11_size_13 ?_
      refine z_getr C zc_11 dX11_size_14 7 0 73 rfl (by decide) (by decide) q_476 rfl rfl ?_
      refine z_geti C zc_0 dX11_size_17 7 73 rfl (by decide) (by decide) q_440 rfl ?_
      obtain ⟨x10, hg9, h⟩ := zb1_e h
      rcases x10 with x11 | k12
      · have h := zsm_l h
        refine z_callS C dX11_size_20 yy_X11_mustBeBelow (cn_X11_mustBeBelow C.2.2.2.2.1  a1 (I 73 7) I L hg9) q_726 q_727 (by decide) (by decide) rfl rfl (Nat.le_of_ble_eq_true rfl) ⟨Nat.le_refl _, zfc_le _ _, Nat.le_refl _, zfs_le _ _⟩ ?_
        refine z_aload_n C rfl 0 rfl dX11_size_23 ?_
        refine z_getr C zc_11 dX11_size_24 7 0 73 rfl (by decide) (by decide) q_476 rfl rfl ?_
        refine z_getr C zc_0 dX11_size_27 4 73 81 rfl (by decide) (by decide) q_434 rfl rfl ?_
        refine z_iload_n C rfl 1 rfl dX11_size_30 ?_
        refine z_iconst C (v := 3) (by decide) dX11_size_31 ?_
        refine z_imul C dX11_size_32 ?_
        refine z_iload_n C rfl 2 rfl dX11_size_33 ?_
        refine z_iadd C dX11_size_34 ?_
        obtain ⟨x13, ex13, h⟩ := zlt_e h
        refine z_eqi C ex13 ?_
        obtain ⟨hb14, h⟩ := zck_e h
        refine z_iaload C dX11_size_35 rfl rfl (by decide) (zbd_in hb14) ?_
        refine z_i2l C dX11_size_36 ?_
        obtain ⟨x15, ex15, h⟩ := zlt_e h
        refine z_eql C ex15 ?_
        obtain rfl := Option.some.inj h
        exact z_lret C dX11_size_37 rfl rfl
      · have h := zsm_r h
        obtain rfl := Option.some.inj h
        exact z_callSX C dX11_size_20 yy_X11_mustBeBelow (cx_X11_mustBeBelow C.2.2.2.2.1  a1 (I 73 7) I L hg9) q_726 q_727 (by decide) (by decide) rfl rfl (Nat.le_of_ble_eq_true rfl) ⟨Nat.le_succ _, Nat.le_refl _, Nat.le_add_right _ _, Nat.le_refl _⟩ rfl rfl
    · have h := zsm_r h
      obtain rfl := Option.some.inj h
      exact z_callSX C dX11_size_9 yy_X11_mustBeTrue (cx_X11_mustBeTrue C.2.2.2.2.1  (I 0 10) I L hg5) q_793 q_794 (by decide) (by decide) rfl rfl (Nat.le_of_ble_eq_true rfl) ⟨Nat.le_succ _, Nat.le_refl _, Nat.le_add_right _ _, Nat.le_refl _⟩ rfl rfl
  · have h := zsm_r h
    obtain rfl := Option.some.inj h
    exact z_callSX C dX11_size_2 yy_X11_mustBeBelow (cx_X11_mustBeBelow C.2.2.2.2.1  a2 (3 : Int32) I L hg1) q_726 q_727 (by decide) (by decide) rfl rfl (Nat.le_of_ble_eq_true rfl) ⟨Nat.le_succ _, Nat.le_refl _, Nat.le_add_right _ _, Nat.le_refl _⟩ rfl rfl
set_option maxHeartbeats 4000000 in
set_option maxRecDepth 100000 in
theorem cn_X11_size {v9 : Int64} (hE : zE0 l s0 a0 d cy B0) (a1 : Int32) (a2 : Int32) (I : zI) (L : zL) (h : f_X11_size a1 a2 I = some (.inl v9)) : zM l s0 d cy B0 yX11_size cX11_size 3 (some .long) 7 110 [.ref (B0 + 0), .int a1, .int a2] zSH zKn bc bs I L (.inl (some (.long v9))) zSH zKn bc bs I L := c_X11_size hE a1 a2 I L h
set_option maxHeartbeats 4000000 in
set_option maxRecDepth 100000 in
theorem cx_X11_size {k9 : Nat} (hE : zE0 l s0 a0 d cy B0) (a1 : Int32) (a2 : Int32) (I : zI) (L : zL) (h : f_X11_size a1 a2 I = some (.inr k9)) : zM l s0 d cy B0 yX11_size cX11_size 3 (some .long) 7 110 [.ref (B0 + 0), .int a1, .int a2] zSH zKn bc bs I L (.inr (zex k9)) zSH zKn (bc + 1) (bs + 6) I L := c_X11_size hE a1 a2 I L h
theorem q_192 : (Cond.fieldLink "DeviceFind" (190 : Nat) "DeviceFind$Plan" "pinCounts" "[I") ∈ lw_tbl := List.mem_of_getElem? (i := 192) (by decide +kernel)
theorem q_436 : (Cond.fieldLink "DeviceFind" (193 : Nat) "DeviceFind$Devices" "pinNets" "[I") ∈ lw_tbl := List.mem_of_getElem? (i := 436) (by decide +kernel)
theorem q_1093 : (Cond.code ({ cls := "DeviceFind", name := "pin", desc := "(II)I" } : Jvm.MethodName) prog_1_method_11_code (3 : Nat) (Option.some Jvm.ClassFile.FieldType.int)) ∈ lw_tbl := List.mem_of_getElem? (i := 1093) (by decide +kernel)
theorem yy_X11_pin : zY yX11_pin cX11_pin 3 (some .int) 2 := ⟨q_1093, q_75, by decide +kernel, by decide +kernel, by decide +kernel⟩
def f_X11_pin (P : Nat) (a1 : Int32) (a2 : Int32) (I : zI) : Option ((Int32 ⊕ Nat)) :=
  zb1 (f_X11_mustBeTrue (I 0 10)) (fun x2 => zsm x2 (fun x3 => zb1 (f_X11_mustBeBelow a1 (I 73 7)) (fun x6 => zsm x6 (fun x7 => zck (decide (I 0 8 = nI (P + 1))) (zck (zbd a1 300) (zlt (I 77 a1.toNatClampNeg) (fun x11 => zck (zbd x11 8) (zb1 (f_X11_mustBeBelow a2 (I ((P + 1 + 10)) x11.toNatClampNeg)) (fun x14 => zsm x14 (fun x15 => zlt ((a1 * (4 : Int32)) + a2) (fun x17 => zck (zbd x17 1200) (some (.inl (I 82 x17.toNatClampNeg))))) (fun k16 => some (.inr k16)))))))) (fun k8 => some (.inr k8)))) (fun k4 => some (.inr k4)))
set_option maxHeartbeats 4000000 in
set_option maxRecDepth 100000 in
theorem c_X11_pin {r : (Int32 ⊕ Nat)} (hE : zE0 l s0 a0 d cy B0) {P : Nat} (hP : zpl P) (a1 : Int32) (a2 : Int32) (I : zI) (L : zL) (h : f_X11_pin P a1 a2 I = some r) : zM l s0 d cy B0 yX11_pin cX11_pin 3 (some .int) 7 110 [.ref (B0 + 0), .int a1, .int a2] zSH zKn bc bs I L (zri r) zSH zKn (zfc r bc) (zfs r bs) I L := by
  refine z_meth yy_X11_pin hE (Nat.le_of_ble_eq_true rfl) (fun p e R s m args below meth c C => ?_)
  show zG p l e R s m args below meth c d cy B0 3 bc bs (zQ below s args d cy B0 bc bs (zri r) zSH zKn (zfc r bc) (zfs r bs) I L) 0 [(0, .ref (B0 + 0)), (1, .int a1), (2, .int a2)] [] zSH zKn bc bs I L
  unfold f_X11_pin at h
  refine z_aload_n C rfl 0 rfl dX11_pin_0 ?_
  refine z_geti C zc_11 dX11_pin_1 10 0 rfl (by decide) (by decide) q_479 rfl ?_
  obtain ⟨x2, hg1, h⟩ := zb1_e h
  rcases x2 with x3 | k4
  · have h := zsm_l h
    refine z_callS C dX11_pin_4 yy_X11_mustBeTrue (cn_X11_mustBeTrue C.2.2.2.2.1  (I 0 10) I L hg1) q_793 q_794 (by decide) (by decide) rfl rfl (Nat.le_of_ble_eq_true rfl) ⟨Nat.le_refl _, zfc_le _ _, Nat.le_refl _, zfs_le _ _⟩ ?_
    refine z_iload_n C rfl 1 rfl dX11_pin_7 ?_
    refine z_aload_n C rfl 0 rfl dX11_pin_8 ?_
    refine z_getr C zc_11 dX11_pin_9 7 0 73 rfl (by decide) (by decide) q_476 rfl rfl ?_
    refine z_geti C zc_0 dX11_pin_12 7 73 rfl (by decide) (by decide) q_440 rfl ?_
    obtain ⟨x6, hg5, h⟩ := zb1_e h
    rcases x6 with x7 | k8
    · have h := zsm_l h
      refine z_callS C dX11_pin_15 yy_X11_mustBeBelow (cn_X11_mustBeBelow C.2.2.2.2.1  a1 (I 73 7) I L hg5) q_726 q_727 (by decide) (by decide) rfl rfl (Nat.le_of_ble_eq_true rfl) ⟨Nat.le_refl _, zfc_le _ _, Nat.le_refl _, zfs_le _ _⟩ ?_
      refine z_iload_n C rfl 2 rfl dX11_pin_18 ?_
      refine z_aload_n C rfl 0 rfl dX11_pin_19 ?_
      obtain ⟨hb9, h⟩ := zck_e h
      refine z_getm C zc_11 dX11_pin_20 8 0 P rfl (by decide) (by decide) q_477 rfl (of_decide_eq_true hb9) (zpl_lt2 hP) ?_
      refine z_getr C zc_7 dX11_pin_23 10 P (P + 1 + 10) (zpl_k hP) (zpl_lt hP) (by decide) q_192 rfl (zpl_r hP 10 (by decide)) ?_
      refine z_aload_n C rfl 0 rfl dX11_pin_26 ?_
      refine z_getr C zc_11 dX11_pin_27 7 0 73 rfl (by decide) (by decide) q_476 rfl rfl ?_
      refine z_getr C zc_0 dX11_pin_30 0 73 77 rfl (by decide) (by decide) q_426 rfl rfl ?_
      refine z_iload_n C rfl 1 rfl dX11_pin_33 ?_
      obtain ⟨hb10, h⟩ := zck_e h
      refine z_iaload C dX11_pin_34 rfl rfl (by decide) (zbd_in hb10) ?_
      obtain ⟨x11, ex11, h⟩ := zlt_e h
      refine z_eqi C ex11 ?_
      obtain ⟨hb12, h⟩ := zck_e h
      refine z_iaload C dX11_pin_35 (zpl_ak hP 10 (by decide)) (zpl_an hP 10 (by decide)) (zpl_a hP 10 (by decide)) (zbd_in hb12) ?_
      obtain ⟨x14, hg13, h⟩ := zb1_e h
      rcases x14 with x15 | k16
      · have h := zsm_l h
        refine z_callS C dX11_pin_36 yy_X11_mustBeBelow (cn_X11_mustBeBelow C.2.2.2.2.1  a2 (I ((P + 1 + 10)) x11.toNatClampNeg) I L hg13) q_726 q_727 (by decide) (by decide) rfl rfl (Nat.le_of_ble_eq_true rfl) ⟨Nat.le_refl _, zfc_le _ _, Nat.le_refl _, zfs_le _ _⟩ ?_
        refine z_aload_n C rfl 0 rfl dX11_pin_39 ?_
        refine z_getr C zc_11 dX11_pin_40 7 0 73 rfl (by decide) (by decide) q_476 rfl rfl ?_
        refine z_getr C zc_0 dX11_pin_43 5 73 82 rfl (by decide) (by decide) q_436 rfl rfl ?_
        refine z_iload_n C rfl 1 rfl dX11_pin_46 ?_
        refine z_iconst C (v := 4) (by decide) dX11_pin_47 ?_
        refine z_imul C dX11_pin_48 ?_
        refine z_iload_n C rfl 2 rfl dX11_pin_49 ?_
        refine z_iadd C dX11_pin_50 ?_
        obtain ⟨x17, ex17, h⟩ := zlt_e h
        refine z_eqi C ex17 ?_
        obtain ⟨hb18, h⟩ := zck_e h
        refine z_iaload C dX11_pin_51 rfl rfl (by decide) (zbd_in hb18) ?_
        obtain rfl := Option.some.inj h
        exact z_iret C dX11_pin_52 .int rfl rfl rfl
      · have h := zsm_r h
        obtain rfl := Option.some.inj h
        exact z_callSX C dX11_pin_36 yy_X11_mustBeBelow (cx_X11_mustBeBelow C.2.2.2.2.1  a2 (I ((P + 1 + 10)) x11.toNatClampNeg) I L hg13) q_726 q_727 (by decide) (by decide) rfl rfl (Nat.le_of_ble_eq_true rfl) ⟨Nat.le_succ _, Nat.le_refl _, Nat.le_add_right _ _, Nat.le_refl _⟩ rfl rfl
    · have h := zsm_r h
      obtain rfl := Option.some.inj h
      exact z_callSX C dX11_pin_15 yy_X11_mustBeBelow (cx_X11_mustBeBelow C.2.2.2.2.1  a1 (I 73 7) I L hg5) q_726 q_727 (by decide) (by decide) rfl rfl (Nat.le_of_ble_eq_true rfl) ⟨Nat.le_succ _, Nat.le_refl _, Nat.le_add_right _ _, Nat.le_refl _⟩ rfl rfl
  · have h := zsm_r h
    obtain rfl := Option.some.inj h
    exact z_callSX C dX11_pin_4 yy_X11_mustBeTrue (cx_X11_mustBeTrue C.2.2.2.2.1  (I 0 10) I L hg1) q_793 q_794 (by decide) (by decide) rfl rfl (Nat.le_of_ble_eq_true rfl) ⟨Nat.le_succ _, Nat.le_refl _, Nat.le_add_right _ _, Nat.le_refl _⟩ rfl rfl
set_option maxHeartbeats 4000000 in
set_option maxRecDepth 100000 in
theorem cn_X11_pin {v9 : Int32} (hE : zE0 l s0 a0 d cy B0) {P : Nat} (hP : zpl P) (a1 : Int32) (a2 : Int32) (I : zI) (L : zL) (h : f_X11_pin P a1 a2 I = some (.inl v9)) : zM l s0 d cy B0 yX11_pin cX11_pin 3 (some .int) 7 110 [.ref (B0 + 0), .int a1, .int a2] zSH zKn bc bs I L (.inl (some (.int v9))) zSH zKn bc bs I L := c_X11_pin hE hP a1 a2 I L h
set_option maxHeartbeats 4000000 in
set_option maxRecDepth 100000 in
theorem cx_X11_pin {k9 : Nat} (hE : zE0 l s0 a0 d cy B0) {P : Nat} (hP : zpl P) (a1 : Int32) (a2 : Int32) (I : zI) (L : zL) (h : f_X11_pin P a1 a2 I = some (.inr k9)) : zM l s0 d cy B0 yX11_pin cX11_pin 3 (some .int) 7 110 [.ref (B0 + 0), .int a1, .int a2] zSH zKn bc bs I L (.inr (zex k9)) zSH zKn (bc + 1) (bs + 6) I L := c_X11_pin hE hP a1 a2 I L h
theorem q_204 : (Cond.fieldLink "DeviceFind" (196 : Nat) "DeviceFind$Plan" "wires" "I") ∈ lw_tbl := List.mem_of_getElem? (i := 204) (by decide +kernel)
theorem q_1100 : (Cond.code ({ cls := "DeviceFind", name := "net", desc := "(IJJ)I" } : Jvm.MethodName) prog_1_method_12_code (6 : Nat) (Option.some Jvm.ClassFile.FieldType.int)) ∈ lw_tbl := List.mem_of_getElem? (i := 1100) (by decide +kernel)
theorem q_1101 : (Cond.methodLink "DeviceFind" (199 : Nat) ({ cls := "DeviceFind$Nets", name := "netAt", desc := "(II)I" } : Jvm.MethodName)) ∈ lw_tbl := List.mem_of_getElem? (i := 1101) (by decide +kernel)
theorem yy_X11_net : zY yX11_net cX11_net 6 (some .int) 3 := ⟨q_1100, q_75, by decide +kernel, by decide +kernel, by decide +kernel⟩
def f_X11_net (P : Nat) (a1 : Int32) (a2 : Int64) (a3 : Int64) (I : zI) : Option ((Int32 ⊕ Nat)) :=
  zb1 (f_X11_mustBeSquare a2 a3) (fun x2 => zsm x2 (fun x3 => zb1 (f_X11_mustBeTrue (I 0 10)) (fun x6 => zsm x6 (fun x7 => zck (decide (I 0 8 = nI (P + 1))) (zb1 (f_X11_mustBeBelow a1 (I P 13)) (fun x11 => zsm x11 (fun x12 => zb1 (f_X11_squareAt a2.toInt32 a3.toInt32) (fun x15 => zb1 (f_X3_netAt a1 x15 I) (fun x17 => some (.inl x17)))) (fun k13 => some (.inr k13))))) (fun k8 => some (.inr k8)))) (fun k4 => some (.inr k4)))
set_option maxHeartbeats 4000000 in
set_option maxRecDepth 100000 in
theorem c_X11_net {r : (Int32 ⊕ Nat)} (hE : zE0 l s0 a0 d cy B0) {P : Nat} (hP : zpl P) (a1 : Int32) (a2 : Int64) (a3 : Int64) (I : zI) (L : zL) (h : f_X11_net P a1 a2 a3 I = some r) : zM l s0 d cy B0 yX11_net cX11_net 6 (some .int) 7 112 [.ref (B0 + 0), .int a1, .long a2, .long a3] zSH zKn bc bs I L (zri r) zSH zKn (zfc r bc) (zfs r bs) I L := by
  refine z_meth yy_X11_net hE (Nat.le_of_ble_eq_true rfl) (fun p e R s m args below meth c C => ?_)
  show zG p l e R s m args below meth c d cy B0 6 bc bs (zQ below s args d cy B0 bc bs (zri r) zSH zKn (zfc r bc) (zfs r bs) I L) 0 [(0, .ref (B0 + 0)), (1, .int a1), (2, .long a2), (4, .long a3)] [] zSH zKn bc bs I L
  unfold f_X11_net at h
  refine z_lload_n C rfl 2 rfl dX11_net_0 ?_
  refine z_lload C 3 rfl dX11_net_1 ?_
  obtain ⟨x2, hg1, h⟩ := zb1_e h
  rcases x2 with x3 | k4
  · have h := zsm_l h
    refine z_callS C dX11_net_3 yy_X11_mustBeSquare (cn_X11_mustBeSquare C.2.2.2.2.1  a2 a3 I L hg1) q_854 q_855 (by decide) (by decide) rfl rfl (Nat.le_of_ble_eq_true rfl) ⟨Nat.le_refl _, zfc_le _ _, Nat.le_refl _, zfs_le _ _⟩ ?_
    refine z_aload_n C rfl 0 rfl dX11_net_6 ?_
    refine z_geti C zc_11 dX11_net_7 10 0 rfl (by decide) (by decide) q_479 rfl ?_
    obtain ⟨x6, hg5, h⟩ := zb1_e h
    rcases x6 with x7 | k8
    · have h := zsm_l h
      refine z_callS C dX11_net_10 yy_X11_mustBeTrue (cn_X11_mustBeTrue C.2.2.2.2.1  (I 0 10) I L hg5) q_793 q_794 (by decide) (by decide) rfl rfl (Nat.le_of_ble_eq_true rfl) ⟨Nat.le_refl _, zfc_le _ _, Nat.le_refl _, zfs_le _ _⟩ ?_
      refine z_iload_n C rfl 1 rfl dX11_net_13 ?_
      refine z_aload_n C rfl 0 rfl dX11_net_14 ?_
      obtain ⟨hb9, h⟩ := zck_e h
      refine z_getm C zc_11 dX11_net_15 8 0 P rfl (by decide) (by decide) q_477 rfl (of_decide_eq_true hb9) (zpl_lt2 hP) ?_
      refine z_geti C zc_7 dX11_net_18 13 P (zpl_k hP) (zpl_lt hP) (by decide) q_204 rfl ?_
      obtain ⟨x11, hg10, h⟩ := zb1_e h
      rcases x11 with x12 | k13
      · have h := zsm_l h
        refine z_callS C dX11_net_21 yy_X11_mustBeBelow (cn_X11_mustBeBelow C.2.2.2.2.1  a1 (I P 13) I L hg10) q_726 q_727 (by decide) (by decide) rfl rfl (Nat.le_of_ble_eq_true rfl) ⟨Nat.le_refl _, zfc_le _ _, Nat.le_refl _, zfs_le _ _⟩ ?_
        refine z_aload_n C rfl 0 rfl dX11_net_24 ?_
        refine z_getr C zc_11 dX11_net_25 6 0 61 rfl (by decide) (by decide) q_475 rfl rfl ?_
        refine z_iload_n C rfl 1 rfl dX11_net_28 ?_
        refine z_lload_n C rfl 2 rfl dX11_net_29 ?_
        refine z_l2i C dX11_net_30 ?_
        refine z_lload C 3 rfl dX11_net_31 ?_
        refine z_l2i C dX11_net_33 ?_
        obtain ⟨x15, hg14, h⟩ := zb1_e h
        refine z_callS C dX11_net_34 yy_X11_squareAt (c_X11_squareAt C.2.2.2.2.1  a2.toInt32 a3.toInt32 I L hg14) q_857 q_858 (by decide) (by decide) rfl rfl (Nat.le_of_ble_eq_true rfl) ⟨Nat.le_refl _, zfc_le _ _, Nat.le_refl _, zfs_le _ _⟩ ?_
        obtain ⟨x17, hg16, h⟩ := zb1_e h
        refine z_callV C zc_3 rfl (by decide) dX11_net_37 yy_X3_netAt (c_X3_netAt C.2.2.2.2.1  a1 x15 I L hg16) q_1101 q_981 q_982 (by decide) (by decide) rfl rfl (Nat.le_of_ble_eq_true rfl) ⟨Nat.le_refl _, zfc_le _ _, Nat.le_refl _, zfs_le _ _⟩ ?_
        obtain rfl := Option.some.inj h
        exact z_iret C dX11_net_40 .int rfl rfl rfl
      · have h := zsm_r h
        obtain rfl := Option.some.inj h
        exact z_callSX C dX11_net_21 yy_X11_mustBeBelow (cx_X11_mustBeBelow C.2.2.2.2.1  a1 (I P 13) I L hg10) q_726 q_727 (by decide) (by decide) rfl rfl (Nat.le_of_ble_eq_true rfl) ⟨Nat.le_succ _, Nat.le_refl _, Nat.le_add_right _ _, Nat.le_refl _⟩ rfl rfl
    · have h := zsm_r h
      obtain rfl := Option.some.inj h
      exact z_callSX C dX11_net_10 yy_X11_mustBeTrue (cx_X11_mustBeTrue C.2.2.2.2.1  (I 0 10) I L hg5) q_793 q_794 (by decide) (by decide) rfl rfl (Nat.le_of_ble_eq_true rfl) ⟨Nat.le_succ _, Nat.le_refl _, Nat.le_add_right _ _, Nat.le_refl _⟩ rfl rfl
  · have h := zsm_r h
    obtain rfl := Option.some.inj h
    exact z_callSX C dX11_net_3 yy_X11_mustBeSquare (cx_X11_mustBeSquare C.2.2.2.2.1  a2 a3 I L hg1) q_854 q_855 (by decide) (by decide) rfl rfl (Nat.le_of_ble_eq_true rfl) ⟨Nat.le_succ _, Nat.le_refl _, Nat.le_add_right _ _, Nat.le_refl _⟩ rfl rfl
set_option maxHeartbeats 4000000 in
set_option maxRecDepth 100000 in
theorem cn_X11_net {v9 : Int32} (hE : zE0 l s0 a0 d cy B0) {P : Nat} (hP : zpl P) (a1 : Int32) (a2 : Int64) (a3 : Int64) (I : zI) (L : zL) (h : f_X11_net P a1 a2 a3 I = some (.inl v9)) : zM l s0 d cy B0 yX11_net cX11_net 6 (some .int) 7 112 [.ref (B0 + 0), .int a1, .long a2, .long a3] zSH zKn bc bs I L (.inl (some (.int v9))) zSH zKn bc bs I L := c_X11_net hE hP a1 a2 a3 I L h
set_option maxHeartbeats 4000000 in
set_option maxRecDepth 100000 in
theorem cx_X11_net {k9 : Nat} (hE : zE0 l s0 a0 d cy B0) {P : Nat} (hP : zpl P) (a1 : Int32) (a2 : Int64) (a3 : Int64) (I : zI) (L : zL) (h : f_X11_net P a1 a2 a3 I = some (.inr k9)) : zM l s0 d cy B0 yX11_net cX11_net 6 (some .int) 7 112 [.ref (B0 + 0), .int a1, .long a2, .long a3] zSH zKn bc bs I L (.inr (zex k9)) zSH zKn (bc + 1) (bs + 6) I L := c_X11_net hE hP a1 a2 a3 I L h
theorem q_373 : (Cond.fieldLink "DeviceFind" (202 : Nat) "DeviceFind$Nets" "total" "I") ∈ lw_tbl := List.mem_of_getElem? (i := 373) (by decide +kernel)
theorem q_1108 : (Cond.code ({ cls := "DeviceFind", name := "named", desc := "(I)I" } : Jvm.MethodName) prog_1_method_13_code (2 : Nat) (Option.some Jvm.ClassFile.FieldType.int)) ∈ lw_tbl := List.mem_of_getElem? (i := 1108) (by decide +kernel)
theorem q_1109 : (Cond.methodLink "DeviceFind" (203 : Nat) ({ cls := "DeviceFind$Notes", name := "leastName", desc := "(I)I" } : Jvm.MethodName)) ∈ lw_tbl := List.mem_of_getElem? (i := 1109) (by decide +kernel)
theorem q_1110 : (Cond.instanceMethod ({ cls := "DeviceFind$Notes", name := "leastName", desc := "(I)I" } : Jvm.MethodName)) ∈ lw_tbl := List.mem_of_getElem? (i := 1110) (by decide +kernel)
theorem q_1111 : (Cond.selects "DeviceFind$Notes" ({ cls := "DeviceFind$Notes", name := "leastName", desc := "(I)I" } : Jvm.MethodName) ({ cls := "DeviceFind$Notes", name := "leastName", desc := "(I)I" } : Jvm.MethodName)) ∈ lw_tbl := List.mem_of_getElem? (i := 1111) (by decide +kernel)
theorem yy_X11_named : zY yX11_named cX11_named 2 (some .int) 1 := ⟨q_1108, q_75, by decide +kernel, by decide +kernel, by decide +kernel⟩
def f_X11_named (a1 : Int32) (I : zI) : Option ((Int32 ⊕ Nat)) :=
  zb1 (f_X11_mustBeTrue (I 0 10)) (fun x2 => zsm x2 (fun x3 => zb1 (f_X11_mustBeBelow a1 (I 61 1)) (fun x6 => zsm x6 (fun x7 => zb1 (f_X4_leastName a1 I) (fun x10 => some (.inl x10))) (fun k8 => some (.inr k8)))) (fun k4 => some (.inr k4)))
set_option maxHeartbeats 4000000 in
set_option maxRecDepth 100000 in
theorem c_X11_named {r : (Int32 ⊕ Nat)} (hE : zE0 l s0 a0 d cy B0) (a1 : Int32) (I : zI) (L : zL) (h : f_X11_named a1 I = some r) : zM l s0 d cy B0 yX11_named cX11_named 2 (some .int) 7 110 [.ref (B0 + 0), .int a1] zSH zKn bc bs I L (zri r) zSH zKn (zfc r bc) (zfs r bs) I L := by
  refine z_meth yy_X11_named hE (Nat.le_of_ble_eq_true rfl) (fun p e R s m args below meth c C => ?_)
  show zG p l e R s m args below meth c d cy B0 2 bc bs (zQ below s args d cy B0 bc bs (zri r) zSH zKn (zfc r bc) (zfs r bs) I L) 0 [(0, .ref (B0 + 0)), (1, .int a1)] [] zSH zKn bc bs I L
  unfold f_X11_named at h
  refine z_aload_n C rfl 0 rfl dX11_named_0 ?_
  refine z_geti C zc_11 dX11_named_1 10 0 rfl (by decide) (by decide) q_479 rfl ?_
  obtain ⟨x2, hg1, h⟩ := zb1_e h
  rcases x2 with x3 | k4
  · have h := zsm_l h
    refine z_callS C dX11_named_4 yy_X11_mustBeTrue (cn_X11_mustBeTrue C.2.2.2.2.1  (I 0 10) I L hg1) q_793 q_794 (by decide) (by decide) rfl rfl (Nat.le_of_ble_eq_true rfl) ⟨Nat.le_refl _, zfc_le _ _, Nat.le_refl _, zfs_le _ _⟩ ?_
    refine z_iload_n C rfl 1 rfl dX11_named_7 ?_
    refine z_aload_n C rfl 0 rfl dX11_named_8 ?_
    refine z_getr C zc_11 dX11_named_9 6 0 61 rfl (by decide) (by decide) q_475 rfl rfl ?_
    refine z_geti C zc_3 dX11_named_12 1 61 rfl (by decide) (by decide) q_373 rfl ?_
    obtain ⟨x6, hg5, h⟩ := zb1_e h
    rcases x6 with x7 | k8
    · have h := zsm_l h
      refine z_callS C dX11_named_15 yy_X11_mustBeBelow (cn_X11_mustBeBelow C.2.2.2.2.1  a1 (I 61 1) I L hg5) q_726 q_727 (by decide) (by decide) rfl rfl (Nat.le_of_ble_eq_true rfl) ⟨Nat.le_refl _, zfc_le _ _, Nat.le_refl _, zfs_le _ _⟩ ?_
      refine z_aload_n C rfl 0 rfl dX11_named_18 ?_
      refine z_getr C zc_11 dX11_named_19 4 0 26 rfl (by decide) (by decide) q_473 rfl rfl ?_
      refine z_iload_n C rfl 1 rfl dX11_named_22 ?_
      obtain ⟨x10, hg9, h⟩ := zb1_e h
      refine z_callV C zc_4 rfl (by decide) dX11_named_23 yy_X4_leastName (c_X4_leastName C.2.2.2.2.1  a1 I L hg9) q_1109 q_1110 q_1111 (by decide) (by decide) rfl rfl (Nat.le_of_ble_eq_true rfl) ⟨Nat.le_refl _, zfc_le _ _, Nat.le_refl _, zfs_le _ _⟩ ?_
      obtain rfl := Option.some.inj h
      exact z_iret C dX11_named_26 .int rfl rfl rfl
    · have h := zsm_r h
      obtain rfl := Option.some.inj h
      exact z_callSX C dX11_named_15 yy_X11_mustBeBelow (cx_X11_mustBeBelow C.2.2.2.2.1  a1 (I 61 1) I L hg5) q_726 q_727 (by decide) (by decide) rfl rfl (Nat.le_of_ble_eq_true rfl) ⟨Nat.le_succ _, Nat.le_refl _, Nat.le_add_right _ _, Nat.le_refl _⟩ rfl rfl
  · have h := zsm_r h
    obtain rfl := Option.some.inj h
    exact z_callSX C dX11_named_4 yy_X11_mustBeTrue (cx_X11_mustBeTrue C.2.2.2.2.1  (I 0 10) I L hg1) q_793 q_794 (by decide) (by decide) rfl rfl (Nat.le_of_ble_eq_true rfl) ⟨Nat.le_succ _, Nat.le_refl _, Nat.le_add_right _ _, Nat.le_refl _⟩ rfl rfl
set_option maxHeartbeats 4000000 in
set_option maxRecDepth 100000 in
theorem cn_X11_named {v9 : Int32} (hE : zE0 l s0 a0 d cy B0) (a1 : Int32) (I : zI) (L : zL) (h : f_X11_named a1 I = some (.inl v9)) : zM l s0 d cy B0 yX11_named cX11_named 2 (some .int) 7 110 [.ref (B0 + 0), .int a1] zSH zKn bc bs I L (.inl (some (.int v9))) zSH zKn bc bs I L := c_X11_named hE a1 I L h
set_option maxHeartbeats 4000000 in
set_option maxRecDepth 100000 in
theorem cx_X11_named {k9 : Nat} (hE : zE0 l s0 a0 d cy B0) (a1 : Int32) (I : zI) (L : zL) (h : f_X11_named a1 I = some (.inr k9)) : zM l s0 d cy B0 yX11_named cX11_named 2 (some .int) 7 110 [.ref (B0 + 0), .int a1] zSH zKn bc bs I L (.inr (zex k9)) zSH zKn (bc + 1) (bs + 6) I L := c_X11_named hE a1 I L h
theorem q_1122 : (Cond.code ({ cls := "DeviceFind", name := "mustNotBeNegative", desc := "(I)V" } : Jvm.MethodName) prog_1_method_20_code (1 : Nat) (Option.none : Option Jvm.ClassFile.FieldType)) ∈ lw_tbl := List.mem_of_getElem? (i := 1122) (by decide +kernel)
theorem yy_X11_mustNotBeNegative : zY yX11_mustNotBeNegative cX11_mustNotBeNegative 1 none 1 := ⟨q_1122, q_75, by decide +kernel, by decide +kernel, by decide +kernel⟩
def f_X11_mustNotBeNegative (a0 : Int32) : Option ((Unit ⊕ Nat)) :=
  if 0 ≤ a0 then (some (.inl ())) else (some (.inr 0))
set_option maxHeartbeats 4000000 in
set_option maxRecDepth 100000 in
theorem c_X11_mustNotBeNegative {r : (Unit ⊕ Nat)} (hE : zE0 l s0 a0 d cy B0) (a0 : Int32) (I : zI) (L : zL) (h : f_X11_mustNotBeNegative a0 = some r) : zM l s0 d cy B0 yX11_mustNotBeNegative cX11_mustNotBeNegative 1 none 6 89 [.int a0] zSH zKn bc bs I L (zrv r) zSH zKn (zfc r bc) (zfs r bs) I L := by
  refine z_meth yy_X11_mustNotBeNegative hE (Nat.le_of_ble_eq_true rfl) (fun p e R s m args below meth c C => ?_)
  show zG p l e R s m args below meth c d cy B0 1 bc bs (zQ below s args d cy B0 bc bs (zrv r) zSH zKn (zfc r bc) (zfs r bs) I L) 0 [(0, .int a0)] [] zSH zKn bc bs I L
  unfold f_X11_mustNotBeNegative at h
  refine z_iload_n C rfl 0 rfl dX11_mustNotBeNegative_0 ?_
  refine z_if_ge C 12 (by decide) dX11_mustNotBeNegative_1 (fun hc => ?_) (fun hc => ?_)
  · have h := zif_t hc h
    obtain rfl := Option.some.inj h
    exact z_vret C dX11_mustNotBeNegative_12 rfl rfl
  · have h := zif_f hc h
    obtain rfl := Option.some.inj h
    exact z_throw C dX11_mustNotBeNegative_4 dX11_mustNotBeNegative_7 dX11_mustNotBeNegative_8 dX11_mustNotBeNegative_11 (by decide +kernel) q_729 q_96 xat_X11_241 rfl (by decide) (Nat.le_of_ble_eq_true rfl) ⟨rfl, rfl⟩ rfl rfl rfl rfl
set_option maxHeartbeats 4000000 in
set_option maxRecDepth 100000 in
theorem cn_X11_mustNotBeNegative {v9 : Unit} (hE : zE0 l s0 a0 d cy B0) (a0 : Int32) (I : zI) (L : zL) (h : f_X11_mustNotBeNegative a0 = some (.inl v9)) : zM l s0 d cy B0 yX11_mustNotBeNegative cX11_mustNotBeNegative 1 none 6 89 [.int a0] zSH zKn bc bs I L (.inl none) zSH zKn bc bs I L := c_X11_mustNotBeNegative hE a0 I L h
set_option maxHeartbeats 4000000 in
set_option maxRecDepth 100000 in
theorem cx_X11_mustNotBeNegative {k9 : Nat} (hE : zE0 l s0 a0 d cy B0) (a0 : Int32) (I : zI) (L : zL) (h : f_X11_mustNotBeNegative a0 = some (.inr k9)) : zM l s0 d cy B0 yX11_mustNotBeNegative cX11_mustNotBeNegative 1 none 6 89 [.int a0] zSH zKn bc bs I L (.inr (zex k9)) zSH zKn (bc + 1) (bs + 6) I L := c_X11_mustNotBeNegative hE a0 I L h
theorem q_1119 : (Cond.code ({ cls := "DeviceFind", name := "twice", desc := "(I)I" } : Jvm.MethodName) prog_1_method_14_code (2 : Nat) (Option.some Jvm.ClassFile.FieldType.int)) ∈ lw_tbl := List.mem_of_getElem? (i := 1119) (by decide +kernel)
theorem q_1120 : (Cond.methodLink "DeviceFind" (206 : Nat) ({ cls := "DeviceFind", name := "mustNotBeNegative", desc := "(I)V" } : Jvm.MethodName)) ∈ lw_tbl := List.mem_of_getElem? (i := 1120) (by decide +kernel)
theorem q_1121 : (Cond.static ({ cls := "DeviceFind", name := "mustNotBeNegative", desc := "(I)V" } : Jvm.MethodName)) ∈ lw_tbl := List.mem_of_getElem? (i := 1121) (by decide +kernel)
theorem q_1123 : (Cond.methodLink "DeviceFind" (210 : Nat) ({ cls := "DeviceFind$Notes", name := "twiceNamed", desc := "(I)I" } : Jvm.MethodName)) ∈ lw_tbl := List.mem_of_getElem? (i := 1123) (by decide +kernel)
theorem q_1124 : (Cond.instanceMethod ({ cls := "DeviceFind$Notes", name := "twiceNamed", desc := "(I)I" } : Jvm.MethodName)) ∈ lw_tbl := List.mem_of_getElem? (i := 1124) (by decide +kernel)
theorem q_1125 : (Cond.selects "DeviceFind$Notes" ({ cls := "DeviceFind$Notes", name := "twiceNamed", desc := "(I)I" } : Jvm.MethodName) ({ cls := "DeviceFind$Notes", name := "twiceNamed", desc := "(I)I" } : Jvm.MethodName)) ∈ lw_tbl := List.mem_of_getElem? (i := 1125) (by decide +kernel)
theorem yy_X11_twice : zY yX11_twice cX11_twice 2 (some .int) 1 := ⟨q_1119, q_75, by decide +kernel, by decide +kernel, by decide +kernel⟩
def f_X11_twice (a1 : Int32) (I : zI) : Option ((Int32 ⊕ Nat)) :=
  zb1 (f_X11_mustNotBeNegative a1) (fun x2 => zsm x2 (fun x3 => zb1 (f_X11_mustBeTrue (I 0 10)) (fun x6 => zsm x6 (fun x7 => zb1 (f_X4_twiceNamed a1 I) (fun x10 => some (.inl x10))) (fun k8 => some (.inr k8)))) (fun k4 => some (.inr k4)))
set_option maxHeartbeats 4000000 in
set_option maxRecDepth 100000 in
theorem c_X11_twice {r : (Int32 ⊕ Nat)} (hE : zE0 l s0 a0 d cy B0) (a1 : Int32) (I : zI) (L : zL) (h : f_X11_twice a1 I = some r) : zM l s0 d cy B0 yX11_twice cX11_twice 2 (some .int) 7 109 [.ref (B0 + 0), .int a1] zSH zKn bc bs I L (zri r) zSH zKn (zfc r bc) (zfs r bs) I L := by
  refine z_meth yy_X11_twice hE (Nat.le_of_ble_eq_true rfl) (fun p e R s m args below meth c C => ?_)
  show zG p l e R s m args below meth c d cy B0 2 bc bs (zQ below s args d cy B0 bc bs (zri r) zSH zKn (zfc r bc) (zfs r bs) I L) 0 [(0, .ref (B0 + 0)), (1, .int a1)] [] zSH zKn bc bs I L
  unfold f_X11_twice at h
  refine z_iload_n C rfl 1 rfl dX11_twice_0 ?_
  obtain ⟨x2, hg1, h⟩ := zb1_e h
  rcases x2 with x3 | k4
  · have h := zsm_l h
    refine z_callS C dX11_twice_1 yy_X11_mustNotBeNegative (cn_X11_mustNotBeNegative C.2.2.2.2.1  a1 I L hg1) q_1120 q_1121 (by decide) (by decide) rfl rfl (Nat.le_of_ble_eq_true rfl) ⟨Nat.le_refl _, zfc_le _ _, Nat.le_refl _, zfs_le _ _⟩ ?_
    refine z_aload_n C rfl 0 rfl dX11_twice_4 ?_
    refine z_geti C zc_11 dX11_twice_5 10 0 rfl (by decide) (by decide) q_479 rfl ?_
    obtain ⟨x6, hg5, h⟩ := zb1_e h
    rcases x6 with x7 | k8
    · have h := zsm_l h
      refine z_callS C dX11_twice_8 yy_X11_mustBeTrue (cn_X11_mustBeTrue C.2.2.2.2.1  (I 0 10) I L hg5) q_793 q_794 (by decide) (by decide) rfl rfl (Nat.le_of_ble_eq_true rfl) ⟨Nat.le_refl _, zfc_le _ _, Nat.le_refl _, zfs_le _ _⟩ ?_
      refine z_aload_n C rfl 0 rfl dX11_twice_11 ?_
      refine z_getr C zc_11 dX11_twice_12 4 0 26 rfl (by decide) (by decide) q_473 rfl rfl ?_
      refine z_iload_n C rfl 1 rfl dX11_twice_15 ?_
      obtain ⟨x10, hg9, h⟩ := zb1_e h
      refine z_callV C zc_4 rfl (by decide) dX11_twice_16 yy_X4_twiceNamed (c_X4_twiceNamed C.2.2.2.2.1  a1 I L hg9) q_1123 q_1124 q_1125 (by decide) (by decide) rfl rfl (Nat.le_of_ble_eq_true rfl) ⟨Nat.le_refl _, zfc_le _ _, Nat.le_refl _, zfs_le _ _⟩ ?_
      obtain rfl := Option.some.inj h
      exact z_iret C dX11_twice_19 .int rfl rfl rfl
    · have h := zsm_r h
      obtain rfl := Option.some.inj h
      exact z_callSX C dX11_twice_8 yy_X11_mustBeTrue (cx_X11_mustBeTrue C.2.2.2.2.1  (I 0 10) I L hg5) q_793 q_794 (by decide) (by decide) rfl rfl (Nat.le_of_ble_eq_true rfl) ⟨Nat.le_succ _, Nat.le_refl _, Nat.le_add_right _ _, Nat.le_refl _⟩ rfl rfl
  · have h := zsm_r h
    obtain rfl := Option.some.inj h
    exact z_callSX C dX11_twice_1 yy_X11_mustNotBeNegative (cx_X11_mustNotBeNegative C.2.2.2.2.1  a1 I L hg1) q_1120 q_1121 (by decide) (by decide) rfl rfl (Nat.le_of_ble_eq_true rfl) ⟨Nat.le_succ _, Nat.le_refl _, Nat.le_add_right _ _, Nat.le_refl _⟩ rfl rfl
set_option maxHeartbeats 4000000 in
set_option maxRecDepth 100000 in
theorem cn_X11_twice {v9 : Int32} (hE : zE0 l s0 a0 d cy B0) (a1 : Int32) (I : zI) (L : zL) (h : f_X11_twice a1 I = some (.inl v9)) : zM l s0 d cy B0 yX11_twice cX11_twice 2 (some .int) 7 109 [.ref (B0 + 0), .int a1] zSH zKn bc bs I L (.inl (some (.int v9))) zSH zKn bc bs I L := c_X11_twice hE a1 I L h
set_option maxHeartbeats 4000000 in
set_option maxRecDepth 100000 in
theorem cx_X11_twice {k9 : Nat} (hE : zE0 l s0 a0 d cy B0) (a1 : Int32) (I : zI) (L : zL) (h : f_X11_twice a1 I = some (.inr k9)) : zM l s0 d cy B0 yX11_twice cX11_twice 2 (some .int) 7 109 [.ref (B0 + 0), .int a1] zSH zKn bc bs I L (.inr (zex k9)) zSH zKn (bc + 1) (bs + 6) I L := c_X11_twice hE a1 I L h
end Zp05_08_walk
