section Zp05_08_walk
variable {p : Program} {l : Launch} {e : Env} {R : Room} {s : State} {m : MethodId} {args : Array Value} {below : List Frame} {meth : Method} {c : Code} {s0 : State} {a0 : Array Value} {d : va_G} {cy : Nat → ClassId} {B0 : Nat} {bc bs : Nat}
theorem q_3 : Cond.selects "DeviceFind$Reader" ⟨"DeviceFind$Reader", "isWord", "(Ljava/lang/String;)Z"⟩ ⟨"DeviceFind$Reader", "isWord", "(Ljava/lang/String;)Z"⟩ ∈ lw_tbl := List.mem_of_getElem? (i := 3) (by decide +kernel)
theorem q_556 : (Cond.methodLink "DeviceFind$Reader" (56 : Nat) ({ cls := "DeviceFind$Reader", name := "isWord", desc := "(Ljava/lang/String;)Z" } : Jvm.MethodName)) ∈ lw_tbl := List.mem_of_getElem? (i := 556) (by decide +kernel)
theorem q_558 : (Cond.instanceMethod ({ cls := "DeviceFind$Reader", name := "isWord", desc := "(Ljava/lang/String;)Z" } : Jvm.MethodName)) ∈ lw_tbl := List.mem_of_getElem? (i := 558) (by decide +kernel)
theorem q_652 : (Cond.code ({ cls := "DeviceFind$Reader", name := "takeWay", desc := "()I" } : Jvm.MethodName) prog_10_method_17_code (2 : Nat) (Option.some Jvm.ClassFile.FieldType.int)) ∈ lw_tbl := List.mem_of_getElem? (i := 652) (by decide +kernel)
theorem yy_X8_takeWay : zY yX8_takeWay cX8_takeWay 2 (some .int) 0 := ⟨q_652, q_78, by decide +kernel, by decide +kernel, by decide +kernel⟩
noncomputable def f_X8_takeWay_56 (v1 : Int32) (I : zI) (L : zL) : Option (Int32 × zI) :=
  some (v1, I)
noncomputable def f_X8_takeWay_40 (w0 : Int32) (I : zI) (L : zL) : Option (Int32 × zI) :=
  if w0 = (-1 : Int32) then (f_X8_takeWay_56 w0 I L) else (zlt ((I 3 4) + (1 : Int32)) (fun x7 => zlt (zu I 3 4 x7) (fun I8 => f_X8_takeWay_56 w0 I8 L)))
noncomputable def f_X8_takeWay (I : zI) (L : zL) : Option (Int32 × zI) :=
  zb1 (f_X8_isWord 2 I L) (fun x2 => if x2 = 0 then (zb1 (f_X8_isWord 3 I L) (fun x4 => if x4 = 0 then (zb1 (f_X8_isWord 4 I L) (fun x6 => if x6 = 0 then (f_X8_takeWay_40 (-1 : Int32) I L) else (f_X8_takeWay_40 (3 : Int32) I L))) else (f_X8_takeWay_40 (2 : Int32) I L))) else (f_X8_takeWay_40 (1 : Int32) I L))
set_option maxHeartbeats 4000000 in
set_option maxRecDepth 100000 in
theorem l_X8_takeWay_56 {r : Int32 × zI} (C : zC p l e R s m args below meth c s0 a0 d cy B0 yX8_takeWay.cls cX8_takeWay 2 (some .int) bc bs bc bs 7 150 []) (v1 : Int32) (I : zI) (L : zL) (h : f_X8_takeWay_56 v1 I L = some r) : zG p l e R s m args below meth c d cy B0 2 bc bs (zQ below s args d cy B0 bc bs (.inl (some (.int r.1))) zSH zKn bc bs r.2 L) 56 [(1, .int v1)] [] zSH zKn bc bs I L := by
  unfold f_X8_takeWay_56 at h
  refine z_iload_n C rfl 0 rfl dX8_takeWay_56 ?_
  obtain rfl := Option.some.inj h
  exact z_iret C dX8_takeWay_57 .int rfl rfl rfl
set_option maxHeartbeats 4000000 in
set_option maxRecDepth 100000 in
theorem l_X8_takeWay_40 {r : Int32 × zI} (C : zC p l e R s m args below meth c s0 a0 d cy B0 yX8_takeWay.cls cX8_takeWay 2 (some .int) bc bs bc bs 7 150 []) (w0 : Int32) (I : zI) (L : zL) (h : f_X8_takeWay_40 w0 I L = some r) : zG p l e R s m args below meth c d cy B0 2 bc bs (zQ below s args d cy B0 bc bs (.inl (some (.int r.1))) zSH zKn bc bs r.2 L) 40 [(0, .ref (B0 + 3))] [.int w0] zSH zKn bc bs I L := by
  unfold f_X8_takeWay_40 at h
  refine z_istore_n C (lv' := [(1, .int w0), (0, .ref (B0 + 3))]) rfl (by decide) rfl dX8_takeWay_40 ?_
  refine z_iload_n C rfl 0 rfl dX8_takeWay_41 ?_
  refine z_iconst C (v := -1) (by decide) dX8_takeWay_42 ?_
  refine z_icmp_eq C 56 (by decide) dX8_takeWay_43 (fun hc => ?_) (fun hc => ?_)
  · have h := zif_t hc h
    refine z_lv [0] (lv' := [(1, .int w0)]) rfl ?_
    exact l_X8_takeWay_56 C  w0 I L h
  · have h := zif_f hc h
    refine z_aload_n C rfl 1 rfl dX8_takeWay_46 ?_
    refine z_dup C rfl dX8_takeWay_47 ?_
    refine z_geti C zc_8 dX8_takeWay_48 4 3 rfl (by decide) (by decide) q_250 rfl ?_
    refine z_iconst C (v := 1) (by decide) dX8_takeWay_51 ?_
    refine z_iadd C dX8_takeWay_52 ?_
    obtain ⟨x7, ex7, h⟩ := zlt_e h
    refine z_eqi C ex7 ?_
    refine z_puti C zc_8 dX8_takeWay_53 4 3 rfl (by decide) (by decide) rfl q_250 rfl rfl rfl ?_
    obtain ⟨I8, eI8, h⟩ := zlt_e h
    refine z_eqI C eI8 ?_
    refine z_lv [0] (lv' := [(1, .int w0)]) rfl ?_
    exact l_X8_takeWay_56 C  w0 I8 L h
set_option maxHeartbeats 4000000 in
set_option maxRecDepth 100000 in
theorem c_X8_takeWay {r : Int32 × zI} (hE : zE0 l s0 a0 d cy B0) (I : zI) (L : zL) (h : f_X8_takeWay I L = some r) : zM l s0 d cy B0 yX8_takeWay cX8_takeWay 2 (some .int) 7 150 [.ref (B0 + 3)] zSH zKn bc bs I L (.inl (some (.int r.1))) zSH zKn bc bs r.2 L := by
  refine z_meth yy_X8_takeWay hE (Nat.le_of_ble_eq_true rfl) (fun p e R s m args below meth c C => ?_)
  show zG p l e R s m args below meth c d cy B0 2 bc bs (zQ below s args d cy B0 bc bs (.inl (some (.int r.1))) zSH zKn bc bs r.2 L) 0 [(0, .ref (B0 + 3))] [] zSH zKn bc bs I L
  unfold f_X8_takeWay at h
  refine z_aload_n C rfl 0 rfl dX8_takeWay_0 ?_
  refine z_ldcS C 2 (by decide) rfl rfl dX8_takeWay_1 ?_
  obtain ⟨x2, hg1, h⟩ := zb1_e h
  refine z_callV C zc_8 rfl (by decide) dX8_takeWay_3 yy_X8_isWord (c_X8_isWord C.2.2.2.2.1 (by decide) I L hg1) q_556 q_558 q_3 (by decide) (by decide) rfl rfl (Nat.le_of_ble_eq_true rfl) ⟨Nat.le_refl _, Nat.le_refl _, Nat.le_refl _, Nat.le_refl _⟩ ?_
  refine z_if_eq C 13 (by decide) dX8_takeWay_6 (fun hc => ?_) (fun hc => ?_)
  · have h := zif_t hc h
    refine z_aload_n C rfl 0 rfl dX8_takeWay_13 ?_
    refine z_ldcS C 3 (by decide) rfl rfl dX8_takeWay_14 ?_
    obtain ⟨x4, hg3, h⟩ := zb1_e h
    refine z_callV C zc_8 rfl (by decide) dX8_takeWay_16 yy_X8_isWord (c_X8_isWord C.2.2.2.2.1 (by decide) I L hg3) q_556 q_558 q_3 (by decide) (by decide) rfl rfl (Nat.le_of_ble_eq_true rfl) ⟨Nat.le_refl _, Nat.le_refl _, Nat.le_refl _, Nat.le_refl _⟩ ?_
    refine z_if_eq C 26 (by decide) dX8_takeWay_19 (fun hc => ?_) (fun hc => ?_)
    · have h := zif_t hc h
      refine z_aload_n C rfl 0 rfl dX8_takeWay_26 ?_
      refine z_ldcS C 4 (by decide) rfl rfl dX8_takeWay_27 ?_
      obtain ⟨x6, hg5, h⟩ := zb1_e h
      refine z_callV C zc_8 rfl (by decide) dX8_takeWay_29 yy_X8_isWord (c_X8_isWord C.2.2.2.2.1 (by decide) I L hg5) q_556 q_558 q_3 (by decide) (by decide) rfl rfl (Nat.le_of_ble_eq_true rfl) ⟨Nat.le_refl _, Nat.le_refl _, Nat.le_refl _, Nat.le_refl _⟩ ?_
      refine z_if_eq C 39 (by decide) dX8_takeWay_32 (fun hc => ?_) (fun hc => ?_)
      · have h := zif_t hc h
        refine z_iconst C (v := -1) (by decide) dX8_takeWay_39 ?_
        exact l_X8_takeWay_40 C  (-1 : Int32) I L h
      · have h := zif_f hc h
        refine z_iconst C (v := 3) (by decide) dX8_takeWay_35 ?_
        refine z_goto C 40 (by decide) dX8_takeWay_36 ?_
        exact l_X8_takeWay_40 C  (3 : Int32) I L h
    · have h := zif_f hc h
      refine z_iconst C (v := 2) (by decide) dX8_takeWay_22 ?_
      refine z_goto C 40 (by decide) dX8_takeWay_23 ?_
      exact l_X8_takeWay_40 C  (2 : Int32) I L h
  · have h := zif_f hc h
    refine z_iconst C (v := 1) (by decide) dX8_takeWay_9 ?_
    refine z_goto C 40 (by decide) dX8_takeWay_10 ?_
    exact l_X8_takeWay_40 C  (1 : Int32) I L h
theorem q_9 : Cond.selects "DeviceFind$Reader" ⟨"DeviceFind$Reader", "takeLayer", "()I"⟩ ⟨"DeviceFind$Reader", "takeLayer", "()I"⟩ ∈ lw_tbl := List.mem_of_getElem? (i := 9) (by decide +kernel)
theorem q_11 : Cond.selects "DeviceFind$Reader" ⟨"DeviceFind$Reader", "takeWay", "()I"⟩ ⟨"DeviceFind$Reader", "takeWay", "()I"⟩ ∈ lw_tbl := List.mem_of_getElem? (i := 11) (by decide +kernel)
theorem q_640 : (Cond.code ({ cls := "DeviceFind$Reader", name := "takeMakeSentence", desc := "()Z" } : Jvm.MethodName) prog_10_method_7_code (6 : Nat) (Option.some Jvm.ClassFile.FieldType.boolean)) ∈ lw_tbl := List.mem_of_getElem? (i := 640) (by decide +kernel)
theorem q_641 : (Cond.methodLink "DeviceFind$Reader" (113 : Nat) ({ cls := "DeviceFind$Reader", name := "takeLayer", desc := "()I" } : Jvm.MethodName)) ∈ lw_tbl := List.mem_of_getElem? (i := 641) (by decide +kernel)
theorem q_643 : (Cond.instanceMethod ({ cls := "DeviceFind$Reader", name := "takeLayer", desc := "()I" } : Jvm.MethodName)) ∈ lw_tbl := List.mem_of_getElem? (i := 643) (by decide +kernel)
theorem q_649 : (Cond.methodLink "DeviceFind$Reader" (116 : Nat) ({ cls := "DeviceFind$Reader", name := "takeWay", desc := "()I" } : Jvm.MethodName)) ∈ lw_tbl := List.mem_of_getElem? (i := 649) (by decide +kernel)
theorem q_651 : (Cond.instanceMethod ({ cls := "DeviceFind$Reader", name := "takeWay", desc := "()I" } : Jvm.MethodName)) ∈ lw_tbl := List.mem_of_getElem? (i := 651) (by decide +kernel)
theorem yy_X8_takeMakeSentence : zY yX8_takeMakeSentence cX8_takeMakeSentence 6 (some .boolean) 0 := ⟨q_640, q_78, by decide +kernel, by decide +kernel, by decide +kernel⟩
noncomputable def f_X8_takeMakeSentence_32 (Q : Nat) (I : zI) (L : zL) : Option (Int32 × zI × zL) :=
  some ((0 : Int32), I, L)
noncomputable def f_X8_takeMakeSentence_81 (Q : Nat) (I : zI) (L : zL) : Option (Int32 × zI × zL) :=
  some ((0 : Int32), I, L)
noncomputable def f_X8_takeMakeSentence (Q : Nat) (I : zI) (L : zL) : Option (Int32 × zI × zL) :=
  zlt ((I 3 4) + (1 : Int32)) (fun x1 => zlt (zu I 3 4 x1) (fun I2 => zb2 (f_X8_takeNewLayer Q I2 L) (fun x4 I5 => if x4 = (-1 : Int64) then (f_X8_takeMakeSentence_32 Q I5 L) else (zb2 (f_X8_takeSign (61 : Int32) I5 L) (fun x7 I8 => if x7 = 0 then (f_X8_takeMakeSentence_32 Q I8 L) else (zb2 (f_X8_takeLayer Q I8 L) (fun x10 I11 => if x10 = (-1 : Int32) then (some ((0 : Int32), I11, L)) else (zb2 (f_X8_takeWay I11 L) (fun x13 I14 => if x13 = (-1 : Int32) then (some ((0 : Int32), I14, L)) else (zb2 (f_X8_takeLayer Q I14 L) (fun x16 I17 => if x16 = (-1 : Int32) then (f_X8_takeMakeSentence_81 Q I17 L) else (zb2 (f_X8_takeSign (59 : Int32) I17 L) (fun x19 I20 => if x19 = 0 then (f_X8_takeMakeSentence_81 Q I20 L) else (zck (decide (I20 3 3 = nI (Q + 1))) (zb2 (f_X7_addLayer Q x4 x13 x10 x16 I20 L) (fun I23 L24 => some ((1 : Int32), I23, L24)))))))))))))))))
set_option maxHeartbeats 4000000 in
set_option maxRecDepth 100000 in
theorem l_X8_takeMakeSentence_32 {r : Int32 × zI × zL} (C : zC p l e R s m args below meth c s0 a0 d cy B0 yX8_takeMakeSentence.cls cX8_takeMakeSentence 6 (some .boolean) bc bs bc bs 8 171 []) {Q : Nat} (hQ : zpl Q) (I : zI) (L : zL) (h : f_X8_takeMakeSentence_32 Q I L = some r) : zG p l e R s m args below meth c d cy B0 6 bc bs (zQ below s args d cy B0 bc bs (.inl (some (.int r.1))) zSH zKn bc bs r.2.1 r.2.2) 32 [] [] zSH zKn bc bs I L := by
  unfold f_X8_takeMakeSentence_32 at h
  refine z_iconst C (v := 0) (by decide) dX8_takeMakeSentence_32 ?_
  obtain rfl := Option.some.inj h
  exact z_iret C dX8_takeMakeSentence_33 .boolean rfl rfl rfl
set_option maxHeartbeats 4000000 in
set_option maxRecDepth 100000 in
theorem l_X8_takeMakeSentence_81 {r : Int32 × zI × zL} (C : zC p l e R s m args below meth c s0 a0 d cy B0 yX8_takeMakeSentence.cls cX8_takeMakeSentence 6 (some .boolean) bc bs bc bs 8 171 []) {Q : Nat} (hQ : zpl Q) (I : zI) (L : zL) (h : f_X8_takeMakeSentence_81 Q I L = some r) : zG p l e R s m args below meth c d cy B0 6 bc bs (zQ below s args d cy B0 bc bs (.inl (some (.int r.1))) zSH zKn bc bs r.2.1 r.2.2) 81 [] [] zSH zKn bc bs I L := by
  unfold f_X8_takeMakeSentence_81 at h
  refine z_iconst C (v := 0) (by decide) dX8_takeMakeSentence_81 ?_
  obtain rfl := Option.some.inj h
  exact z_iret C dX8_takeMakeSentence_82 .boolean rfl rfl rfl
set_option maxHeartbeats 4000000 in
set_option maxRecDepth 100000 in
theorem c_X8_takeMakeSentence {r : Int32 × zI × zL} (hE : zE0 l s0 a0 d cy B0) {Q : Nat} (hQ : zpl Q) (I : zI) (L : zL) (h : f_X8_takeMakeSentence Q I L = some r) : zM l s0 d cy B0 yX8_takeMakeSentence cX8_takeMakeSentence 6 (some .boolean) 8 171 [.ref (B0 + 3)] zSH zKn bc bs I L (.inl (some (.int r.1))) zSH zKn bc bs r.2.1 r.2.2 := by
  refine z_meth yy_X8_takeMakeSentence hE (Nat.le_of_ble_eq_true rfl) (fun p e R s m args below meth c C => ?_)
  show zG p l e R s m args below meth c d cy B0 6 bc bs (zQ below s args d cy B0 bc bs (.inl (some (.int r.1))) zSH zKn bc bs r.2.1 r.2.2) 0 [(0, .ref (B0 + 3))] [] zSH zKn bc bs I L
  unfold f_X8_takeMakeSentence at h
  refine z_aload_n C rfl 0 rfl dX8_takeMakeSentence_0 ?_
  refine z_dup C rfl dX8_takeMakeSentence_1 ?_
  refine z_geti C zc_8 dX8_takeMakeSentence_2 4 3 rfl (by decide) (by decide) q_250 rfl ?_
  refine z_iconst C (v := 1) (by decide) dX8_takeMakeSentence_5 ?_
  refine z_iadd C dX8_takeMakeSentence_6 ?_
  obtain ⟨x1, ex1, h⟩ := zlt_e h
  refine z_eqi C ex1 ?_
  refine z_puti C zc_8 dX8_takeMakeSentence_7 4 3 rfl (by decide) (by decide) rfl q_250 rfl rfl rfl ?_
  obtain ⟨I2, eI2, h⟩ := zlt_e h
  refine z_eqI C eI2 ?_
  refine z_aload_n C rfl 0 rfl dX8_takeMakeSentence_10 ?_
  obtain ⟨x4, I5, hg3, h⟩ := zb2_e h
  refine z_callV C zc_8 rfl (by decide) dX8_takeMakeSentence_11 yy_X8_takeNewLayer (c_X8_takeNewLayer C.2.2.2.2.1 hQ I2 L hg3) q_615 q_617 q_5 (by decide) (by decide) rfl rfl (Nat.le_of_ble_eq_true rfl) ⟨Nat.le_refl _, Nat.le_refl _, Nat.le_refl _, Nat.le_refl _⟩ ?_
  refine z_lstore_n C (lv' := [(1, .long x4), (0, .ref (B0 + 3))]) rfl (by decide) rfl dX8_takeMakeSentence_14 ?_
  refine z_lload_n C rfl 0 rfl dX8_takeMakeSentence_15 ?_
  refine z_ldc2 C dX8_takeMakeSentence_16 q_623 ?_
  refine z_lif_eq C 32 (by decide) dX8_takeMakeSentence_19 dX8_takeMakeSentence_20 (fun hc => ?_) (fun hc => ?_)
  · have h := zif_t hc h
    refine z_lv [] (lv' := []) rfl ?_
    exact l_X8_takeMakeSentence_32 C hQ I5 L h
  · have h := zif_f hc h
    refine z_aload_n C rfl 1 rfl dX8_takeMakeSentence_23 ?_
    refine z_bipush C (v := 61) (by decide) dX8_takeMakeSentence_24 ?_
    obtain ⟨x7, I8, hg6, h⟩ := zb2_e h
    refine z_callV C zc_8 rfl (by decide) dX8_takeMakeSentence_26 yy_X8_takeSign (c_X8_takeSign C.2.2.2.2.1  (61 : Int32) I5 L hg6) q_624 q_626 q_6 (by decide) (by decide) rfl rfl (Nat.le_of_ble_eq_true rfl) ⟨Nat.le_refl _, Nat.le_refl _, Nat.le_refl _, Nat.le_refl _⟩ ?_
    refine z_if_ne C 34 (by decide) dX8_takeMakeSentence_29 (fun hc => ?_) (fun hc => ?_)
    · have h := zif_f hc h
      refine z_aload_n C rfl 1 rfl dX8_takeMakeSentence_34 ?_
      obtain ⟨x10, I11, hg9, h⟩ := zb2_e h
      refine z_callV C zc_8 rfl (by decide) dX8_takeMakeSentence_35 yy_X8_takeLayer (c_X8_takeLayer C.2.2.2.2.1 hQ I8 L hg9) q_641 q_643 q_9 (by decide) (by decide) rfl rfl (Nat.le_of_ble_eq_true rfl) ⟨Nat.le_refl _, Nat.le_refl _, Nat.le_refl _, Nat.le_refl _⟩ ?_
      refine z_istore_n C (lv' := [(3, .int x10), (1, .long x4), (0, .ref (B0 + 3))]) rfl (by decide) rfl dX8_takeMakeSentence_38 ?_
      refine z_iload_n C rfl 0 rfl dX8_takeMakeSentence_39 ?_
      refine z_iconst C (v := -1) (by decide) dX8_takeMakeSentence_40 ?_
      refine z_icmp_ne C 46 (by decide) dX8_takeMakeSentence_41 (fun hc => ?_) (fun hc => ?_)
      · have h := zif_f hc h
        refine z_aload_n C rfl 2 rfl dX8_takeMakeSentence_46 ?_
        obtain ⟨x13, I14, hg12, h⟩ := zb2_e h
        refine z_callV C zc_8 rfl (by decide) dX8_takeMakeSentence_47 yy_X8_takeWay (c_X8_takeWay C.2.2.2.2.1  I11 L hg12) q_649 q_651 q_11 (by decide) (by decide) rfl rfl (Nat.le_of_ble_eq_true rfl) ⟨Nat.le_refl _, Nat.le_refl _, Nat.le_refl _, Nat.le_refl _⟩ ?_
        refine z_istore C (lv' := [(4, .int x13), (3, .int x10), (1, .long x4), (0, .ref (B0 + 3))]) (by decide) rfl dX8_takeMakeSentence_50 ?_
        refine z_iload C 0 rfl dX8_takeMakeSentence_52 ?_
        refine z_iconst C (v := -1) (by decide) dX8_takeMakeSentence_54 ?_
        refine z_icmp_ne C 60 (by decide) dX8_takeMakeSentence_55 (fun hc => ?_) (fun hc => ?_)
        · have h := zif_f hc h
          refine z_aload_n C rfl 3 rfl dX8_takeMakeSentence_60 ?_
          obtain ⟨x16, I17, hg15, h⟩ := zb2_e h
          refine z_callV C zc_8 rfl (by decide) dX8_takeMakeSentence_61 yy_X8_takeLayer (c_X8_takeLayer C.2.2.2.2.1 hQ I14 L hg15) q_641 q_643 q_9 (by decide) (by decide) rfl rfl (Nat.le_of_ble_eq_true rfl) ⟨Nat.le_refl _, Nat.le_refl _, Nat.le_refl _, Nat.le_refl _⟩ ?_
          refine z_istore C (lv' := [(5, .int x16), (4, .int x13), (3, .int x10), (1, .long x4), (0, .ref (B0 + 3))]) (by decide) rfl dX8_takeMakeSentence_64 ?_
          refine z_iload C 0 rfl dX8_takeMakeSentence_66 ?_
          refine z_iconst C (v := -1) (by decide) dX8_takeMakeSentence_68 ?_
          refine z_icmp_eq C 81 (by decide) dX8_takeMakeSentence_69 (fun hc => ?_) (fun hc => ?_)
          · have h := zif_t hc h
            refine z_lv [] (lv' := []) rfl ?_
            exact l_X8_takeMakeSentence_81 C hQ I17 L h
          · have h := zif_f hc h
            refine z_aload_n C rfl 4 rfl dX8_takeMakeSentence_72 ?_
            refine z_bipush C (v := 59) (by decide) dX8_takeMakeSentence_73 ?_
            obtain ⟨x19, I20, hg18, h⟩ := zb2_e h
            refine z_callV C zc_8 rfl (by decide) dX8_takeMakeSentence_75 yy_X8_takeSign (c_X8_takeSign C.2.2.2.2.1  (59 : Int32) I17 L hg18) q_624 q_626 q_6 (by decide) (by decide) rfl rfl (Nat.le_of_ble_eq_true rfl) ⟨Nat.le_refl _, Nat.le_refl _, Nat.le_refl _, Nat.le_refl _⟩ ?_
            refine z_if_ne C 83 (by decide) dX8_takeMakeSentence_78 (fun hc => ?_) (fun hc => ?_)
            · have h := zif_f hc h
              refine z_aload_n C rfl 4 rfl dX8_takeMakeSentence_83 ?_
              obtain ⟨hb21, h⟩ := zck_e h
              refine z_getm C zc_8 dX8_takeMakeSentence_84 3 3 Q rfl (by decide) (by decide) q_249 rfl (of_decide_eq_true hb21) (zpl_lt2 hQ) ?_
              refine z_lload_n C rfl 3 rfl dX8_takeMakeSentence_87 ?_
              refine z_iload C 1 rfl dX8_takeMakeSentence_88 ?_
              refine z_iload_n C rfl 2 rfl dX8_takeMakeSentence_90 ?_
              refine z_iload C 0 rfl dX8_takeMakeSentence_91 ?_
              obtain ⟨I23, L24, hg22, h⟩ := zb2_e h
              refine z_callV C zc_7 (zpl_k hQ) (zpl_lt hQ) dX8_takeMakeSentence_93 yy_X7_addLayer (c_X7_addLayer C.2.2.2.2.1 hQ x4 x13 x10 x16 I20 L hg22) q_632 q_633 q_634 (by decide) (by decide) rfl rfl (Nat.le_of_ble_eq_true rfl) ⟨Nat.le_refl _, Nat.le_refl _, Nat.le_refl _, Nat.le_refl _⟩ ?_
              refine z_iconst C (v := 1) (by decide) dX8_takeMakeSentence_96 ?_
              obtain rfl := Option.some.inj h
              exact z_iret C dX8_takeMakeSentence_97 .boolean rfl rfl rfl
            · have h := zif_t hc h
              refine z_lv [] (lv' := []) rfl ?_
              exact l_X8_takeMakeSentence_81 C hQ I20 L h
        · have h := zif_t hc h
          refine z_iconst C (v := 0) (by decide) dX8_takeMakeSentence_58 ?_
          obtain rfl := Option.some.inj h
          exact z_iret C dX8_takeMakeSentence_59 .boolean rfl rfl rfl
      · have h := zif_t hc h
        refine z_iconst C (v := 0) (by decide) dX8_takeMakeSentence_44 ?_
        obtain rfl := Option.some.inj h
        exact z_iret C dX8_takeMakeSentence_45 .boolean rfl rfl rfl
    · have h := zif_t hc h
      refine z_lv [] (lv' := []) rfl ?_
      exact l_X8_takeMakeSentence_32 C hQ I8 L h
theorem q_660 : (Cond.code ({ cls := "DeviceFind$Reader", name := "takeWireSentence", desc := "()Z" } : Jvm.MethodName) prog_10_method_8_code (2 : Nat) (Option.some Jvm.ClassFile.FieldType.boolean)) ∈ lw_tbl := List.mem_of_getElem? (i := 660) (by decide +kernel)
theorem q_661 : (Cond.methodLink "DeviceFind$Reader" (122 : Nat) ({ cls := "DeviceFind$Plan", name := "wireOf", desc := "(I)I" } : Jvm.MethodName)) ∈ lw_tbl := List.mem_of_getElem? (i := 661) (by decide +kernel)
theorem q_662 : (Cond.instanceMethod ({ cls := "DeviceFind$Plan", name := "wireOf", desc := "(I)I" } : Jvm.MethodName)) ∈ lw_tbl := List.mem_of_getElem? (i := 662) (by decide +kernel)
theorem q_663 : (Cond.selects "DeviceFind$Plan" ({ cls := "DeviceFind$Plan", name := "wireOf", desc := "(I)I" } : Jvm.MethodName) ({ cls := "DeviceFind$Plan", name := "wireOf", desc := "(I)I" } : Jvm.MethodName)) ∈ lw_tbl := List.mem_of_getElem? (i := 663) (by decide +kernel)
theorem q_665 : (Cond.methodLink "DeviceFind$Reader" (126 : Nat) ({ cls := "DeviceFind$Plan", name := "addWire", desc := "(I)V" } : Jvm.MethodName)) ∈ lw_tbl := List.mem_of_getElem? (i := 665) (by decide +kernel)
theorem q_666 : (Cond.instanceMethod ({ cls := "DeviceFind$Plan", name := "addWire", desc := "(I)V" } : Jvm.MethodName)) ∈ lw_tbl := List.mem_of_getElem? (i := 666) (by decide +kernel)
theorem q_667 : (Cond.selects "DeviceFind$Plan" ({ cls := "DeviceFind$Plan", name := "addWire", desc := "(I)V" } : Jvm.MethodName) ({ cls := "DeviceFind$Plan", name := "addWire", desc := "(I)V" } : Jvm.MethodName)) ∈ lw_tbl := List.mem_of_getElem? (i := 667) (by decide +kernel)
theorem yy_X8_takeWireSentence : zY yX8_takeWireSentence cX8_takeWireSentence 2 (some .boolean) 0 := ⟨q_660, q_78, by decide +kernel, by decide +kernel, by decide +kernel⟩
noncomputable def f_X8_takeWireSentence_32 (Q : Nat) (I : zI) (L : zL) : Option (Int32 × zI) :=
  some ((0 : Int32), I)
noncomputable def f_X8_takeWireSentence (Q : Nat) (I : zI) (L : zL) : Option (Int32 × zI) :=
  zlt ((I 3 4) + (1 : Int32)) (fun x1 => zlt (zu I 3 4 x1) (fun I2 => zb1 (f_X8_layerAtHand Q I2 L) (fun x4 => if x4 = (-1 : Int32) then (f_X8_takeWireSentence_32 Q I2 L) else (zck (decide (I2 3 3 = nI (Q + 1))) (zb1 (f_X7_wireOf Q x4 I2) (fun x7 => if x7 = (-1 : Int32) then (zlt ((I2 3 4) + (1 : Int32)) (fun x8 => zlt (zu I2 3 4 x8) (fun I9 => zb2 (f_X8_takeSign (59 : Int32) I9 L) (fun x11 I12 => if x11 = 0 then (some ((0 : Int32), I12)) else (zck (decide (I12 3 3 = nI (Q + 1))) (zb1 (f_X7_addWire Q x4 I12) (fun I15 => some ((1 : Int32), I15)))))))) else (f_X8_takeWireSentence_32 Q I2 L)))))))
set_option maxHeartbeats 4000000 in
set_option maxRecDepth 100000 in
theorem l_X8_takeWireSentence_32 {r : Int32 × zI} (C : zC p l e R s m args below meth c s0 a0 d cy B0 yX8_takeWireSentence.cls cX8_takeWireSentence 2 (some .boolean) bc bs bc bs 2 43 []) {Q : Nat} (hQ : zpl Q) (I : zI) (L : zL) (h : f_X8_takeWireSentence_32 Q I L = some r) : zG p l e R s m args below meth c d cy B0 2 bc bs (zQ below s args d cy B0 bc bs (.inl (some (.int r.1))) zSH zKn bc bs r.2 L) 32 [] [] zSH zKn bc bs I L := by
  unfold f_X8_takeWireSentence_32 at h
  refine z_iconst C (v := 0) (by decide) dX8_takeWireSentence_32 ?_
  obtain rfl := Option.some.inj h
  exact z_iret C dX8_takeWireSentence_33 .boolean rfl rfl rfl
set_option maxHeartbeats 4000000 in
set_option maxRecDepth 100000 in
theorem c_X8_takeWireSentence {r : Int32 × zI} (hE : zE0 l s0 a0 d cy B0) {Q : Nat} (hQ : zpl Q) (I : zI) (L : zL) (h : f_X8_takeWireSentence Q I L = some r) : zM l s0 d cy B0 yX8_takeWireSentence cX8_takeWireSentence 2 (some .boolean) 2 43 [.ref (B0 + 3)] zSH zKn bc bs I L (.inl (some (.int r.1))) zSH zKn bc bs r.2 L := by
  refine z_meth yy_X8_takeWireSentence hE (Nat.le_of_ble_eq_true rfl) (fun p e R s m args below meth c C => ?_)
  show zG p l e R s m args below meth c d cy B0 2 bc bs (zQ below s args d cy B0 bc bs (.inl (some (.int r.1))) zSH zKn bc bs r.2 L) 0 [(0, .ref (B0 + 3))] [] zSH zKn bc bs I L
  unfold f_X8_takeWireSentence at h
  refine z_aload_n C rfl 0 rfl dX8_takeWireSentence_0 ?_
  refine z_dup C rfl dX8_takeWireSentence_1 ?_
  refine z_geti C zc_8 dX8_takeWireSentence_2 4 3 rfl (by decide) (by decide) q_250 rfl ?_
  refine z_iconst C (v := 1) (by decide) dX8_takeWireSentence_5 ?_
  refine z_iadd C dX8_takeWireSentence_6 ?_
  obtain ⟨x1, ex1, h⟩ := zlt_e h
  refine z_eqi C ex1 ?_
  refine z_puti C zc_8 dX8_takeWireSentence_7 4 3 rfl (by decide) (by decide) rfl q_250 rfl rfl rfl ?_
  obtain ⟨I2, eI2, h⟩ := zlt_e h
  refine z_eqI C eI2 ?_
  refine z_aload_n C rfl 0 rfl dX8_takeWireSentence_10 ?_
  obtain ⟨x4, hg3, h⟩ := zb1_e h
  refine z_callV C zc_8 rfl (by decide) dX8_takeWireSentence_11 yy_X8_layerAtHand (c_X8_layerAtHand C.2.2.2.2.1 hQ I2 L hg3) q_645 q_647 q_10 (by decide) (by decide) rfl rfl (Nat.le_of_ble_eq_true rfl) ⟨Nat.le_refl _, Nat.le_refl _, Nat.le_refl _, Nat.le_refl _⟩ ?_
  refine z_istore_n C (lv' := [(1, .int x4), (0, .ref (B0 + 3))]) rfl (by decide) rfl dX8_takeWireSentence_14 ?_
  refine z_iload_n C rfl 0 rfl dX8_takeWireSentence_15 ?_
  refine z_iconst C (v := -1) (by decide) dX8_takeWireSentence_16 ?_
  refine z_icmp_eq C 32 (by decide) dX8_takeWireSentence_17 (fun hc => ?_) (fun hc => ?_)
  · have h := zif_t hc h
    refine z_lv [] (lv' := []) rfl ?_
    exact l_X8_takeWireSentence_32 C hQ I2 L h
  · have h := zif_f hc h
    refine z_aload_n C rfl 1 rfl dX8_takeWireSentence_20 ?_
    obtain ⟨hb5, h⟩ := zck_e h
    refine z_getm C zc_8 dX8_takeWireSentence_21 3 3 Q rfl (by decide) (by decide) q_249 rfl (of_decide_eq_true hb5) (zpl_lt2 hQ) ?_
    refine z_iload_n C rfl 0 rfl dX8_takeWireSentence_24 ?_
    obtain ⟨x7, hg6, h⟩ := zb1_e h
    refine z_callV C zc_7 (zpl_k hQ) (zpl_lt hQ) dX8_takeWireSentence_25 yy_X7_wireOf (c_X7_wireOf C.2.2.2.2.1 hQ x4 I2 L hg6) q_661 q_662 q_663 (by decide) (by decide) rfl rfl (Nat.le_of_ble_eq_true rfl) ⟨Nat.le_refl _, Nat.le_refl _, Nat.le_refl _, Nat.le_refl _⟩ ?_
    refine z_iconst C (v := -1) (by decide) dX8_takeWireSentence_28 ?_
    refine z_icmp_eq C 34 (by decide) dX8_takeWireSentence_29 (fun hc => ?_) (fun hc => ?_)
    · have h := zif_t hc h
      refine z_aload_n C rfl 1 rfl dX8_takeWireSentence_34 ?_
      refine z_dup C rfl dX8_takeWireSentence_35 ?_
      refine z_geti C zc_8 dX8_takeWireSentence_36 4 3 rfl (by decide) (by decide) q_250 rfl ?_
      refine z_iconst C (v := 1) (by decide) dX8_takeWireSentence_39 ?_
      refine z_iadd C dX8_takeWireSentence_40 ?_
      obtain ⟨x8, ex8, h⟩ := zlt_e h
      refine z_eqi C ex8 ?_
      refine z_puti C zc_8 dX8_takeWireSentence_41 4 3 rfl (by decide) (by decide) rfl q_250 rfl rfl rfl ?_
      obtain ⟨I9, eI9, h⟩ := zlt_e h
      refine z_eqI C eI9 ?_
      refine z_aload_n C rfl 1 rfl dX8_takeWireSentence_44 ?_
      refine z_bipush C (v := 59) (by decide) dX8_takeWireSentence_45 ?_
      obtain ⟨x11, I12, hg10, h⟩ := zb2_e h
      refine z_callV C zc_8 rfl (by decide) dX8_takeWireSentence_47 yy_X8_takeSign (c_X8_takeSign C.2.2.2.2.1  (59 : Int32) I9 L hg10) q_624 q_626 q_6 (by decide) (by decide) rfl rfl (Nat.le_of_ble_eq_true rfl) ⟨Nat.le_refl _, Nat.le_refl _, Nat.le_refl _, Nat.le_refl _⟩ ?_
      refine z_if_ne C 55 (by decide) dX8_takeWireSentence_50 (fun hc => ?_) (fun hc => ?_)
      · have h := zif_f hc h
        refine z_aload_n C rfl 1 rfl dX8_takeWireSentence_55 ?_
        obtain ⟨hb13, h⟩ := zck_e h
        refine z_getm C zc_8 dX8_takeWireSentence_56 3 3 Q rfl (by decide) (by decide) q_249 rfl (of_decide_eq_true hb13) (zpl_lt2 hQ) ?_
        refine z_iload_n C rfl 0 rfl dX8_takeWireSentence_59 ?_
        obtain ⟨I15, hg14, h⟩ := zb1_e h
        refine z_callV C zc_7 (zpl_k hQ) (zpl_lt hQ) dX8_takeWireSentence_60 yy_X7_addWire (c_X7_addWire C.2.2.2.2.1 hQ x4 I12 L hg14) q_665 q_666 q_667 (by decide) (by decide) rfl rfl (Nat.le_of_ble_eq_true rfl) ⟨Nat.le_refl _, Nat.le_refl _, Nat.le_refl _, Nat.le_refl _⟩ ?_
        refine z_iconst C (v := 1) (by decide) dX8_takeWireSentence_63 ?_
        obtain rfl := Option.some.inj h
        exact z_iret C dX8_takeWireSentence_64 .boolean rfl rfl rfl
      · have h := zif_t hc h
        refine z_iconst C (v := 0) (by decide) dX8_takeWireSentence_53 ?_
        obtain rfl := Option.some.inj h
        exact z_iret C dX8_takeWireSentence_54 .boolean rfl rfl rfl
    · have h := zif_f hc h
      refine z_lv [] (lv' := []) rfl ?_
      exact l_X8_takeWireSentence_32 C hQ I2 L h
theorem q_677 : (Cond.code ({ cls := "DeviceFind$Reader", name := "takeWire", desc := "()I" } : Jvm.MethodName) prog_10_method_15_code (3 : Nat) (Option.some Jvm.ClassFile.FieldType.int)) ∈ lw_tbl := List.mem_of_getElem? (i := 677) (by decide +kernel)
theorem yy_X8_takeWire : zY yX8_takeWire cX8_takeWire 3 (some .int) 0 := ⟨q_677, q_78, by decide +kernel, by decide +kernel, by decide +kernel⟩
noncomputable def f_X8_takeWire_38 (Q : Nat) (v2 : Int32) (I : zI) (L : zL) : Option (Int32 × zI) :=
  some (v2, I)
noncomputable def f_X8_takeWire_22 (Q : Nat) (w0 : Int32) (I : zI) (L : zL) : Option (Int32 × zI) :=
  if w0 = (-1 : Int32) then (f_X8_takeWire_38 Q w0 I L) else (zlt ((I 3 4) + (1 : Int32)) (fun x6 => zlt (zu I 3 4 x6) (fun I7 => f_X8_takeWire_38 Q w0 I7 L)))
noncomputable def f_X8_takeWire (Q : Nat) (I : zI) (L : zL) : Option (Int32 × zI) :=
  zb1 (f_X8_layerAtHand Q I L) (fun x2 => if x2 = (-1 : Int32) then (f_X8_takeWire_22 Q (-1 : Int32) I L) else (zck (decide (I 3 3 = nI (Q + 1))) (zb1 (f_X7_wireOf Q x2 I) (fun x5 => f_X8_takeWire_22 Q x5 I L))))
set_option maxHeartbeats 4000000 in
set_option maxRecDepth 100000 in
theorem l_X8_takeWire_38 {r : Int32 × zI} (C : zC p l e R s m args below meth c s0 a0 d cy B0 yX8_takeWire.cls cX8_takeWire 3 (some .int) bc bs bc bs 2 43 []) {Q : Nat} (hQ : zpl Q) (v2 : Int32) (I : zI) (L : zL) (h : f_X8_takeWire_38 Q v2 I L = some r) : zG p l e R s m args below meth c d cy B0 3 bc bs (zQ below s args d cy B0 bc bs (.inl (some (.int r.1))) zSH zKn bc bs r.2 L) 38 [(2, .int v2)] [] zSH zKn bc bs I L := by
  unfold f_X8_takeWire_38 at h
  refine z_iload_n C rfl 0 rfl dX8_takeWire_38 ?_
  obtain rfl := Option.some.inj h
  exact z_iret C dX8_takeWire_39 .int rfl rfl rfl
set_option maxHeartbeats 4000000 in
set_option maxRecDepth 100000 in
theorem l_X8_takeWire_22 {r : Int32 × zI} (C : zC p l e R s m args below meth c s0 a0 d cy B0 yX8_takeWire.cls cX8_takeWire 3 (some .int) bc bs bc bs 2 43 []) {Q : Nat} (hQ : zpl Q) (w0 : Int32) (I : zI) (L : zL) (h : f_X8_takeWire_22 Q w0 I L = some r) : zG p l e R s m args below meth c d cy B0 3 bc bs (zQ below s args d cy B0 bc bs (.inl (some (.int r.1))) zSH zKn bc bs r.2 L) 22 [(0, .ref (B0 + 3))] [.int w0] zSH zKn bc bs I L := by
  unfold f_X8_takeWire_22 at h
  refine z_istore_n C (lv' := [(2, .int w0), (0, .ref (B0 + 3))]) rfl (by decide) rfl dX8_takeWire_22 ?_
  refine z_iload_n C rfl 0 rfl dX8_takeWire_23 ?_
  refine z_iconst C (v := -1) (by decide) dX8_takeWire_24 ?_
  refine z_icmp_eq C 38 (by decide) dX8_takeWire_25 (fun hc => ?_) (fun hc => ?_)
  · have h := zif_t hc h
    refine z_lv [0] (lv' := [(2, .int w0)]) rfl ?_
    exact l_X8_takeWire_38 C hQ w0 I L h
  · have h := zif_f hc h
    refine z_aload_n C rfl 1 rfl dX8_takeWire_28 ?_
    refine z_dup C rfl dX8_takeWire_29 ?_
    refine z_geti C zc_8 dX8_takeWire_30 4 3 rfl (by decide) (by decide) q_250 rfl ?_
    refine z_iconst C (v := 1) (by decide) dX8_takeWire_33 ?_
    refine z_iadd C dX8_takeWire_34 ?_
    obtain ⟨x6, ex6, h⟩ := zlt_e h
    refine z_eqi C ex6 ?_
    refine z_puti C zc_8 dX8_takeWire_35 4 3 rfl (by decide) (by decide) rfl q_250 rfl rfl rfl ?_
    obtain ⟨I7, eI7, h⟩ := zlt_e h
    refine z_eqI C eI7 ?_
    refine z_lv [0] (lv' := [(2, .int w0)]) rfl ?_
    exact l_X8_takeWire_38 C hQ w0 I7 L h
set_option maxHeartbeats 4000000 in
set_option maxRecDepth 100000 in
theorem c_X8_takeWire {r : Int32 × zI} (hE : zE0 l s0 a0 d cy B0) {Q : Nat} (hQ : zpl Q) (I : zI) (L : zL) (h : f_X8_takeWire Q I L = some r) : zM l s0 d cy B0 yX8_takeWire cX8_takeWire 3 (some .int) 2 43 [.ref (B0 + 3)] zSH zKn bc bs I L (.inl (some (.int r.1))) zSH zKn bc bs r.2 L := by
  refine z_meth yy_X8_takeWire hE (Nat.le_of_ble_eq_true rfl) (fun p e R s m args below meth c C => ?_)
  show zG p l e R s m args below meth c d cy B0 3 bc bs (zQ below s args d cy B0 bc bs (.inl (some (.int r.1))) zSH zKn bc bs r.2 L) 0 [(0, .ref (B0 + 3))] [] zSH zKn bc bs I L
  unfold f_X8_takeWire at h
  refine z_aload_n C rfl 0 rfl dX8_takeWire_0 ?_
  obtain ⟨x2, hg1, h⟩ := zb1_e h
  refine z_callV C zc_8 rfl (by decide) dX8_takeWire_1 yy_X8_layerAtHand (c_X8_layerAtHand C.2.2.2.2.1 hQ I L hg1) q_645 q_647 q_10 (by decide) (by decide) rfl rfl (Nat.le_of_ble_eq_true rfl) ⟨Nat.le_refl _, Nat.le_refl _, Nat.le_refl _, Nat.le_refl _⟩ ?_
  refine z_istore_n C (lv' := [(1, .int x2), (0, .ref (B0 + 3))]) rfl (by decide) rfl dX8_takeWire_4 ?_
  refine z_iload_n C rfl 0 rfl dX8_takeWire_5 ?_
  refine z_iconst C (v := -1) (by decide) dX8_takeWire_6 ?_
  refine z_icmp_ne C 14 (by decide) dX8_takeWire_7 (fun hc => ?_) (fun hc => ?_)
  · have h := zif_f hc h
    refine z_aload_n C rfl 1 rfl dX8_takeWire_14 ?_
    obtain ⟨hb3, h⟩ := zck_e h
    refine z_getm C zc_8 dX8_takeWire_15 3 3 Q rfl (by decide) (by decide) q_249 rfl (of_decide_eq_true hb3) (zpl_lt2 hQ) ?_
    refine z_iload_n C rfl 0 rfl dX8_takeWire_18 ?_
    obtain ⟨x5, hg4, h⟩ := zb1_e h
    refine z_callV C zc_7 (zpl_k hQ) (zpl_lt hQ) dX8_takeWire_19 yy_X7_wireOf (c_X7_wireOf C.2.2.2.2.1 hQ x2 I L hg4) q_661 q_662 q_663 (by decide) (by decide) rfl rfl (Nat.le_of_ble_eq_true rfl) ⟨Nat.le_refl _, Nat.le_refl _, Nat.le_refl _, Nat.le_refl _⟩ ?_
    refine z_lv [1] (lv' := [(0, .ref (B0 + 3))]) rfl ?_
    exact l_X8_takeWire_22 C hQ x5 I L h
  · have h := zif_t hc h
    refine z_iconst C (v := -1) (by decide) dX8_takeWire_10 ?_
    refine z_goto C 22 (by decide) dX8_takeWire_11 ?_
    refine z_lv [1] (lv' := [(0, .ref (B0 + 3))]) rfl ?_
    exact l_X8_takeWire_22 C hQ (-1 : Int32) I L h
theorem q_682 : (Cond.code ({ cls := "DeviceFind$Reader", name := "takeWord", desc := "(Ljava/lang/String;)Z" } : Jvm.MethodName) prog_10_method_18_code (2 : Nat) (Option.some Jvm.ClassFile.FieldType.boolean)) ∈ lw_tbl := List.mem_of_getElem? (i := 682) (by decide +kernel)
theorem yy_X8_takeWord : zY yX8_takeWord cX8_takeWord 2 (some .boolean) 1 := ⟨q_682, q_78, by decide +kernel, by decide +kernel, by decide +kernel⟩
noncomputable def f_X8_takeWord (t1 : Nat) (I : zI) (L : zL) : Option (Int32 × zI) :=
  zb1 (f_X8_isWord t1 I L) (fun x2 => if x2 = 0 then (some ((0 : Int32), I)) else (zlt ((I 3 4) + (1 : Int32)) (fun x3 => zlt (zu I 3 4 x3) (fun I4 => some ((1 : Int32), I4)))))
set_option maxHeartbeats 4000000 in
set_option maxRecDepth 100000 in
theorem c_X8_takeWord {r : Int32 × zI} (hE : zE0 l s0 a0 d cy B0) {t1 : Nat} (ht1 : t1 < 10) (I : zI) (L : zL) (h : f_X8_takeWord t1 I L = some r) : zM l s0 d cy B0 yX8_takeWord cX8_takeWord 2 (some .boolean) 7 150 [.ref (B0 + 3), .ref (cy (10 + t1))] zSH zKn bc bs I L (.inl (some (.int r.1))) zSH zKn bc bs r.2 L := by
  refine z_meth yy_X8_takeWord hE (Nat.le_of_ble_eq_true rfl) (fun p e R s m args below meth c C => ?_)
  show zG p l e R s m args below meth c d cy B0 2 bc bs (zQ below s args d cy B0 bc bs (.inl (some (.int r.1))) zSH zKn bc bs r.2 L) 0 [(0, .ref (B0 + 3)), (1, .ref (cy (10 + t1)))] [] zSH zKn bc bs I L
  unfold f_X8_takeWord at h
  refine z_aload_n C rfl 0 rfl dX8_takeWord_0 ?_
  refine z_aload_n C rfl 1 rfl dX8_takeWord_1 ?_
  obtain ⟨x2, hg1, h⟩ := zb1_e h
  refine z_callV C zc_8 rfl (by decide) dX8_takeWord_2 yy_X8_isWord (c_X8_isWord C.2.2.2.2.1 ht1 I L hg1) q_556 q_558 q_3 (by decide) (by decide) rfl rfl (Nat.le_of_ble_eq_true rfl) ⟨Nat.le_refl _, Nat.le_refl _, Nat.le_refl _, Nat.le_refl _⟩ ?_
  refine z_if_ne C 10 (by decide) dX8_takeWord_5 (fun hc => ?_) (fun hc => ?_)
  · have h := zif_f hc h
    refine z_aload_n C rfl 0 rfl dX8_takeWord_10 ?_
    refine z_dup C rfl dX8_takeWord_11 ?_
    refine z_geti C zc_8 dX8_takeWord_12 4 3 rfl (by decide) (by decide) q_250 rfl ?_
    refine z_iconst C (v := 1) (by decide) dX8_takeWord_15 ?_
    refine z_iadd C dX8_takeWord_16 ?_
    obtain ⟨x3, ex3, h⟩ := zlt_e h
    refine z_eqi C ex3 ?_
    refine z_puti C zc_8 dX8_takeWord_17 4 3 rfl (by decide) (by decide) rfl q_250 rfl rfl rfl ?_
    obtain ⟨I4, eI4, h⟩ := zlt_e h
    refine z_eqI C eI4 ?_
    refine z_iconst C (v := 1) (by decide) dX8_takeWord_20 ?_
    obtain rfl := Option.some.inj h
    exact z_iret C dX8_takeWord_21 .boolean rfl rfl rfl
  · have h := zif_t hc h
    refine z_iconst C (v := 0) (by decide) dX8_takeWord_8 ?_
    obtain rfl := Option.some.inj h
    exact z_iret C dX8_takeWord_9 .boolean rfl rfl rfl
theorem q_14 : Cond.selects "DeviceFind$Reader" ⟨"DeviceFind$Reader", "takeWire", "()I"⟩ ⟨"DeviceFind$Reader", "takeWire", "()I"⟩ ∈ lw_tbl := List.mem_of_getElem? (i := 14) (by decide +kernel)
theorem q_15 : Cond.selects "DeviceFind$Reader" ⟨"DeviceFind$Reader", "takeWord", "(Ljava/lang/String;)Z"⟩ ⟨"DeviceFind$Reader", "takeWord", "(Ljava/lang/String;)Z"⟩ ∈ lw_tbl := List.mem_of_getElem? (i := 15) (by decide +kernel)
theorem q_673 : (Cond.code ({ cls := "DeviceFind$Reader", name := "takeJoinSentence", desc := "()Z" } : Jvm.MethodName) prog_10_method_9_code (4 : Nat) (Option.some Jvm.ClassFile.FieldType.boolean)) ∈ lw_tbl := List.mem_of_getElem? (i := 673) (by decide +kernel)
theorem q_674 : (Cond.methodLink "DeviceFind$Reader" (130 : Nat) ({ cls := "DeviceFind$Reader", name := "takeWire", desc := "()I" } : Jvm.MethodName)) ∈ lw_tbl := List.mem_of_getElem? (i := 674) (by decide +kernel)
theorem q_676 : (Cond.instanceMethod ({ cls := "DeviceFind$Reader", name := "takeWire", desc := "()I" } : Jvm.MethodName)) ∈ lw_tbl := List.mem_of_getElem? (i := 676) (by decide +kernel)
theorem q_679 : (Cond.methodLink "DeviceFind$Reader" (135 : Nat) ({ cls := "DeviceFind$Reader", name := "takeWord", desc := "(Ljava/lang/String;)Z" } : Jvm.MethodName)) ∈ lw_tbl := List.mem_of_getElem? (i := 679) (by decide +kernel)
theorem q_681 : (Cond.instanceMethod ({ cls := "DeviceFind$Reader", name := "takeWord", desc := "(Ljava/lang/String;)Z" } : Jvm.MethodName)) ∈ lw_tbl := List.mem_of_getElem? (i := 681) (by decide +kernel)
theorem q_683 : (Cond.methodLink "DeviceFind$Reader" (138 : Nat) ({ cls := "DeviceFind$Plan", name := "addJoin", desc := "(III)V" } : Jvm.MethodName)) ∈ lw_tbl := List.mem_of_getElem? (i := 683) (by decide +kernel)
theorem q_684 : (Cond.instanceMethod ({ cls := "DeviceFind$Plan", name := "addJoin", desc := "(III)V" } : Jvm.MethodName)) ∈ lw_tbl := List.mem_of_getElem? (i := 684) (by decide +kernel)
theorem q_685 : (Cond.selects "DeviceFind$Plan" ({ cls := "DeviceFind$Plan", name := "addJoin", desc := "(III)V" } : Jvm.MethodName) ({ cls := "DeviceFind$Plan", name := "addJoin", desc := "(III)V" } : Jvm.MethodName)) ∈ lw_tbl := List.mem_of_getElem? (i := 685) (by decide +kernel)
theorem yy_X8_takeJoinSentence : zY yX8_takeJoinSentence cX8_takeJoinSentence 4 (some .boolean) 0 := ⟨q_673, q_78, by decide +kernel, by decide +kernel, by decide +kernel⟩
noncomputable def f_X8_takeJoinSentence_41 (Q : Nat) (I : zI) (L : zL) : Option (Int32 × zI) :=
  some ((0 : Int32), I)
noncomputable def f_X8_takeJoinSentence_62 (Q : Nat) (I : zI) (L : zL) : Option (Int32 × zI) :=
  some ((0 : Int32), I)
noncomputable def f_X8_takeJoinSentence (Q : Nat) (I : zI) (L : zL) : Option (Int32 × zI) :=
  zlt ((I 3 4) + (1 : Int32)) (fun x1 => zlt (zu I 3 4 x1) (fun I2 => zb2 (f_X8_takeWire Q I2 L) (fun x4 I5 => if x4 = (-1 : Int32) then (some ((0 : Int32), I5)) else (zb2 (f_X8_takeWire Q I5 L) (fun x7 I8 => if x7 = (-1 : Int32) then (f_X8_takeJoinSentence_41 Q I8 L) else (zb2 (f_X8_takeWord 7 I8 L) (fun x10 I11 => if x10 = 0 then (f_X8_takeJoinSentence_41 Q I11 L) else (zb2 (f_X8_takeLayer Q I11 L) (fun x13 I14 => if x13 = (-1 : Int32) then (f_X8_takeJoinSentence_62 Q I14 L) else (zb2 (f_X8_takeSign (59 : Int32) I14 L) (fun x16 I17 => if x16 = 0 then (f_X8_takeJoinSentence_62 Q I17 L) else (zck (decide (I17 3 3 = nI (Q + 1))) (zb1 (f_X7_addJoin Q x4 x7 x13 I17) (fun I20 => some ((1 : Int32), I20)))))))))))))))
set_option maxHeartbeats 4000000 in
set_option maxRecDepth 100000 in
theorem l_X8_takeJoinSentence_41 {r : Int32 × zI} (C : zC p l e R s m args below meth c s0 a0 d cy B0 yX8_takeJoinSentence.cls cX8_takeJoinSentence 4 (some .boolean) bc bs bc bs 8 171 []) {Q : Nat} (hQ : zpl Q) (I : zI) (L : zL) (h : f_X8_takeJoinSentence_41 Q I L = some r) : zG p l e R s m args below meth c d cy B0 4 bc bs (zQ below s args d cy B0 bc bs (.inl (some (.int r.1))) zSH zKn bc bs r.2 L) 41 [] [] zSH zKn bc bs I L := by
  unfold f_X8_takeJoinSentence_41 at h
  refine z_iconst C (v := 0) (by decide) dX8_takeJoinSentence_41 ?_
  obtain rfl := Option.some.inj h
  exact z_iret C dX8_takeJoinSentence_42 .boolean rfl rfl rfl
set_option maxHeartbeats 4000000 in
set_option maxRecDepth 100000 in
theorem l_X8_takeJoinSentence_62 {r : Int32 × zI} (C : zC p l e R s m args below meth c s0 a0 d cy B0 yX8_takeJoinSentence.cls cX8_takeJoinSentence 4 (some .boolean) bc bs bc bs 8 171 []) {Q : Nat} (hQ : zpl Q) (I : zI) (L : zL) (h : f_X8_takeJoinSentence_62 Q I L = some r) : zG p l e R s m args below meth c d cy B0 4 bc bs (zQ below s args d cy B0 bc bs (.inl (some (.int r.1))) zSH zKn bc bs r.2 L) 62 [] [] zSH zKn bc bs I L := by
  unfold f_X8_takeJoinSentence_62 at h
  refine z_iconst C (v := 0) (by decide) dX8_takeJoinSentence_62 ?_
  obtain rfl := Option.some.inj h
  exact z_iret C dX8_takeJoinSentence_63 .boolean rfl rfl rfl
set_option maxHeartbeats 4000000 in
set_option maxRecDepth 100000 in
theorem c_X8_takeJoinSentence {r : Int32 × zI} (hE : zE0 l s0 a0 d cy B0) {Q : Nat} (hQ : zpl Q) (I : zI) (L : zL) (h : f_X8_takeJoinSentence Q I L = some r) : zM l s0 d cy B0 yX8_takeJoinSentence cX8_takeJoinSentence 4 (some .boolean) 8 171 [.ref (B0 + 3)] zSH zKn bc bs I L (.inl (some (.int r.1))) zSH zKn bc bs r.2 L := by
  refine z_meth yy_X8_takeJoinSentence hE (Nat.le_of_ble_eq_true rfl) (fun p e R s m args below meth c C => ?_)
  show zG p l e R s m args below meth c d cy B0 4 bc bs (zQ below s args d cy B0 bc bs (.inl (some (.int r.1))) zSH zKn bc bs r.2 L) 0 [(0, .ref (B0 + 3))] [] zSH zKn bc bs I L
  unfold f_X8_takeJoinSentence at h
  refine z_aload_n C rfl 0 rfl dX8_takeJoinSentence_0 ?_
  refine z_dup C rfl dX8_takeJoinSentence_1 ?_
  refine z_geti C zc_8 dX8_takeJoinSentence_2 4 3 rfl (by decide) (by decide) q_250 rfl ?_
  refine z_iconst C (v := 1) (by decide) dX8_takeJoinSentence_5 ?_
  refine z_iadd C dX8_takeJoinSentence_6 ?_
  obtain ⟨x1, ex1, h⟩ := zlt_e h
  refine z_eqi C ex1 ?_
  refine z_puti C zc_8 dX8_takeJoinSentence_7 4 3 rfl (by decide) (by decide) rfl q_250 rfl rfl rfl ?_
  obtain ⟨I2, eI2, h⟩ := zlt_e h
  refine z_eqI C eI2 ?_
  refine z_aload_n C rfl 0 rfl dX8_takeJoinSentence_10 ?_
  obtain ⟨x4, I5, hg3, h⟩ := zb2_e h
  refine z_callV C zc_8 rfl (by decide) dX8_takeJoinSentence_11 yy_X8_takeWire (c_X8_takeWire C.2.2.2.2.1 hQ I2 L hg3) q_674 q_676 q_14 (by decide) (by decide) rfl rfl (Nat.le_of_ble_eq_true rfl) ⟨Nat.le_refl _, Nat.le_refl _, Nat.le_refl _, Nat.le_refl _⟩ ?_
  refine z_istore_n C (lv' := [(1, .int x4), (0, .ref (B0 + 3))]) rfl (by decide) rfl dX8_takeJoinSentence_14 ?_
  refine z_iload_n C rfl 0 rfl dX8_takeJoinSentence_15 ?_
  refine z_iconst C (v := -1) (by decide) dX8_takeJoinSentence_16 ?_
  refine z_icmp_ne C 22 (by decide) dX8_takeJoinSentence_17 (fun hc => ?_) (fun hc => ?_)
  · have h := zif_f hc h
    refine z_aload_n C rfl 1 rfl dX8_takeJoinSentence_22 ?_
    obtain ⟨x7, I8, hg6, h⟩ := zb2_e h
    refine z_callV C zc_8 rfl (by decide) dX8_takeJoinSentence_23 yy_X8_takeWire (c_X8_takeWire C.2.2.2.2.1 hQ I5 L hg6) q_674 q_676 q_14 (by decide) (by decide) rfl rfl (Nat.le_of_ble_eq_true rfl) ⟨Nat.le_refl _, Nat.le_refl _, Nat.le_refl _, Nat.le_refl _⟩ ?_
    refine z_istore_n C (lv' := [(2, .int x7), (1, .int x4), (0, .ref (B0 + 3))]) rfl (by decide) rfl dX8_takeJoinSentence_26 ?_
    refine z_iload_n C rfl 0 rfl dX8_takeJoinSentence_27 ?_
    refine z_iconst C (v := -1) (by decide) dX8_takeJoinSentence_28 ?_
    refine z_icmp_eq C 41 (by decide) dX8_takeJoinSentence_29 (fun hc => ?_) (fun hc => ?_)
    · have h := zif_t hc h
      refine z_lv [] (lv' := []) rfl ?_
      exact l_X8_takeJoinSentence_41 C hQ I8 L h
    · have h := zif_f hc h
      refine z_aload_n C rfl 2 rfl dX8_takeJoinSentence_32 ?_
      refine z_ldcS C 7 (by decide) rfl rfl dX8_takeJoinSentence_33 ?_
      obtain ⟨x10, I11, hg9, h⟩ := zb2_e h
      refine z_callV C zc_8 rfl (by decide) dX8_takeJoinSentence_35 yy_X8_takeWord (c_X8_takeWord C.2.2.2.2.1 (by decide) I8 L hg9) q_679 q_681 q_15 (by decide) (by decide) rfl rfl (Nat.le_of_ble_eq_true rfl) ⟨Nat.le_refl _, Nat.le_refl _, Nat.le_refl _, Nat.le_refl _⟩ ?_
      refine z_if_ne C 43 (by decide) dX8_takeJoinSentence_38 (fun hc => ?_) (fun hc => ?_)
      · have h := zif_f hc h
        refine z_aload_n C rfl 2 rfl dX8_takeJoinSentence_43 ?_
        obtain ⟨x13, I14, hg12, h⟩ := zb2_e h
        refine z_callV C zc_8 rfl (by decide) dX8_takeJoinSentence_44 yy_X8_takeLayer (c_X8_takeLayer C.2.2.2.2.1 hQ I11 L hg12) q_641 q_643 q_9 (by decide) (by decide) rfl rfl (Nat.le_of_ble_eq_true rfl) ⟨Nat.le_refl _, Nat.le_refl _, Nat.le_refl _, Nat.le_refl _⟩ ?_
        refine z_istore_n C (lv' := [(3, .int x13), (2, .int x7), (1, .int x4), (0, .ref (B0 + 3))]) rfl (by decide) rfl dX8_takeJoinSentence_47 ?_
        refine z_iload_n C rfl 0 rfl dX8_takeJoinSentence_48 ?_
        refine z_iconst C (v := -1) (by decide) dX8_takeJoinSentence_49 ?_
        refine z_icmp_eq C 62 (by decide) dX8_takeJoinSentence_50 (fun hc => ?_) (fun hc => ?_)
        · have h := zif_t hc h
          refine z_lv [] (lv' := []) rfl ?_
          exact l_X8_takeJoinSentence_62 C hQ I14 L h
        · have h := zif_f hc h
          refine z_aload_n C rfl 3 rfl dX8_takeJoinSentence_53 ?_
          refine z_bipush C (v := 59) (by decide) dX8_takeJoinSentence_54 ?_
          obtain ⟨x16, I17, hg15, h⟩ := zb2_e h
          refine z_callV C zc_8 rfl (by decide) dX8_takeJoinSentence_56 yy_X8_takeSign (c_X8_takeSign C.2.2.2.2.1  (59 : Int32) I14 L hg15) q_624 q_626 q_6 (by decide) (by decide) rfl rfl (Nat.le_of_ble_eq_true rfl) ⟨Nat.le_refl _, Nat.le_refl _, Nat.le_refl _, Nat.le_refl _⟩ ?_
          refine z_if_ne C 64 (by decide) dX8_takeJoinSentence_59 (fun hc => ?_) (fun hc => ?_)
          · have h := zif_f hc h
            refine z_aload_n C rfl 3 rfl dX8_takeJoinSentence_64 ?_
            obtain ⟨hb18, h⟩ := zck_e h
            refine z_getm C zc_8 dX8_takeJoinSentence_65 3 3 Q rfl (by decide) (by decide) q_249 rfl (of_decide_eq_true hb18) (zpl_lt2 hQ) ?_
            refine z_iload_n C rfl 2 rfl dX8_takeJoinSentence_68 ?_
            refine z_iload_n C rfl 1 rfl dX8_takeJoinSentence_69 ?_
            refine z_iload_n C rfl 0 rfl dX8_takeJoinSentence_70 ?_
            obtain ⟨I20, hg19, h⟩ := zb1_e h
            refine z_callV C zc_7 (zpl_k hQ) (zpl_lt hQ) dX8_takeJoinSentence_71 yy_X7_addJoin (c_X7_addJoin C.2.2.2.2.1 hQ x4 x7 x13 I17 L hg19) q_683 q_684 q_685 (by decide) (by decide) rfl rfl (Nat.le_of_ble_eq_true rfl) ⟨Nat.le_refl _, Nat.le_refl _, Nat.le_refl _, Nat.le_refl _⟩ ?_
            refine z_iconst C (v := 1) (by decide) dX8_takeJoinSentence_74 ?_
            obtain rfl := Option.some.inj h
            exact z_iret C dX8_takeJoinSentence_75 .boolean rfl rfl rfl
          · have h := zif_t hc h
            refine z_lv [] (lv' := []) rfl ?_
            exact l_X8_takeJoinSentence_62 C hQ I17 L h
      · have h := zif_t hc h
        refine z_lv [] (lv' := []) rfl ?_
        exact l_X8_takeJoinSentence_41 C hQ I11 L h
  · have h := zif_t hc h
    refine z_iconst C (v := 0) (by decide) dX8_takeJoinSentence_20 ?_
    obtain rfl := Option.some.inj h
    exact z_iret C dX8_takeJoinSentence_21 .boolean rfl rfl rfl
theorem q_695 : (Cond.code ({ cls := "DeviceFind$Reader", name := "takeNewKind", desc := "()J" } : Jvm.MethodName) prog_10_method_13_code (1 : Nat) (Option.some Jvm.ClassFile.FieldType.long)) ∈ lw_tbl := List.mem_of_getElem? (i := 695) (by decide +kernel)
theorem q_696 : (Cond.methodLink "DeviceFind$Reader" (165 : Nat) ({ cls := "DeviceFind$Plan", name := "hasKind", desc := "(J)Z" } : Jvm.MethodName)) ∈ lw_tbl := List.mem_of_getElem? (i := 696) (by decide +kernel)
theorem q_697 : (Cond.instanceMethod ({ cls := "DeviceFind$Plan", name := "hasKind", desc := "(J)Z" } : Jvm.MethodName)) ∈ lw_tbl := List.mem_of_getElem? (i := 697) (by decide +kernel)
theorem q_698 : (Cond.selects "DeviceFind$Plan" ({ cls := "DeviceFind$Plan", name := "hasKind", desc := "(J)Z" } : Jvm.MethodName) ({ cls := "DeviceFind$Plan", name := "hasKind", desc := "(J)Z" } : Jvm.MethodName)) ∈ lw_tbl := List.mem_of_getElem? (i := 698) (by decide +kernel)
theorem yy_X8_takeNewKind : zY yX8_takeNewKind cX8_takeNewKind 1 (some .long) 0 := ⟨q_695, q_78, by decide +kernel, by decide +kernel, by decide +kernel⟩
noncomputable def f_X8_takeNewKind_38 (Q : Nat) (I : zI) (L : zL) : Option (Int64 × zI) :=
  some ((-1 : Int64), I)
noncomputable def f_X8_takeNewKind (Q : Nat) (I : zI) (L : zL) : Option (Int64 × zI) :=
  zlt (I 3 4) (fun x1 => zck (zbd x1 801) (if (I 5 x1.toNatClampNeg) = (1 : Int32) then (zck (decide (I 3 3 = nI (Q + 1))) (zlt (I 3 4) (fun x4 => zck (zbd x4 801) (zb1 (f_X7_hasKind Q (L 6 x4.toNatClampNeg) I L) (fun x7 => if x7 = 0 then (zlt ((I 3 4) + (1 : Int32)) (fun x8 => zlt (zu I 3 4 x8) (fun I9 => zlt ((I9 3 4) - (1 : Int32)) (fun x10 => zck (zbd x10 801) (zlt (L 6 x10.toNatClampNeg) (fun x12 => some (x12, I9))))))) else (f_X8_takeNewKind_38 Q I L)))))) else (f_X8_takeNewKind_38 Q I L)))
set_option maxHeartbeats 4000000 in
set_option maxRecDepth 100000 in
theorem l_X8_takeNewKind_38 {r : Int64 × zI} (C : zC p l e R s m args below meth c s0 a0 d cy B0 yX8_takeNewKind.cls cX8_takeNewKind 1 (some .long) bc bs bc bs 1 23 []) {Q : Nat} (hQ : zpl Q) (I : zI) (L : zL) (h : f_X8_takeNewKind_38 Q I L = some r) : zG p l e R s m args below meth c d cy B0 1 bc bs (zQ below s args d cy B0 bc bs (.inl (some (.long r.1))) zSH zKn bc bs r.2 L) 38 [] [] zSH zKn bc bs I L := by
  unfold f_X8_takeNewKind_38 at h
  refine z_ldc2 C dX8_takeNewKind_38 q_623 ?_
  obtain rfl := Option.some.inj h
  exact z_lret C dX8_takeNewKind_41 rfl rfl
set_option maxHeartbeats 4000000 in
set_option maxRecDepth 100000 in
theorem c_X8_takeNewKind {r : Int64 × zI} (hE : zE0 l s0 a0 d cy B0) {Q : Nat} (hQ : zpl Q) (I : zI) (L : zL) (h : f_X8_takeNewKind Q I L = some r) : zM l s0 d cy B0 yX8_takeNewKind cX8_takeNewKind 1 (some .long) 1 23 [.ref (B0 + 3)] zSH zKn bc bs I L (.inl (some (.long r.1))) zSH zKn bc bs r.2 L := by
  refine z_meth yy_X8_takeNewKind hE (Nat.le_of_ble_eq_true rfl) (fun p e R s m args below meth c C => ?_)
  show zG p l e R s m args below meth c d cy B0 1 bc bs (zQ below s args d cy B0 bc bs (.inl (some (.long r.1))) zSH zKn bc bs r.2 L) 0 [(0, .ref (B0 + 3))] [] zSH zKn bc bs I L
  unfold f_X8_takeNewKind at h
  refine z_aload_n C rfl 0 rfl dX8_takeNewKind_0 ?_
  refine z_getr C zc_8 dX8_takeNewKind_1 2 3 4 rfl (by decide) (by decide) q_248 rfl rfl ?_
  refine z_getr C zc_10 dX8_takeNewKind_4 0 4 5 rfl (by decide) (by decide) q_148 rfl rfl ?_
  refine z_aload_n C rfl 0 rfl dX8_takeNewKind_7 ?_
  refine z_geti C zc_8 dX8_takeNewKind_8 4 3 rfl (by decide) (by decide) q_250 rfl ?_
  obtain ⟨x1, ex1, h⟩ := zlt_e h
  refine z_eqi C ex1 ?_
  obtain ⟨hb2, h⟩ := zck_e h
  refine z_iaload C dX8_takeNewKind_11 rfl rfl (by decide) (zbd_in hb2) ?_
  refine z_iconst C (v := 1) (by decide) dX8_takeNewKind_12 ?_
  refine z_icmp_ne C 38 (by decide) dX8_takeNewKind_13 (fun hc => ?_) (fun hc => ?_)
  · have h := zif_f hc h
    refine z_lv [] (lv' := []) rfl ?_
    exact l_X8_takeNewKind_38 C hQ I L h
  · have h := zif_t hc h
    refine z_aload_n C rfl 0 rfl dX8_takeNewKind_16 ?_
    obtain ⟨hb3, h⟩ := zck_e h
    refine z_getm C zc_8 dX8_takeNewKind_17 3 3 Q rfl (by decide) (by decide) q_249 rfl (of_decide_eq_true hb3) (zpl_lt2 hQ) ?_
    refine z_aload_n C rfl 0 rfl dX8_takeNewKind_20 ?_
    refine z_getr C zc_8 dX8_takeNewKind_21 2 3 4 rfl (by decide) (by decide) q_248 rfl rfl ?_
    refine z_getr C zc_10 dX8_takeNewKind_24 1 4 6 rfl (by decide) (by decide) q_150 rfl rfl ?_
    refine z_aload_n C rfl 0 rfl dX8_takeNewKind_27 ?_
    refine z_geti C zc_8 dX8_takeNewKind_28 4 3 rfl (by decide) (by decide) q_250 rfl ?_
    obtain ⟨x4, ex4, h⟩ := zlt_e h
    refine z_eqi C ex4 ?_
    obtain ⟨hb5, h⟩ := zck_e h
    refine z_laload C dX8_takeNewKind_31 rfl rfl (by decide) (zbd_in hb5) ?_
    obtain ⟨x7, hg6, h⟩ := zb1_e h
    refine z_callV C zc_7 (zpl_k hQ) (zpl_lt hQ) dX8_takeNewKind_32 yy_X7_hasKind (c_X7_hasKind C.2.2.2.2.1 hQ (L 6 x4.toNatClampNeg) I L hg6) q_696 q_697 q_698 (by decide) (by decide) rfl rfl (Nat.le_of_ble_eq_true rfl) ⟨Nat.le_refl _, Nat.le_refl _, Nat.le_refl _, Nat.le_refl _⟩ ?_
    refine z_if_eq C 42 (by decide) dX8_takeNewKind_35 (fun hc => ?_) (fun hc => ?_)
    · have h := zif_t hc h
      refine z_aload_n C rfl 0 rfl dX8_takeNewKind_42 ?_
      refine z_dup C rfl dX8_takeNewKind_43 ?_
      refine z_geti C zc_8 dX8_takeNewKind_44 4 3 rfl (by decide) (by decide) q_250 rfl ?_
      refine z_iconst C (v := 1) (by decide) dX8_takeNewKind_47 ?_
      refine z_iadd C dX8_takeNewKind_48 ?_
      obtain ⟨x8, ex8, h⟩ := zlt_e h
      refine z_eqi C ex8 ?_
      refine z_puti C zc_8 dX8_takeNewKind_49 4 3 rfl (by decide) (by decide) rfl q_250 rfl rfl rfl ?_
      obtain ⟨I9, eI9, h⟩ := zlt_e h
      refine z_eqI C eI9 ?_
      refine z_aload_n C rfl 0 rfl dX8_takeNewKind_52 ?_
      refine z_getr C zc_8 dX8_takeNewKind_53 2 3 4 rfl (by decide) (by decide) q_248 rfl rfl ?_
      refine z_getr C zc_10 dX8_takeNewKind_56 1 4 6 rfl (by decide) (by decide) q_150 rfl rfl ?_
      refine z_aload_n C rfl 0 rfl dX8_takeNewKind_59 ?_
      refine z_geti C zc_8 dX8_takeNewKind_60 4 3 rfl (by decide) (by decide) q_250 rfl ?_
      refine z_iconst C (v := 1) (by decide) dX8_takeNewKind_63 ?_
      refine z_isub C dX8_takeNewKind_64 ?_
      obtain ⟨x10, ex10, h⟩ := zlt_e h
      refine z_eqi C ex10 ?_
      obtain ⟨hb11, h⟩ := zck_e h
      refine z_laload C dX8_takeNewKind_65 rfl rfl (by decide) (zbd_in hb11) ?_
      obtain ⟨x12, ex12, h⟩ := zlt_e h
      refine z_eql C ex12 ?_
      obtain rfl := Option.some.inj h
      exact z_lret C dX8_takeNewKind_66 rfl rfl
    · have h := zif_f hc h
      refine z_lv [] (lv' := []) rfl ?_
      exact l_X8_takeNewKind_38 C hQ I L h
theorem q_195 : (Cond.fieldLink "DeviceFind$Reader" (154 : Nat) "DeviceFind$Plan" "pinWires" "[I") ∈ lw_tbl := List.mem_of_getElem? (i := 195) (by decide +kernel)
theorem q_212 : (Cond.fieldLink "DeviceFind$Reader" (89 : Nat) "DeviceFind$Plan" "kinds" "I") ∈ lw_tbl := List.mem_of_getElem? (i := 212) (by decide +kernel)
theorem q_704 : (Cond.code ({ cls := "DeviceFind$Reader", name := "takePins", desc := "()I" } : Jvm.MethodName) prog_10_method_11_code (3 : Nat) (Option.some Jvm.ClassFile.FieldType.int)) ∈ lw_tbl := List.mem_of_getElem? (i := 704) (by decide +kernel)
theorem yy_X8_takePins : zY yX8_takePins cX8_takePins 3 (some .int) 0 := ⟨q_704, q_78, by decide +kernel, by decide +kernel, by decide +kernel⟩
noncomputable def f_X8_takePins_2 (Q : Nat) (k2 : Int32 → zI → zL → Option (Int32 × zI)) (v1 : Int32) (I : zI) (L : zL) : Option (Int32 × zI) :=
  if (4 : Int32) ≤ v1 then (some ((4 : Int32), I)) else (zb2 (f_X8_takeWire Q I L) (fun x2 I3 => if x2 = (-1 : Int32) then (some (v1, I3)) else (zck (decide (I3 3 3 = nI (Q + 1))) (zck (decide (I3 3 3 = nI (Q + 1))) (zlt ((I3 Q 15) * (4 : Int32)) (fun x6 => zck (zbd (x6 + v1) 32) (zlt (zu I3 ((Q + 1 + 11)) (x6 + v1).toNatClampNeg x2) (fun I8 => zlt (v1 + 1) (fun x9 => k2 x9 I8 L)))))))))
noncomputable def f_X8_takePins (Q : Nat) (I : zI) (L : zL) : Option (Int32 × zI) :=
  zlp3 (f_X8_takePins_2 Q) zF (0 : Int32) I L
set_option maxHeartbeats 4000000 in
set_option maxRecDepth 100000 in
theorem l_X8_takePins_2 {r : Int32 × zI} (C : zC p l e R s m args below meth c s0 a0 d cy B0 yX8_takePins.cls cX8_takePins 3 (some .int) bc bs bc bs 3 65 []) {Q : Nat} (hQ : zpl Q) (k2 : Int32 → zI → zL → Option (Int32 × zI)) (hk2 : ∀ (v1 : Int32) (I : zI) (L : zL), k2 v1 I L = some r → zG p l e R s m args below meth c d cy B0 3 bc bs (zQ below s args d cy B0 bc bs (.inl (some (.int r.1))) zSH zKn bc bs r.2 L) 2 [(0, .ref (B0 + 3)), (1, .int v1)] [] zSH zKn bc bs I L) (v1 : Int32) (I : zI) (L : zL) (h : f_X8_takePins_2 Q k2 v1 I L = some r) : zG p l e R s m args below meth c d cy B0 3 bc bs (zQ below s args d cy B0 bc bs (.inl (some (.int r.1))) zSH zKn bc bs r.2 L) 2 [(0, .ref (B0 + 3)), (1, .int v1)] [] zSH zKn bc bs I L := by
  unfold f_X8_takePins_2 at h
  refine z_iload_n C rfl 1 rfl dX8_takePins_2 ?_
  refine z_iconst C (v := 4) (by decide) dX8_takePins_3 ?_
  refine z_icmp_ge C 45 (by decide) dX8_takePins_4 (fun hc => ?_) (fun hc => ?_)
  · have h := zif_t hc h
    refine z_iconst C (v := 4) (by decide) dX8_takePins_45 ?_
    obtain rfl := Option.some.inj h
    exact z_iret C dX8_takePins_46 .int rfl rfl rfl
  · have h := zif_f hc h
    refine z_aload_n C rfl 0 rfl dX8_takePins_7 ?_
    obtain ⟨x2, I3, hg1, h⟩ := zb2_e h
    refine z_callV C zc_8 rfl (by decide) dX8_takePins_8 yy_X8_takeWire (c_X8_takeWire C.2.2.2.2.1 hQ I L hg1) q_674 q_676 q_14 (by decide) (by decide) rfl rfl (Nat.le_of_ble_eq_true rfl) ⟨Nat.le_refl _, Nat.le_refl _, Nat.le_refl _, Nat.le_refl _⟩ ?_
    refine z_istore_n C (lv' := [(2, .int x2), (0, .ref (B0 + 3)), (1, .int v1)]) rfl (by decide) rfl dX8_takePins_11 ?_
    refine z_iload_n C rfl 0 rfl dX8_takePins_12 ?_
    refine z_iconst C (v := -1) (by decide) dX8_takePins_13 ?_
    refine z_icmp_ne C 19 (by decide) dX8_takePins_14 (fun hc => ?_) (fun hc => ?_)
    · have h := zif_f hc h
      refine z_aload_n C rfl 1 rfl dX8_takePins_19 ?_
      obtain ⟨hb4, h⟩ := zck_e h
      refine z_getm C zc_8 dX8_takePins_20 3 3 Q rfl (by decide) (by decide) q_249 rfl (of_decide_eq_true hb4) (zpl_lt2 hQ) ?_
      refine z_getr C zc_7 dX8_takePins_23 11 Q (Q + 1 + 11) (zpl_k hQ) (zpl_lt hQ) (by decide) q_195 rfl (zpl_r hQ 11 (by decide)) ?_
      refine z_aload_n C rfl 1 rfl dX8_takePins_26 ?_
      obtain ⟨hb5, h⟩ := zck_e h
      refine z_getm C zc_8 dX8_takePins_27 3 3 Q rfl (by decide) (by decide) q_249 rfl (of_decide_eq_true hb5) (zpl_lt2 hQ) ?_
      refine z_geti C zc_7 dX8_takePins_30 15 Q (zpl_k hQ) (zpl_lt hQ) (by decide) q_212 rfl ?_
      refine z_iconst C (v := 4) (by decide) dX8_takePins_33 ?_
      refine z_imul C dX8_takePins_34 ?_
      obtain ⟨x6, ex6, h⟩ := zlt_e h
      refine z_eqi C ex6 ?_
      refine z_iload_n C rfl 2 rfl dX8_takePins_35 ?_
      refine z_iadd C dX8_takePins_36 ?_
      refine z_iload_n C rfl 0 rfl dX8_takePins_37 ?_
      obtain ⟨hb7, h⟩ := zck_e h
      refine z_iastore C dX8_takePins_38 (zpl_ak hQ 11 (by decide)) (zpl_an hQ 11 (by decide)) (zpl_a hQ 11 (by decide)) (zbd_in hb7) ?_
      obtain ⟨I8, eI8, h⟩ := zlt_e h
      refine z_eqI C eI8 ?_
      obtain ⟨x9, ex9, h⟩ := zlt_e h
      refine z_iinc C (j := 2) (v := x9) (lv' := [(1, .int x9), (2, .int x2), (0, .ref (B0 + 3))]) rfl (by rw [ex9]; rfl) (by decide) rfl dX8_takePins_39 ?_
      refine z_goto C 2 (by decide) dX8_takePins_42 ?_
      refine z_lv [2, 0] (lv' := [(0, .ref (B0 + 3)), (1, .int x9)]) rfl ?_
      exact hk2 x9 I8 L h
    · have h := zif_t hc h
      refine z_iload_n C rfl 2 rfl dX8_takePins_17 ?_
      obtain rfl := Option.some.inj h
      exact z_iret C dX8_takePins_18 .int rfl rfl rfl
set_option maxHeartbeats 4000000 in
set_option maxRecDepth 100000 in
theorem L_X8_takePins_2 {r : Int32 × zI} (C : zC p l e R s m args below meth c s0 a0 d cy B0 yX8_takePins.cls cX8_takePins 3 (some .int) bc bs bc bs 3 65 []) {Q : Nat} (hQ : zpl Q) (v1 : Int32) (I : zI) (L : zL) (h : zlp3 (f_X8_takePins_2 Q) zF v1 I L = some r) : zG p l e R s m args below meth c d cy B0 3 bc bs (zQ below s args d cy B0 bc bs (.inl (some (.int r.1))) zSH zKn bc bs r.2 L) 2 [(0, .ref (B0 + 3)), (1, .int v1)] [] zSH zKn bc bs I L :=
 zlp3_e (fun (v1 : Int32) (I : zI) (L : zL) => zG p l e R s m args below meth c d cy B0 3 bc bs (zQ below s args d cy B0 bc bs (.inl (some (.int r.1))) zSH zKn bc bs r.2 L) 2 [(0, .ref (B0 + 3)), (1, .int v1)] [] zSH zKn bc bs I L) (fun k9 hk9 v1 I L h => l_X8_takePins_2 C hQ k9 hk9 v1 I L h) zF v1 I L h
set_option maxHeartbeats 4000000 in
set_option maxRecDepth 100000 in
theorem c_X8_takePins {r : Int32 × zI} (hE : zE0 l s0 a0 d cy B0) {Q : Nat} (hQ : zpl Q) (I : zI) (L : zL) (h : f_X8_takePins Q I L = some r) : zM l s0 d cy B0 yX8_takePins cX8_takePins 3 (some .int) 3 65 [.ref (B0 + 3)] zSH zKn bc bs I L (.inl (some (.int r.1))) zSH zKn bc bs r.2 L := by
  refine z_meth yy_X8_takePins hE (Nat.le_of_ble_eq_true rfl) (fun p e R s m args below meth c C => ?_)
  show zG p l e R s m args below meth c d cy B0 3 bc bs (zQ below s args d cy B0 bc bs (.inl (some (.int r.1))) zSH zKn bc bs r.2 L) 0 [(0, .ref (B0 + 3))] [] zSH zKn bc bs I L
  unfold f_X8_takePins at h
  refine z_iconst C (v := 0) (by decide) dX8_takePins_0 ?_
  refine z_istore_n C (lv' := [(1, .int (0 : Int32)), (0, .ref (B0 + 3))]) rfl (by decide) rfl dX8_takePins_1 ?_
  refine z_lv [1, 0] (lv' := [(0, .ref (B0 + 3)), (1, .int (0 : Int32))]) rfl ?_
  exact L_X8_takePins_2 C hQ (0 : Int32) I L h
theorem q_17 : Cond.selects "DeviceFind$Reader" ⟨"DeviceFind$Reader", "takeNewKind", "()J"⟩ ⟨"DeviceFind$Reader", "takeNewKind", "()J"⟩ ∈ lw_tbl := List.mem_of_getElem? (i := 17) (by decide +kernel)
theorem q_18 : Cond.selects "DeviceFind$Reader" ⟨"DeviceFind$Reader", "takePins", "()I"⟩ ⟨"DeviceFind$Reader", "takePins", "()I"⟩ ∈ lw_tbl := List.mem_of_getElem? (i := 18) (by decide +kernel)
theorem q_691 : (Cond.code ({ cls := "DeviceFind$Reader", name := "takeDeviceSentence", desc := "()Z" } : Jvm.MethodName) prog_10_method_10_code (5 : Nat) (Option.some Jvm.ClassFile.FieldType.boolean)) ∈ lw_tbl := List.mem_of_getElem? (i := 691) (by decide +kernel)
theorem q_692 : (Cond.methodLink "DeviceFind$Reader" (142 : Nat) ({ cls := "DeviceFind$Reader", name := "takeNewKind", desc := "()J" } : Jvm.MethodName)) ∈ lw_tbl := List.mem_of_getElem? (i := 692) (by decide +kernel)
theorem q_694 : (Cond.instanceMethod ({ cls := "DeviceFind$Reader", name := "takeNewKind", desc := "()J" } : Jvm.MethodName)) ∈ lw_tbl := List.mem_of_getElem? (i := 694) (by decide +kernel)
theorem q_701 : (Cond.methodLink "DeviceFind$Reader" (147 : Nat) ({ cls := "DeviceFind$Reader", name := "takePins", desc := "()I" } : Jvm.MethodName)) ∈ lw_tbl := List.mem_of_getElem? (i := 701) (by decide +kernel)
theorem q_703 : (Cond.instanceMethod ({ cls := "DeviceFind$Reader", name := "takePins", desc := "()I" } : Jvm.MethodName)) ∈ lw_tbl := List.mem_of_getElem? (i := 703) (by decide +kernel)
theorem q_705 : (Cond.methodLink "DeviceFind$Reader" (150 : Nat) ({ cls := "DeviceFind$Plan", name := "addKind", desc := "(JII)V" } : Jvm.MethodName)) ∈ lw_tbl := List.mem_of_getElem? (i := 705) (by decide +kernel)
theorem q_706 : (Cond.instanceMethod ({ cls := "DeviceFind$Plan", name := "addKind", desc := "(JII)V" } : Jvm.MethodName)) ∈ lw_tbl := List.mem_of_getElem? (i := 706) (by decide +kernel)
theorem q_707 : (Cond.selects "DeviceFind$Plan" ({ cls := "DeviceFind$Plan", name := "addKind", desc := "(JII)V" } : Jvm.MethodName) ({ cls := "DeviceFind$Plan", name := "addKind", desc := "(JII)V" } : Jvm.MethodName)) ∈ lw_tbl := List.mem_of_getElem? (i := 707) (by decide +kernel)
theorem yy_X8_takeDeviceSentence : zY yX8_takeDeviceSentence cX8_takeDeviceSentence 5 (some .boolean) 0 := ⟨q_691, q_78, by decide +kernel, by decide +kernel, by decide +kernel⟩
noncomputable def f_X8_takeDeviceSentence_32 (Q : Nat) (I : zI) (L : zL) : Option (Int32 × zI × zL) :=
  some ((0 : Int32), I, L)
noncomputable def f_X8_takeDeviceSentence_53 (Q : Nat) (I : zI) (L : zL) : Option (Int32 × zI × zL) :=
  some ((0 : Int32), I, L)
noncomputable def f_X8_takeDeviceSentence_75 (Q : Nat) (I : zI) (L : zL) : Option (Int32 × zI × zL) :=
  some ((0 : Int32), I, L)
noncomputable def f_X8_takeDeviceSentence (Q : Nat) (I : zI) (L : zL) : Option (Int32 × zI × zL) :=
  zlt ((I 3 4) + (1 : Int32)) (fun x1 => zlt (zu I 3 4 x1) (fun I2 => zb2 (f_X8_takeNewKind Q I2 L) (fun x4 I5 => if x4 = (-1 : Int64) then (f_X8_takeDeviceSentence_32 Q I5 L) else (zb2 (f_X8_takeSign (61 : Int32) I5 L) (fun x7 I8 => if x7 = 0 then (f_X8_takeDeviceSentence_32 Q I8 L) else (zb2 (f_X8_takeLayer Q I8 L) (fun x10 I11 => if x10 = (-1 : Int32) then (f_X8_takeDeviceSentence_53 Q I11 L) else (zb2 (f_X8_takeWord 9 I11 L) (fun x13 I14 => if x13 = 0 then (f_X8_takeDeviceSentence_53 Q I14 L) else (zb2 (f_X8_takePins Q I14 L) (fun x16 I17 => if x16 = 0 then (f_X8_takeDeviceSentence_75 Q I17 L) else (zb2 (f_X8_takeSign (59 : Int32) I17 L) (fun x19 I20 => if x19 = 0 then (f_X8_takeDeviceSentence_75 Q I20 L) else (zck (decide (I20 3 3 = nI (Q + 1))) (zb2 (f_X7_addKind Q x4 x10 x16 I20 L) (fun I23 L24 => some ((1 : Int32), I23, L24)))))))))))))))))
set_option maxHeartbeats 4000000 in
set_option maxRecDepth 100000 in
theorem l_X8_takeDeviceSentence_32 {r : Int32 × zI × zL} (C : zC p l e R s m args below meth c s0 a0 d cy B0 yX8_takeDeviceSentence.cls cX8_takeDeviceSentence 5 (some .boolean) bc bs bc bs 8 171 []) {Q : Nat} (hQ : zpl Q) (I : zI) (L : zL) (h : f_X8_takeDeviceSentence_32 Q I L = some r) : zG p l e R s m args below meth c d cy B0 5 bc bs (zQ below s args d cy B0 bc bs (.inl (some (.int r.1))) zSH zKn bc bs r.2.1 r.2.2) 32 [] [] zSH zKn bc bs I L := by
  unfold f_X8_takeDeviceSentence_32 at h
  refine z_iconst C (v := 0) (by decide) dX8_takeDeviceSentence_32 ?_
  obtain rfl := Option.some.inj h
  exact z_iret C dX8_takeDeviceSentence_33 .boolean rfl rfl rfl
set_option maxHeartbeats 4000000 in
set_option maxRecDepth 100000 in
theorem l_X8_takeDeviceSentence_53 {r : Int32 × zI × zL} (C : zC p l e R s m args below meth c s0 a0 d cy B0 yX8_takeDeviceSentence.cls cX8_takeDeviceSentence 5 (some .boolean) bc bs bc bs 8 171 []) {Q : Nat} (hQ : zpl Q) (I : zI) (L : zL) (h : f_X8_takeDeviceSentence_53 Q I L = some r) : zG p l e R s m args below meth c d cy B0 5 bc bs (zQ below s args d cy B0 bc bs (.inl (some (.int r.1))) zSH zKn bc bs r.2.1 r.2.2) 53 [] [] zSH zKn bc bs I L := by
  unfold f_X8_takeDeviceSentence_53 at h
  refine z_iconst C (v := 0) (by decide) dX8_takeDeviceSentence_53 ?_
  obtain rfl := Option.some.inj h
  exact z_iret C dX8_takeDeviceSentence_54 .boolean rfl rfl rfl
set_option maxHeartbeats 4000000 in
set_option maxRecDepth 100000 in
theorem l_X8_takeDeviceSentence_75 {r : Int32 × zI × zL} (C : zC p l e R s m args below meth c s0 a0 d cy B0 yX8_takeDeviceSentence.cls cX8_takeDeviceSentence 5 (some .boolean) bc bs bc bs 8 171 []) {Q : Nat} (hQ : zpl Q) (I : zI) (L : zL) (h : f_X8_takeDeviceSentence_75 Q I L = some r) : zG p l e R s m args below meth c d cy B0 5 bc bs (zQ below s args d cy B0 bc bs (.inl (some (.int r.1))) zSH zKn bc bs r.2.1 r.2.2) 75 [] [] zSH zKn bc bs I L := by
  unfold f_X8_takeDeviceSentence_75 at h
  refine z_iconst C (v := 0) (by decide) dX8_takeDeviceSentence_75 ?_
  obtain rfl := Option.some.inj h
  exact z_iret C dX8_takeDeviceSentence_76 .boolean rfl rfl rfl
set_option maxHeartbeats 4000000 in
set_option maxRecDepth 100000 in
theorem c_X8_takeDeviceSentence {r : Int32 × zI × zL} (hE : zE0 l s0 a0 d cy B0) {Q : Nat} (hQ : zpl Q) (I : zI) (L : zL) (h : f_X8_takeDeviceSentence Q I L = some r) : zM l s0 d cy B0 yX8_takeDeviceSentence cX8_takeDeviceSentence 5 (some .boolean) 8 171 [.ref (B0 + 3)] zSH zKn bc bs I L (.inl (some (.int r.1))) zSH zKn bc bs r.2.1 r.2.2 := by
  refine z_meth yy_X8_takeDeviceSentence hE (Nat.le_of_ble_eq_true rfl) (fun p e R s m args below meth c C => ?_)
  show zG p l e R s m args below meth c d cy B0 5 bc bs (zQ below s args d cy B0 bc bs (.inl (some (.int r.1))) zSH zKn bc bs r.2.1 r.2.2) 0 [(0, .ref (B0 + 3))] [] zSH zKn bc bs I L
  unfold f_X8_takeDeviceSentence at h
  refine z_aload_n C rfl 0 rfl dX8_takeDeviceSentence_0 ?_
  refine z_dup C rfl dX8_takeDeviceSentence_1 ?_
  refine z_geti C zc_8 dX8_takeDeviceSentence_2 4 3 rfl (by decide) (by decide) q_250 rfl ?_
  refine z_iconst C (v := 1) (by decide) dX8_takeDeviceSentence_5 ?_
  refine z_iadd C dX8_takeDeviceSentence_6 ?_
  obtain ⟨x1, ex1, h⟩ := zlt_e h
  refine z_eqi C ex1 ?_
  refine z_puti C zc_8 dX8_takeDeviceSentence_7 4 3 rfl (by decide) (by decide) rfl q_250 rfl rfl rfl ?_
  obtain ⟨I2, eI2, h⟩ := zlt_e h
  refine z_eqI C eI2 ?_
  refine z_aload_n C rfl 0 rfl dX8_takeDeviceSentence_10 ?_
  obtain ⟨x4, I5, hg3, h⟩ := zb2_e h
  refine z_callV C zc_8 rfl (by decide) dX8_takeDeviceSentence_11 yy_X8_takeNewKind (c_X8_takeNewKind C.2.2.2.2.1 hQ I2 L hg3) q_692 q_694 q_17 (by decide) (by decide) rfl rfl (Nat.le_of_ble_eq_true rfl) ⟨Nat.le_refl _, Nat.le_refl _, Nat.le_refl _, Nat.le_refl _⟩ ?_
  refine z_lstore_n C (lv' := [(1, .long x4), (0, .ref (B0 + 3))]) rfl (by decide) rfl dX8_takeDeviceSentence_14 ?_
  refine z_lload_n C rfl 0 rfl dX8_takeDeviceSentence_15 ?_
  refine z_ldc2 C dX8_takeDeviceSentence_16 q_623 ?_
  refine z_lif_eq C 32 (by decide) dX8_takeDeviceSentence_19 dX8_takeDeviceSentence_20 (fun hc => ?_) (fun hc => ?_)
  · have h := zif_t hc h
    refine z_lv [] (lv' := []) rfl ?_
    exact l_X8_takeDeviceSentence_32 C hQ I5 L h
  · have h := zif_f hc h
    refine z_aload_n C rfl 1 rfl dX8_takeDeviceSentence_23 ?_
    refine z_bipush C (v := 61) (by decide) dX8_takeDeviceSentence_24 ?_
    obtain ⟨x7, I8, hg6, h⟩ := zb2_e h
    refine z_callV C zc_8 rfl (by decide) dX8_takeDeviceSentence_26 yy_X8_takeSign (c_X8_takeSign C.2.2.2.2.1  (61 : Int32) I5 L hg6) q_624 q_626 q_6 (by decide) (by decide) rfl rfl (Nat.le_of_ble_eq_true rfl) ⟨Nat.le_refl _, Nat.le_refl _, Nat.le_refl _, Nat.le_refl _⟩ ?_
    refine z_if_ne C 34 (by decide) dX8_takeDeviceSentence_29 (fun hc => ?_) (fun hc => ?_)
    · have h := zif_f hc h
      refine z_aload_n C rfl 1 rfl dX8_takeDeviceSentence_34 ?_
      obtain ⟨x10, I11, hg9, h⟩ := zb2_e h
      refine z_callV C zc_8 rfl (by decide) dX8_takeDeviceSentence_35 yy_X8_takeLayer (c_X8_takeLayer C.2.2.2.2.1 hQ I8 L hg9) q_641 q_643 q_9 (by decide) (by decide) rfl rfl (Nat.le_of_ble_eq_true rfl) ⟨Nat.le_refl _, Nat.le_refl _, Nat.le_refl _, Nat.le_refl _⟩ ?_
      refine z_istore_n C (lv' := [(3, .int x10), (1, .long x4), (0, .ref (B0 + 3))]) rfl (by decide) rfl dX8_takeDeviceSentence_38 ?_
      refine z_iload_n C rfl 0 rfl dX8_takeDeviceSentence_39 ?_
      refine z_iconst C (v := -1) (by decide) dX8_takeDeviceSentence_40 ?_
      refine z_icmp_eq C 53 (by decide) dX8_takeDeviceSentence_41 (fun hc => ?_) (fun hc => ?_)
      · have h := zif_t hc h
        refine z_lv [] (lv' := []) rfl ?_
        exact l_X8_takeDeviceSentence_53 C hQ I11 L h
      · have h := zif_f hc h
        refine z_aload_n C rfl 2 rfl dX8_takeDeviceSentence_44 ?_
        refine z_ldcS C 9 (by decide) rfl rfl dX8_takeDeviceSentence_45 ?_
        obtain ⟨x13, I14, hg12, h⟩ := zb2_e h
        refine z_callV C zc_8 rfl (by decide) dX8_takeDeviceSentence_47 yy_X8_takeWord (c_X8_takeWord C.2.2.2.2.1 (by decide) I11 L hg12) q_679 q_681 q_15 (by decide) (by decide) rfl rfl (Nat.le_of_ble_eq_true rfl) ⟨Nat.le_refl _, Nat.le_refl _, Nat.le_refl _, Nat.le_refl _⟩ ?_
        refine z_if_ne C 55 (by decide) dX8_takeDeviceSentence_50 (fun hc => ?_) (fun hc => ?_)
        · have h := zif_f hc h
          refine z_aload_n C rfl 2 rfl dX8_takeDeviceSentence_55 ?_
          obtain ⟨x16, I17, hg15, h⟩ := zb2_e h
          refine z_callV C zc_8 rfl (by decide) dX8_takeDeviceSentence_56 yy_X8_takePins (c_X8_takePins C.2.2.2.2.1 hQ I14 L hg15) q_701 q_703 q_18 (by decide) (by decide) rfl rfl (Nat.le_of_ble_eq_true rfl) ⟨Nat.le_refl _, Nat.le_refl _, Nat.le_refl _, Nat.le_refl _⟩ ?_
          refine z_istore C (lv' := [(4, .int x16), (3, .int x10), (1, .long x4), (0, .ref (B0 + 3))]) (by decide) rfl dX8_takeDeviceSentence_59 ?_
          refine z_iload C 0 rfl dX8_takeDeviceSentence_61 ?_
          refine z_if_eq C 75 (by decide) dX8_takeDeviceSentence_63 (fun hc => ?_) (fun hc => ?_)
          · have h := zif_t hc h
            refine z_lv [] (lv' := []) rfl ?_
            exact l_X8_takeDeviceSentence_75 C hQ I17 L h
          · have h := zif_f hc h
            refine z_aload_n C rfl 3 rfl dX8_takeDeviceSentence_66 ?_
            refine z_bipush C (v := 59) (by decide) dX8_takeDeviceSentence_67 ?_
            obtain ⟨x19, I20, hg18, h⟩ := zb2_e h
            refine z_callV C zc_8 rfl (by decide) dX8_takeDeviceSentence_69 yy_X8_takeSign (c_X8_takeSign C.2.2.2.2.1  (59 : Int32) I17 L hg18) q_624 q_626 q_6 (by decide) (by decide) rfl rfl (Nat.le_of_ble_eq_true rfl) ⟨Nat.le_refl _, Nat.le_refl _, Nat.le_refl _, Nat.le_refl _⟩ ?_
            refine z_if_ne C 77 (by decide) dX8_takeDeviceSentence_72 (fun hc => ?_) (fun hc => ?_)
            · have h := zif_f hc h
              refine z_aload_n C rfl 3 rfl dX8_takeDeviceSentence_77 ?_
              obtain ⟨hb21, h⟩ := zck_e h
              refine z_getm C zc_8 dX8_takeDeviceSentence_78 3 3 Q rfl (by decide) (by decide) q_249 rfl (of_decide_eq_true hb21) (zpl_lt2 hQ) ?_
              refine z_lload_n C rfl 2 rfl dX8_takeDeviceSentence_81 ?_
              refine z_iload_n C rfl 1 rfl dX8_takeDeviceSentence_82 ?_
              refine z_iload C 0 rfl dX8_takeDeviceSentence_83 ?_
              obtain ⟨I23, L24, hg22, h⟩ := zb2_e h
              refine z_callV C zc_7 (zpl_k hQ) (zpl_lt hQ) dX8_takeDeviceSentence_85 yy_X7_addKind (c_X7_addKind C.2.2.2.2.1 hQ x4 x10 x16 I20 L hg22) q_705 q_706 q_707 (by decide) (by decide) rfl rfl (Nat.le_of_ble_eq_true rfl) ⟨Nat.le_refl _, Nat.le_refl _, Nat.le_refl _, Nat.le_refl _⟩ ?_
              refine z_iconst C (v := 1) (by decide) dX8_takeDeviceSentence_88 ?_
              obtain rfl := Option.some.inj h
              exact z_iret C dX8_takeDeviceSentence_89 .boolean rfl rfl rfl
            · have h := zif_t hc h
              refine z_lv [] (lv' := []) rfl ?_
              exact l_X8_takeDeviceSentence_75 C hQ I20 L h
        · have h := zif_t hc h
          refine z_lv [] (lv' := []) rfl ?_
          exact l_X8_takeDeviceSentence_53 C hQ I14 L h
    · have h := zif_t hc h
      refine z_lv [] (lv' := []) rfl ?_
      exact l_X8_takeDeviceSentence_32 C hQ I8 L h
theorem q_4 : Cond.selects "DeviceFind$Reader" ⟨"DeviceFind$Reader", "takeInputSentence", "()Z"⟩ ⟨"DeviceFind$Reader", "takeInputSentence", "()Z"⟩ ∈ lw_tbl := List.mem_of_getElem? (i := 4) (by decide +kernel)
theorem q_8 : Cond.selects "DeviceFind$Reader" ⟨"DeviceFind$Reader", "takeMakeSentence", "()Z"⟩ ⟨"DeviceFind$Reader", "takeMakeSentence", "()Z"⟩ ∈ lw_tbl := List.mem_of_getElem? (i := 8) (by decide +kernel)
theorem q_12 : Cond.selects "DeviceFind$Reader" ⟨"DeviceFind$Reader", "takeWireSentence", "()Z"⟩ ⟨"DeviceFind$Reader", "takeWireSentence", "()Z"⟩ ∈ lw_tbl := List.mem_of_getElem? (i := 12) (by decide +kernel)
theorem q_13 : Cond.selects "DeviceFind$Reader" ⟨"DeviceFind$Reader", "takeJoinSentence", "()Z"⟩ ⟨"DeviceFind$Reader", "takeJoinSentence", "()Z"⟩ ∈ lw_tbl := List.mem_of_getElem? (i := 13) (by decide +kernel)
theorem q_16 : Cond.selects "DeviceFind$Reader" ⟨"DeviceFind$Reader", "takeDeviceSentence", "()Z"⟩ ⟨"DeviceFind$Reader", "takeDeviceSentence", "()Z"⟩ ∈ lw_tbl := List.mem_of_getElem? (i := 16) (by decide +kernel)
theorem q_198 : (Cond.fieldLink "DeviceFind$Reader" (60 : Nat) "DeviceFind$Plan" "layers" "I") ∈ lw_tbl := List.mem_of_getElem? (i := 198) (by decide +kernel)
theorem q_203 : (Cond.fieldLink "DeviceFind$Reader" (73 : Nat) "DeviceFind$Plan" "wires" "I") ∈ lw_tbl := List.mem_of_getElem? (i := 203) (by decide +kernel)
theorem q_207 : (Cond.fieldLink "DeviceFind$Reader" (81 : Nat) "DeviceFind$Plan" "joins" "I") ∈ lw_tbl := List.mem_of_getElem? (i := 207) (by decide +kernel)
theorem q_554 : (Cond.code ({ cls := "DeviceFind$Reader", name := "takeSentence", desc := "()Z" } : Jvm.MethodName) prog_10_method_5_code (1 : Nat) (Option.some Jvm.ClassFile.FieldType.boolean)) ∈ lw_tbl := List.mem_of_getElem? (i := 554) (by decide +kernel)
theorem q_611 : (Cond.methodLink "DeviceFind$Reader" (63 : Nat) ({ cls := "DeviceFind$Reader", name := "takeInputSentence", desc := "()Z" } : Jvm.MethodName)) ∈ lw_tbl := List.mem_of_getElem? (i := 611) (by decide +kernel)
theorem q_613 : (Cond.instanceMethod ({ cls := "DeviceFind$Reader", name := "takeInputSentence", desc := "()Z" } : Jvm.MethodName)) ∈ lw_tbl := List.mem_of_getElem? (i := 613) (by decide +kernel)
theorem q_637 : (Cond.methodLink "DeviceFind$Reader" (68 : Nat) ({ cls := "DeviceFind$Reader", name := "takeMakeSentence", desc := "()Z" } : Jvm.MethodName)) ∈ lw_tbl := List.mem_of_getElem? (i := 637) (by decide +kernel)
theorem q_639 : (Cond.instanceMethod ({ cls := "DeviceFind$Reader", name := "takeMakeSentence", desc := "()Z" } : Jvm.MethodName)) ∈ lw_tbl := List.mem_of_getElem? (i := 639) (by decide +kernel)
theorem q_657 : (Cond.methodLink "DeviceFind$Reader" (76 : Nat) ({ cls := "DeviceFind$Reader", name := "takeWireSentence", desc := "()Z" } : Jvm.MethodName)) ∈ lw_tbl := List.mem_of_getElem? (i := 657) (by decide +kernel)
theorem q_659 : (Cond.instanceMethod ({ cls := "DeviceFind$Reader", name := "takeWireSentence", desc := "()Z" } : Jvm.MethodName)) ∈ lw_tbl := List.mem_of_getElem? (i := 659) (by decide +kernel)
theorem q_670 : (Cond.methodLink "DeviceFind$Reader" (84 : Nat) ({ cls := "DeviceFind$Reader", name := "takeJoinSentence", desc := "()Z" } : Jvm.MethodName)) ∈ lw_tbl := List.mem_of_getElem? (i := 670) (by decide +kernel)
theorem q_672 : (Cond.instanceMethod ({ cls := "DeviceFind$Reader", name := "takeJoinSentence", desc := "()Z" } : Jvm.MethodName)) ∈ lw_tbl := List.mem_of_getElem? (i := 672) (by decide +kernel)
theorem q_688 : (Cond.methodLink "DeviceFind$Reader" (92 : Nat) ({ cls := "DeviceFind$Reader", name := "takeDeviceSentence", desc := "()Z" } : Jvm.MethodName)) ∈ lw_tbl := List.mem_of_getElem? (i := 688) (by decide +kernel)
theorem q_690 : (Cond.instanceMethod ({ cls := "DeviceFind$Reader", name := "takeDeviceSentence", desc := "()Z" } : Jvm.MethodName)) ∈ lw_tbl := List.mem_of_getElem? (i := 690) (by decide +kernel)
theorem yy_X8_takeSentence : zY yX8_takeSentence cX8_takeSentence 1 (some .boolean) 0 := ⟨q_554, q_78, by decide +kernel, by decide +kernel, by decide +kernel⟩
noncomputable def f_X8_takeSentence_33 (Q : Nat) (w0 : Int32) (I : zI) (L : zL) : Option (Int32 × zI × zL) :=
  zck (zbo w0) (some (w0, I, L))
noncomputable def f_X8_takeSentence_32 (Q : Nat) (I : zI) (L : zL) : Option (Int32 × zI × zL) :=
  f_X8_takeSentence_33 Q (0 : Int32) I L
noncomputable def f_X8_takeSentence_67 (Q : Nat) (w0 : Int32) (I : zI) (L : zL) : Option (Int32 × zI × zL) :=
  zck (zbo w0) (some (w0, I, L))
noncomputable def f_X8_takeSentence_66 (Q : Nat) (I : zI) (L : zL) : Option (Int32 × zI × zL) :=
  f_X8_takeSentence_67 Q (0 : Int32) I L
noncomputable def f_X8_takeSentence_101 (Q : Nat) (w0 : Int32) (I : zI) (L : zL) : Option (Int32 × zI × zL) :=
  zck (zbo w0) (some (w0, I, L))
noncomputable def f_X8_takeSentence_100 (Q : Nat) (I : zI) (L : zL) : Option (Int32 × zI × zL) :=
  f_X8_takeSentence_101 Q (0 : Int32) I L
noncomputable def f_X8_takeSentence_135 (Q : Nat) (w0 : Int32) (I : zI) (L : zL) : Option (Int32 × zI × zL) :=
  zck (zbo w0) (some (w0, I, L))
noncomputable def f_X8_takeSentence_134 (Q : Nat) (I : zI) (L : zL) : Option (Int32 × zI × zL) :=
  f_X8_takeSentence_135 Q (0 : Int32) I L
noncomputable def f_X8_takeSentence_169 (Q : Nat) (w0 : Int32) (I : zI) (L : zL) : Option (Int32 × zI × zL) :=
  zck (zbo w0) (some (w0, I, L))
noncomputable def f_X8_takeSentence_168 (Q : Nat) (I : zI) (L : zL) : Option (Int32 × zI × zL) :=
  f_X8_takeSentence_169 Q (0 : Int32) I L
noncomputable def f_X8_takeSentence (Q : Nat) (I : zI) (L : zL) : Option (Int32 × zI × zL) :=
  zb1 (f_X8_isWord 0 I L) (fun x2 => if x2 = 0 then (zb1 (f_X8_isWord 1 I L) (fun x4 => if x4 = 0 then (zb1 (f_X8_isWord 5 I L) (fun x6 => if x6 = 0 then (zb1 (f_X8_isWord 6 I L) (fun x8 => if x8 = 0 then (zb1 (f_X8_isWord 8 I L) (fun x10 => if x10 = 0 then (f_X8_takeSentence_168 Q I L) else (zck (decide (I 3 3 = nI (Q + 1))) (if (8 : Int32) ≤ (I Q 15) then (f_X8_takeSentence_168 Q I L) else (zb3 (f_X8_takeDeviceSentence Q I L) (fun x13 I14 L15 => if x13 = 0 then (f_X8_takeSentence_168 Q I14 L15) else (f_X8_takeSentence_169 Q (1 : Int32) I14 L15))))))) else (zck (decide (I 3 3 = nI (Q + 1))) (if (16 : Int32) ≤ (I Q 14) then (f_X8_takeSentence_134 Q I L) else (zb2 (f_X8_takeJoinSentence Q I L) (fun x18 I19 => if x18 = 0 then (f_X8_takeSentence_134 Q I19 L) else (f_X8_takeSentence_135 Q (1 : Int32) I19 L))))))) else (zck (decide (I 3 3 = nI (Q + 1))) (if (8 : Int32) ≤ (I Q 13) then (f_X8_takeSentence_100 Q I L) else (zb2 (f_X8_takeWireSentence Q I L) (fun x22 I23 => if x22 = 0 then (f_X8_takeSentence_100 Q I23 L) else (f_X8_takeSentence_101 Q (1 : Int32) I23 L))))))) else (zck (decide (I 3 3 = nI (Q + 1))) (if (24 : Int32) ≤ (I Q 12) then (f_X8_takeSentence_66 Q I L) else (zb3 (f_X8_takeMakeSentence Q I L) (fun x26 I27 L28 => if x26 = 0 then (f_X8_takeSentence_66 Q I27 L28) else (f_X8_takeSentence_67 Q (1 : Int32) I27 L28))))))) else (zck (decide (I 3 3 = nI (Q + 1))) (if (24 : Int32) ≤ (I Q 12) then (f_X8_takeSentence_32 Q I L) else (zb3 (f_X8_takeInputSentence Q I L) (fun x31 I32 L33 => if x31 = 0 then (f_X8_takeSentence_32 Q I32 L33) else (f_X8_takeSentence_33 Q (1 : Int32) I32 L33))))))
set_option maxHeartbeats 4000000 in
set_option maxRecDepth 100000 in
theorem l_X8_takeSentence_33 {r : Int32 × zI × zL} (C : zC p l e R s m args below meth c s0 a0 d cy B0 yX8_takeSentence.cls cX8_takeSentence 1 (some .boolean) bc bs bc bs 9 196 []) {Q : Nat} (hQ : zpl Q) (w0 : Int32) (I : zI) (L : zL) (h : f_X8_takeSentence_33 Q w0 I L = some r) : zG p l e R s m args below meth c d cy B0 1 bc bs (zQ below s args d cy B0 bc bs (.inl (some (.int r.1))) zSH zKn bc bs r.2.1 r.2.2) 33 [] [.int w0] zSH zKn bc bs I L := by
  unfold f_X8_takeSentence_33 at h
  obtain ⟨hb38, h⟩ := zck_e h
  obtain rfl := Option.some.inj h
  exact z_iret C dX8_takeSentence_33 .boolean rfl (zbo_n hb38).1 rfl
set_option maxHeartbeats 4000000 in
set_option maxRecDepth 100000 in
theorem l_X8_takeSentence_32 {r : Int32 × zI × zL} (C : zC p l e R s m args below meth c s0 a0 d cy B0 yX8_takeSentence.cls cX8_takeSentence 1 (some .boolean) bc bs bc bs 9 196 []) {Q : Nat} (hQ : zpl Q) (I : zI) (L : zL) (h : f_X8_takeSentence_32 Q I L = some r) : zG p l e R s m args below meth c d cy B0 1 bc bs (zQ below s args d cy B0 bc bs (.inl (some (.int r.1))) zSH zKn bc bs r.2.1 r.2.2) 32 [] [] zSH zKn bc bs I L := by
  unfold f_X8_takeSentence_32 at h
  refine z_iconst C (v := 0) (by decide) dX8_takeSentence_32 ?_
  exact l_X8_takeSentence_33 C hQ (0 : Int32) I L h
set_option maxHeartbeats 4000000 in
set_option maxRecDepth 100000 in
theorem l_X8_takeSentence_67 {r : Int32 × zI × zL} (C : zC p l e R s m args below meth c s0 a0 d cy B0 yX8_takeSentence.cls cX8_takeSentence 1 (some .boolean) bc bs bc bs 9 196 []) {Q : Nat} (hQ : zpl Q) (w0 : Int32) (I : zI) (L : zL) (h : f_X8_takeSentence_67 Q w0 I L = some r) : zG p l e R s m args below meth c d cy B0 1 bc bs (zQ below s args d cy B0 bc bs (.inl (some (.int r.1))) zSH zKn bc bs r.2.1 r.2.2) 67 [] [.int w0] zSH zKn bc bs I L := by
  unfold f_X8_takeSentence_67 at h
  obtain ⟨hb37, h⟩ := zck_e h
  obtain rfl := Option.some.inj h
  exact z_iret C dX8_takeSentence_67 .boolean rfl (zbo_n hb37).1 rfl
set_option maxHeartbeats 4000000 in
set_option maxRecDepth 100000 in
theorem l_X8_takeSentence_66 {r : Int32 × zI × zL} (C : zC p l e R s m args below meth c s0 a0 d cy B0 yX8_takeSentence.cls cX8_takeSentence 1 (some .boolean) bc bs bc bs 9 196 []) {Q : Nat} (hQ : zpl Q) (I : zI) (L : zL) (h : f_X8_takeSentence_66 Q I L = some r) : zG p l e R s m args below meth c d cy B0 1 bc bs (zQ below s args d cy B0 bc bs (.inl (some (.int r.1))) zSH zKn bc bs r.2.1 r.2.2) 66 [] [] zSH zKn bc bs I L := by
  unfold f_X8_takeSentence_66 at h
  refine z_iconst C (v := 0) (by decide) dX8_takeSentence_66 ?_
  exact l_X8_takeSentence_67 C hQ (0 : Int32) I L h
set_option maxHeartbeats 4000000 in
set_option maxRecDepth 100000 in
theorem l_X8_takeSentence_101 {r : Int32 × zI × zL} (C : zC p l e R s m args below meth c s0 a0 d cy B0 yX8_takeSentence.cls cX8_takeSentence 1 (some .boolean) bc bs bc bs 9 196 []) {Q : Nat} (hQ : zpl Q) (w0 : Int32) (I : zI) (L : zL) (h : f_X8_takeSentence_101 Q w0 I L = some r) : zG p l e R s m args below meth c d cy B0 1 bc bs (zQ below s args d cy B0 bc bs (.inl (some (.int r.1))) zSH zKn bc bs r.2.1 r.2.2) 101 [] [.int w0] zSH zKn bc bs I L := by
  unfold f_X8_takeSentence_101 at h
  obtain ⟨hb36, h⟩ := zck_e h
  obtain rfl := Option.some.inj h
  exact z_iret C dX8_takeSentence_101 .boolean rfl (zbo_n hb36).1 rfl
set_option maxHeartbeats 4000000 in
set_option maxRecDepth 100000 in
theorem l_X8_takeSentence_100 {r : Int32 × zI × zL} (C : zC p l e R s m args below meth c s0 a0 d cy B0 yX8_takeSentence.cls cX8_takeSentence 1 (some .boolean) bc bs bc bs 9 196 []) {Q : Nat} (hQ : zpl Q) (I : zI) (L : zL) (h : f_X8_takeSentence_100 Q I L = some r) : zG p l e R s m args below meth c d cy B0 1 bc bs (zQ below s args d cy B0 bc bs (.inl (some (.int r.1))) zSH zKn bc bs r.2.1 r.2.2) 100 [] [] zSH zKn bc bs I L := by
  unfold f_X8_takeSentence_100 at h
  refine z_iconst C (v := 0) (by decide) dX8_takeSentence_100 ?_
  exact l_X8_takeSentence_101 C hQ (0 : Int32) I L h
set_option maxHeartbeats 4000000 in
set_option maxRecDepth 100000 in
theorem l_X8_takeSentence_135 {r : Int32 × zI × zL} (C : zC p l e R s m args below meth c s0 a0 d cy B0 yX8_takeSentence.cls cX8_takeSentence 1 (some .boolean) bc bs bc bs 9 196 []) {Q : Nat} (hQ : zpl Q) (w0 : Int32) (I : zI) (L : zL) (h : f_X8_takeSentence_135 Q w0 I L = some r) : zG p l e R s m args below meth c d cy B0 1 bc bs (zQ below s args d cy B0 bc bs (.inl (some (.int r.1))) zSH zKn bc bs r.2.1 r.2.2) 135 [] [.int w0] zSH zKn bc bs I L := by
  unfold f_X8_takeSentence_135 at h
  obtain ⟨hb35, h⟩ := zck_e h
  obtain rfl := Option.some.inj h
  exact z_iret C dX8_takeSentence_135 .boolean rfl (zbo_n hb35).1 rfl
set_option maxHeartbeats 4000000 in
set_option maxRecDepth 100000 in
theorem l_X8_takeSentence_134 {r : Int32 × zI × zL} (C : zC p l e R s m args below meth c s0 a0 d cy B0 yX8_takeSentence.cls cX8_takeSentence 1 (some .boolean) bc bs bc bs 9 196 []) {Q : Nat} (hQ : zpl Q) (I : zI) (L : zL) (h : f_X8_takeSentence_134 Q I L = some r) : zG p l e R s m args below meth c d cy B0 1 bc bs (zQ below s args d cy B0 bc bs (.inl (some (.int r.1))) zSH zKn bc bs r.2.1 r.2.2) 134 [] [] zSH zKn bc bs I L := by
  unfold f_X8_takeSentence_134 at h
  refine z_iconst C (v := 0) (by decide) dX8_takeSentence_134 ?_
  exact l_X8_takeSentence_135 C hQ (0 : Int32) I L h
set_option maxHeartbeats 4000000 in
set_option maxRecDepth 100000 in
theorem l_X8_takeSentence_169 {r : Int32 × zI × zL} (C : zC p l e R s m args below meth c s0 a0 d cy B0 yX8_takeSentence.cls cX8_takeSentence 1 (some .boolean) bc bs bc bs 9 196 []) {Q : Nat} (hQ : zpl Q) (w0 : Int32) (I : zI) (L : zL) (h : f_X8_takeSentence_169 Q w0 I L = some r) : zG p l e R s m args below meth c d cy B0 1 bc bs (zQ below s args d cy B0 bc bs (.inl (some (.int r.1))) zSH zKn bc bs r.2.1 r.2.2) 169 [] [.int w0] zSH zKn bc bs I L := by
  unfold f_X8_takeSentence_169 at h
  obtain ⟨hb34, h⟩ := zck_e h
  obtain rfl := Option.some.inj h
  exact z_iret C dX8_takeSentence_169 .boolean rfl (zbo_n hb34).1 rfl
set_option maxHeartbeats 4000000 in
set_option maxRecDepth 100000 in
theorem l_X8_takeSentence_168 {r : Int32 × zI × zL} (C : zC p l e R s m args below meth c s0 a0 d cy B0 yX8_takeSentence.cls cX8_takeSentence 1 (some .boolean) bc bs bc bs 9 196 []) {Q : Nat} (hQ : zpl Q) (I : zI) (L : zL) (h : f_X8_takeSentence_168 Q I L = some r) : zG p l e R s m args below meth c d cy B0 1 bc bs (zQ below s args d cy B0 bc bs (.inl (some (.int r.1))) zSH zKn bc bs r.2.1 r.2.2) 168 [] [] zSH zKn bc bs I L := by
  unfold f_X8_takeSentence_168 at h
  refine z_iconst C (v := 0) (by decide) dX8_takeSentence_168 ?_
  exact l_X8_takeSentence_169 C hQ (0 : Int32) I L h
set_option maxHeartbeats 4000000 in
set_option maxRecDepth 100000 in
theorem c_X8_takeSentence {r : Int32 × zI × zL} (hE : zE0 l s0 a0 d cy B0) {Q : Nat} (hQ : zpl Q) (I : zI) (L : zL) (h : f_X8_takeSentence Q I L = some r) : zM l s0 d cy B0 yX8_takeSentence cX8_takeSentence 1 (some .boolean) 9 196 [.ref (B0 + 3)] zSH zKn bc bs I L (.inl (some (.int r.1))) zSH zKn bc bs r.2.1 r.2.2 := by
  refine z_meth yy_X8_takeSentence hE (Nat.le_of_ble_eq_true rfl) (fun p e R s m args below meth c C => ?_)
  show zG p l e R s m args below meth c d cy B0 1 bc bs (zQ below s args d cy B0 bc bs (.inl (some (.int r.1))) zSH zKn bc bs r.2.1 r.2.2) 0 [(0, .ref (B0 + 3))] [] zSH zKn bc bs I L
  unfold f_X8_takeSentence at h
  refine z_aload_n C rfl 0 rfl dX8_takeSentence_0 ?_
  refine z_ldcS C 0 (by decide) rfl rfl dX8_takeSentence_1 ?_
  obtain ⟨x2, hg1, h⟩ := zb1_e h
  refine z_callV C zc_8 rfl (by decide) dX8_takeSentence_3 yy_X8_isWord (c_X8_isWord C.2.2.2.2.1 (by decide) I L hg1) q_556 q_558 q_3 (by decide) (by decide) rfl rfl (Nat.le_of_ble_eq_true rfl) ⟨Nat.le_refl _, Nat.le_refl _, Nat.le_refl _, Nat.le_refl _⟩ ?_
  refine z_if_eq C 34 (by decide) dX8_takeSentence_6 (fun hc => ?_) (fun hc => ?_)
  · have h := zif_t hc h
    refine z_aload_n C rfl 0 rfl dX8_takeSentence_34 ?_
    refine z_ldcS C 1 (by decide) rfl rfl dX8_takeSentence_35 ?_
    obtain ⟨x4, hg3, h⟩ := zb1_e h
    refine z_callV C zc_8 rfl (by decide) dX8_takeSentence_37 yy_X8_isWord (c_X8_isWord C.2.2.2.2.1 (by decide) I L hg3) q_556 q_558 q_3 (by decide) (by decide) rfl rfl (Nat.le_of_ble_eq_true rfl) ⟨Nat.le_refl _, Nat.le_refl _, Nat.le_refl _, Nat.le_refl _⟩ ?_
    refine z_if_eq C 68 (by decide) dX8_takeSentence_40 (fun hc => ?_) (fun hc => ?_)
    · have h := zif_t hc h
      refine z_aload_n C rfl 0 rfl dX8_takeSentence_68 ?_
      refine z_ldcS C 5 (by decide) rfl rfl dX8_takeSentence_69 ?_
      obtain ⟨x6, hg5, h⟩ := zb1_e h
      refine z_callV C zc_8 rfl (by decide) dX8_takeSentence_71 yy_X8_isWord (c_X8_isWord C.2.2.2.2.1 (by decide) I L hg5) q_556 q_558 q_3 (by decide) (by decide) rfl rfl (Nat.le_of_ble_eq_true rfl) ⟨Nat.le_refl _, Nat.le_refl _, Nat.le_refl _, Nat.le_refl _⟩ ?_
      refine z_if_eq C 102 (by decide) dX8_takeSentence_74 (fun hc => ?_) (fun hc => ?_)
      · have h := zif_t hc h
        refine z_aload_n C rfl 0 rfl dX8_takeSentence_102 ?_
        refine z_ldcS C 6 (by decide) rfl rfl dX8_takeSentence_103 ?_
        obtain ⟨x8, hg7, h⟩ := zb1_e h
        refine z_callV C zc_8 rfl (by decide) dX8_takeSentence_105 yy_X8_isWord (c_X8_isWord C.2.2.2.2.1 (by decide) I L hg7) q_556 q_558 q_3 (by decide) (by decide) rfl rfl (Nat.le_of_ble_eq_true rfl) ⟨Nat.le_refl _, Nat.le_refl _, Nat.le_refl _, Nat.le_refl _⟩ ?_
        refine z_if_eq C 136 (by decide) dX8_takeSentence_108 (fun hc => ?_) (fun hc => ?_)
        · have h := zif_t hc h
          refine z_aload_n C rfl 0 rfl dX8_takeSentence_136 ?_
          refine z_ldcS C 8 (by decide) rfl rfl dX8_takeSentence_137 ?_
          obtain ⟨x10, hg9, h⟩ := zb1_e h
          refine z_callV C zc_8 rfl (by decide) dX8_takeSentence_139 yy_X8_isWord (c_X8_isWord C.2.2.2.2.1 (by decide) I L hg9) q_556 q_558 q_3 (by decide) (by decide) rfl rfl (Nat.le_of_ble_eq_true rfl) ⟨Nat.le_refl _, Nat.le_refl _, Nat.le_refl _, Nat.le_refl _⟩ ?_
          refine z_if_eq C 168 (by decide) dX8_takeSentence_142 (fun hc => ?_) (fun hc => ?_)
          · have h := zif_t hc h
            refine z_lv [] (lv' := []) rfl ?_
            exact l_X8_takeSentence_168 C hQ I L h
          · have h := zif_f hc h
            refine z_aload_n C rfl 0 rfl dX8_takeSentence_145 ?_
            obtain ⟨hb11, h⟩ := zck_e h
            refine z_getm C zc_8 dX8_takeSentence_146 3 3 Q rfl (by decide) (by decide) q_249 rfl (of_decide_eq_true hb11) (zpl_lt2 hQ) ?_
            refine z_geti C zc_7 dX8_takeSentence_149 15 Q (zpl_k hQ) (zpl_lt hQ) (by decide) q_212 rfl ?_
            refine z_bipush C (v := 8) (by decide) dX8_takeSentence_152 ?_
            refine z_icmp_ge C 168 (by decide) dX8_takeSentence_154 (fun hc => ?_) (fun hc => ?_)
            · have h := zif_t hc h
              refine z_lv [] (lv' := []) rfl ?_
              exact l_X8_takeSentence_168 C hQ I L h
            · have h := zif_f hc h
              refine z_aload_n C rfl 0 rfl dX8_takeSentence_157 ?_
              obtain ⟨x13, I14, L15, hg12, h⟩ := zb3_e h
              refine z_callV C zc_8 rfl (by decide) dX8_takeSentence_158 yy_X8_takeDeviceSentence (c_X8_takeDeviceSentence C.2.2.2.2.1 hQ I L hg12) q_688 q_690 q_16 (by decide) (by decide) rfl rfl (Nat.le_of_ble_eq_true rfl) ⟨Nat.le_refl _, Nat.le_refl _, Nat.le_refl _, Nat.le_refl _⟩ ?_
              refine z_if_eq C 168 (by decide) dX8_takeSentence_161 (fun hc => ?_) (fun hc => ?_)
              · have h := zif_t hc h
                refine z_lv [] (lv' := []) rfl ?_
                exact l_X8_takeSentence_168 C hQ I14 L15 h
              · have h := zif_f hc h
                refine z_iconst C (v := 1) (by decide) dX8_takeSentence_164 ?_
                refine z_goto C 169 (by decide) dX8_takeSentence_165 ?_
                refine z_lv [] (lv' := []) rfl ?_
                exact l_X8_takeSentence_169 C hQ (1 : Int32) I14 L15 h
        · have h := zif_f hc h
          refine z_aload_n C rfl 0 rfl dX8_takeSentence_111 ?_
          obtain ⟨hb16, h⟩ := zck_e h
          refine z_getm C zc_8 dX8_takeSentence_112 3 3 Q rfl (by decide) (by decide) q_249 rfl (of_decide_eq_true hb16) (zpl_lt2 hQ) ?_
          refine z_geti C zc_7 dX8_takeSentence_115 14 Q (zpl_k hQ) (zpl_lt hQ) (by decide) q_207 rfl ?_
          refine z_bipush C (v := 16) (by decide) dX8_takeSentence_118 ?_
          refine z_icmp_ge C 134 (by decide) dX8_takeSentence_120 (fun hc => ?_) (fun hc => ?_)
          · have h := zif_t hc h
            refine z_lv [] (lv' := []) rfl ?_
            exact l_X8_takeSentence_134 C hQ I L h
          · have h := zif_f hc h
            refine z_aload_n C rfl 0 rfl dX8_takeSentence_123 ?_
            obtain ⟨x18, I19, hg17, h⟩ := zb2_e h
            refine z_callV C zc_8 rfl (by decide) dX8_takeSentence_124 yy_X8_takeJoinSentence (c_X8_takeJoinSentence C.2.2.2.2.1 hQ I L hg17) q_670 q_672 q_13 (by decide) (by decide) rfl rfl (Nat.le_of_ble_eq_true rfl) ⟨Nat.le_refl _, Nat.le_refl _, Nat.le_refl _, Nat.le_refl _⟩ ?_
            refine z_if_eq C 134 (by decide) dX8_takeSentence_127 (fun hc => ?_) (fun hc => ?_)
            · have h := zif_t hc h
              refine z_lv [] (lv' := []) rfl ?_
              exact l_X8_takeSentence_134 C hQ I19 L h
            · have h := zif_f hc h
              refine z_iconst C (v := 1) (by decide) dX8_takeSentence_130 ?_
              refine z_goto C 135 (by decide) dX8_takeSentence_131 ?_
              refine z_lv [] (lv' := []) rfl ?_
              exact l_X8_takeSentence_135 C hQ (1 : Int32) I19 L h
      · have h := zif_f hc h
        refine z_aload_n C rfl 0 rfl dX8_takeSentence_77 ?_
        obtain ⟨hb20, h⟩ := zck_e h
        refine z_getm C zc_8 dX8_takeSentence_78 3 3 Q rfl (by decide) (by decide) q_249 rfl (of_decide_eq_true hb20) (zpl_lt2 hQ) ?_
        refine z_geti C zc_7 dX8_takeSentence_81 13 Q (zpl_k hQ) (zpl_lt hQ) (by decide) q_203 rfl ?_
        refine z_bipush C (v := 8) (by decide) dX8_takeSentence_84 ?_
        refine z_icmp_ge C 100 (by decide) dX8_takeSentence_86 (fun hc => ?_) (fun hc => ?_)
        · have h := zif_t hc h
          refine z_lv [] (lv' := []) rfl ?_
          exact l_X8_takeSentence_100 C hQ I L h
        · have h := zif_f hc h
          refine z_aload_n C rfl 0 rfl dX8_takeSentence_89 ?_
          obtain ⟨x22, I23, hg21, h⟩ := zb2_e h
          refine z_callV C zc_8 rfl (by decide) dX8_takeSentence_90 yy_X8_takeWireSentence (c_X8_takeWireSentence C.2.2.2.2.1 hQ I L hg21) q_657 q_659 q_12 (by decide) (by decide) rfl rfl (Nat.le_of_ble_eq_true rfl) ⟨Nat.le_refl _, Nat.le_refl _, Nat.le_refl _, Nat.le_refl _⟩ ?_
          refine z_if_eq C 100 (by decide) dX8_takeSentence_93 (fun hc => ?_) (fun hc => ?_)
          · have h := zif_t hc h
            refine z_lv [] (lv' := []) rfl ?_
            exact l_X8_takeSentence_100 C hQ I23 L h
          · have h := zif_f hc h
            refine z_iconst C (v := 1) (by decide) dX8_takeSentence_96 ?_
            refine z_goto C 101 (by decide) dX8_takeSentence_97 ?_
            refine z_lv [] (lv' := []) rfl ?_
            exact l_X8_takeSentence_101 C hQ (1 : Int32) I23 L h
    · have h := zif_f hc h
      refine z_aload_n C rfl 0 rfl dX8_takeSentence_43 ?_
      obtain ⟨hb24, h⟩ := zck_e h
      refine z_getm C zc_8 dX8_takeSentence_44 3 3 Q rfl (by decide) (by decide) q_249 rfl (of_decide_eq_true hb24) (zpl_lt2 hQ) ?_
      refine z_geti C zc_7 dX8_takeSentence_47 12 Q (zpl_k hQ) (zpl_lt hQ) (by decide) q_198 rfl ?_
      refine z_bipush C (v := 24) (by decide) dX8_takeSentence_50 ?_
      refine z_icmp_ge C 66 (by decide) dX8_takeSentence_52 (fun hc => ?_) (fun hc => ?_)
      · have h := zif_t hc h
        refine z_lv [] (lv' := []) rfl ?_
        exact l_X8_takeSentence_66 C hQ I L h
      · have h := zif_f hc h
        refine z_aload_n C rfl 0 rfl dX8_takeSentence_55 ?_
        obtain ⟨x26, I27, L28, hg25, h⟩ := zb3_e h
        refine z_callV C zc_8 rfl (by decide) dX8_takeSentence_56 yy_X8_takeMakeSentence (c_X8_takeMakeSentence C.2.2.2.2.1 hQ I L hg25) q_637 q_639 q_8 (by decide) (by decide) rfl rfl (Nat.le_of_ble_eq_true rfl) ⟨Nat.le_refl _, Nat.le_refl _, Nat.le_refl _, Nat.le_refl _⟩ ?_
        refine z_if_eq C 66 (by decide) dX8_takeSentence_59 (fun hc => ?_) (fun hc => ?_)
        · have h := zif_t hc h
          refine z_lv [] (lv' := []) rfl ?_
          exact l_X8_takeSentence_66 C hQ I27 L28 h
        · have h := zif_f hc h
          refine z_iconst C (v := 1) (by decide) dX8_takeSentence_62 ?_
          refine z_goto C 67 (by decide) dX8_takeSentence_63 ?_
          refine z_lv [] (lv' := []) rfl ?_
          exact l_X8_takeSentence_67 C hQ (1 : Int32) I27 L28 h
  · have h := zif_f hc h
    refine z_aload_n C rfl 0 rfl dX8_takeSentence_9 ?_
    obtain ⟨hb29, h⟩ := zck_e h
    refine z_getm C zc_8 dX8_takeSentence_10 3 3 Q rfl (by decide) (by decide) q_249 rfl (of_decide_eq_true hb29) (zpl_lt2 hQ) ?_
    refine z_geti C zc_7 dX8_takeSentence_13 12 Q (zpl_k hQ) (zpl_lt hQ) (by decide) q_198 rfl ?_
    refine z_bipush C (v := 24) (by decide) dX8_takeSentence_16 ?_
    refine z_icmp_ge C 32 (by decide) dX8_takeSentence_18 (fun hc => ?_) (fun hc => ?_)
    · have h := zif_t hc h
      refine z_lv [] (lv' := []) rfl ?_
      exact l_X8_takeSentence_32 C hQ I L h
    · have h := zif_f hc h
      refine z_aload_n C rfl 0 rfl dX8_takeSentence_21 ?_
      obtain ⟨x31, I32, L33, hg30, h⟩ := zb3_e h
      refine z_callV C zc_8 rfl (by decide) dX8_takeSentence_22 yy_X8_takeInputSentence (c_X8_takeInputSentence C.2.2.2.2.1 hQ I L hg30) q_611 q_613 q_4 (by decide) (by decide) rfl rfl (Nat.le_of_ble_eq_true rfl) ⟨Nat.le_refl _, Nat.le_refl _, Nat.le_refl _, Nat.le_refl _⟩ ?_
      refine z_if_eq C 32 (by decide) dX8_takeSentence_25 (fun hc => ?_) (fun hc => ?_)
      · have h := zif_t hc h
        refine z_lv [] (lv' := []) rfl ?_
        exact l_X8_takeSentence_32 C hQ I32 L33 h
      · have h := zif_f hc h
        refine z_iconst C (v := 1) (by decide) dX8_takeSentence_28 ?_
        refine z_goto C 33 (by decide) dX8_takeSentence_29 ?_
        refine z_lv [] (lv' := []) rfl ?_
        exact l_X8_takeSentence_33 C hQ (1 : Int32) I32 L33 h
end Zp05_08_walk
