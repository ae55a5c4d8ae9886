section Zp05_09_walk
variable {p : Program} {l : Launch} {e : Env} {R : Room} {s : State} {m : MethodId} {args : Array Value} {below : List Frame} {meth : Method} {c : Code} {s0 : State} {a0 : Array Value} {d : va_G} {cy : Nat → ClassId} {B0 : Nat} {bc bs : Nat}
theorem q_1 : Cond.selects "DeviceFind$Reader" ⟨"DeviceFind$Reader", "isAtEnd", "()Z"⟩ ⟨"DeviceFind$Reader", "isAtEnd", "()Z"⟩ ∈ lw_tbl := List.mem_of_getElem? (i := 1) (by decide +kernel)
theorem q_2 : Cond.selects "DeviceFind$Reader" ⟨"DeviceFind$Reader", "takeSentence", "()Z"⟩ ⟨"DeviceFind$Reader", "takeSentence", "()Z"⟩ ∈ lw_tbl := List.mem_of_getElem? (i := 2) (by decide +kernel)
theorem q_246 : (Cond.fieldLink "DeviceFind$Reader" (9 : Nat) "DeviceFind$Reader" "tape" "LDeviceFind$Tape;") ∈ lw_tbl := List.mem_of_getElem? (i := 246) (by decide +kernel)
theorem q_527 : (Cond.code ({ cls := "DeviceFind$Reader", name := "wrongWord", desc := "()I" } : Jvm.MethodName) prog_10_method_3_code (2 : Nat) (Option.some Jvm.ClassFile.FieldType.int)) ∈ lw_tbl := List.mem_of_getElem? (i := 527) (by decide +kernel)
theorem q_528 : (Cond.methodLink "DeviceFind$Reader" (36 : Nat) ({ cls := "DeviceFind$Words", name := "split", desc := "(LDeviceFind$Tape;)V" } : Jvm.MethodName)) ∈ lw_tbl := List.mem_of_getElem? (i := 528) (by decide +kernel)
theorem q_529 : (Cond.instanceMethod ({ cls := "DeviceFind$Words", name := "split", desc := "(LDeviceFind$Tape;)V" } : Jvm.MethodName)) ∈ lw_tbl := List.mem_of_getElem? (i := 529) (by decide +kernel)
theorem q_530 : (Cond.selects "DeviceFind$Words" ({ cls := "DeviceFind$Words", name := "split", desc := "(LDeviceFind$Tape;)V" } : Jvm.MethodName) ({ cls := "DeviceFind$Words", name := "split", desc := "(LDeviceFind$Tape;)V" } : Jvm.MethodName)) ∈ lw_tbl := List.mem_of_getElem? (i := 530) (by decide +kernel)
theorem q_543 : (Cond.methodLink "DeviceFind$Reader" (40 : Nat) ({ cls := "DeviceFind$Plan", name := "clear", desc := "()V" } : Jvm.MethodName)) ∈ lw_tbl := List.mem_of_getElem? (i := 543) (by decide +kernel)
theorem q_544 : (Cond.instanceMethod ({ cls := "DeviceFind$Plan", name := "clear", desc := "()V" } : Jvm.MethodName)) ∈ lw_tbl := List.mem_of_getElem? (i := 544) (by decide +kernel)
theorem q_545 : (Cond.selects "DeviceFind$Plan" ({ cls := "DeviceFind$Plan", name := "clear", desc := "()V" } : Jvm.MethodName) ({ cls := "DeviceFind$Plan", name := "clear", desc := "()V" } : Jvm.MethodName)) ∈ lw_tbl := List.mem_of_getElem? (i := 545) (by decide +kernel)
theorem q_547 : (Cond.methodLink "DeviceFind$Reader" (43 : Nat) ({ cls := "DeviceFind$Reader", name := "isAtEnd", desc := "()Z" } : Jvm.MethodName)) ∈ lw_tbl := List.mem_of_getElem? (i := 547) (by decide +kernel)
theorem q_549 : (Cond.instanceMethod ({ cls := "DeviceFind$Reader", name := "isAtEnd", desc := "()Z" } : Jvm.MethodName)) ∈ lw_tbl := List.mem_of_getElem? (i := 549) (by decide +kernel)
theorem q_551 : (Cond.methodLink "DeviceFind$Reader" (47 : Nat) ({ cls := "DeviceFind$Reader", name := "takeSentence", desc := "()Z" } : Jvm.MethodName)) ∈ lw_tbl := List.mem_of_getElem? (i := 551) (by decide +kernel)
theorem q_553 : (Cond.instanceMethod ({ cls := "DeviceFind$Reader", name := "takeSentence", desc := "()Z" } : Jvm.MethodName)) ∈ lw_tbl := List.mem_of_getElem? (i := 553) (by decide +kernel)
theorem yy_X8_wrongWord : zY yX8_wrongWord cX8_wrongWord 2 (some .int) 0 := ⟨q_527, q_78, by decide +kernel, by decide +kernel, by decide +kernel⟩
noncomputable def f_X8_wrongWord_57 (Q : Nat) (I : zI) (L : zL) : Option (Int32 × zI × zL) :=
  some ((-1 : Int32), I, L)
noncomputable def f_X8_wrongWord_25 (Q : Nat) (k25 : Int32 → zI → zL → Option (Int32 × zI × zL)) (v1 : Int32) (I : zI) (L : zL) : Option (Int32 × zI × zL) :=
  if (800 : Int32) ≤ v1 then (f_X8_wrongWord_57 Q I L) else (zb1 (f_X8_isAtEnd I) (fun x9 => if x9 = 0 then (zb3 (f_X8_takeSentence Q I L) (fun x11 I12 L13 => if x11 = 0 then (zlt (I12 3 4) (fun x15 => some (x15, I12, L13))) else (zlt (v1 + 1) (fun x14 => k25 x14 I12 L13)))) else (f_X8_wrongWord_57 Q I L)))
noncomputable def f_X8_wrongWord (Q : Nat) (I : zI) (L : zL) : Option (Int32 × zI × zL) :=
  zb2 (f_X10_split I L) (fun I2 L3 => zck (decide (I2 3 3 = nI (Q + 1))) (zb1 (f_X7_clear Q I2) (fun I6 => zlt (zu I6 3 4 (0 : Int32)) (fun I7 => zlp3 (f_X8_wrongWord_25 Q) zF (0 : Int32) I7 L3))))
set_option maxHeartbeats 4000000 in
set_option maxRecDepth 100000 in
theorem l_X8_wrongWord_57 {r : Int32 × zI × zL} (C : zC p l e R s m args below meth c s0 a0 d cy B0 yX8_wrongWord.cls cX8_wrongWord 2 (some .int) bc bs bc bs 10 216 []) {Q : Nat} (hQ : zpl Q) (I : zI) (L : zL) (h : f_X8_wrongWord_57 Q I L = some r) : zG p l e R s m args below meth c d cy B0 2 bc bs (zQ below s args d cy B0 bc bs (.inl (some (.int r.1))) zSH zKn bc bs r.2.1 r.2.2) 57 [] [] zSH zKn bc bs I L := by
  unfold f_X8_wrongWord_57 at h
  refine z_iconst C (v := -1) (by decide) dX8_wrongWord_57 ?_
  obtain rfl := Option.some.inj h
  exact z_iret C dX8_wrongWord_58 .int rfl rfl rfl
set_option maxHeartbeats 4000000 in
set_option maxRecDepth 100000 in
theorem l_X8_wrongWord_25 {r : Int32 × zI × zL} (C : zC p l e R s m args below meth c s0 a0 d cy B0 yX8_wrongWord.cls cX8_wrongWord 2 (some .int) bc bs bc bs 10 216 []) {Q : Nat} (hQ : zpl Q) (k25 : Int32 → zI → zL → Option (Int32 × zI × zL)) (hk25 : ∀ (v1 : Int32) (I : zI) (L : zL), k25 v1 I L = some r → zG p l e R s m args below meth c d cy B0 2 bc bs (zQ below s args d cy B0 bc bs (.inl (some (.int r.1))) zSH zKn bc bs r.2.1 r.2.2) 25 [(0, .ref (B0 + 3)), (1, .int v1)] [] zSH zKn bc bs I L) (v1 : Int32) (I : zI) (L : zL) (h : f_X8_wrongWord_25 Q k25 v1 I L = some r) : zG p l e R s m args below meth c d cy B0 2 bc bs (zQ below s args d cy B0 bc bs (.inl (some (.int r.1))) zSH zKn bc bs r.2.1 r.2.2) 25 [(0, .ref (B0 + 3)), (1, .int v1)] [] zSH zKn bc bs I L := by
  unfold f_X8_wrongWord_25 at h
  refine z_iload_n C rfl 1 rfl dX8_wrongWord_25 ?_
  refine z_sipush C (v := 800) (by decide) dX8_wrongWord_26 ?_
  refine z_icmp_ge C 57 (by decide) dX8_wrongWord_29 (fun hc => ?_) (fun hc => ?_)
  · have h := zif_t hc h
    refine z_lv [] (lv' := []) rfl ?_
    exact l_X8_wrongWord_57 C hQ I L h
  · have h := zif_f hc h
    refine z_aload_n C rfl 0 rfl dX8_wrongWord_32 ?_
    obtain ⟨x9, hg8, h⟩ := zb1_e h
    refine z_callV C zc_8 rfl (by decide) dX8_wrongWord_33 yy_X8_isAtEnd (c_X8_isAtEnd C.2.2.2.2.1  I L hg8) q_547 q_549 q_1 (by decide) (by decide) rfl rfl (Nat.le_of_ble_eq_true rfl) ⟨Nat.le_refl _, Nat.le_refl _, Nat.le_refl _, Nat.le_refl _⟩ ?_
    refine z_if_ne C 57 (by decide) dX8_wrongWord_36 (fun hc => ?_) (fun hc => ?_)
    · have h := zif_f hc h
      refine z_lv [] (lv' := []) rfl ?_
      exact l_X8_wrongWord_57 C hQ I L h
    · have h := zif_t hc h
      refine z_aload_n C rfl 0 rfl dX8_wrongWord_39 ?_
      obtain ⟨x11, I12, L13, hg10, h⟩ := zb3_e h
      refine z_callV C zc_8 rfl (by decide) dX8_wrongWord_40 yy_X8_takeSentence (c_X8_takeSentence C.2.2.2.2.1 hQ I L hg10) q_551 q_553 q_2 (by decide) (by decide) rfl rfl (Nat.le_of_ble_eq_true rfl) ⟨Nat.le_refl _, Nat.le_refl _, Nat.le_refl _, Nat.le_refl _⟩ ?_
      refine z_if_ne C 51 (by decide) dX8_wrongWord_43 (fun hc => ?_) (fun hc => ?_)
      · have h := zif_f hc h
        obtain ⟨x14, ex14, h⟩ := zlt_e h
        refine z_iinc C (j := 1) (v := x14) (lv' := [(1, .int x14), (0, .ref (B0 + 3))]) rfl (by rw [ex14]; rfl) (by decide) rfl dX8_wrongWord_51 ?_
        refine z_goto C 25 (by decide) dX8_wrongWord_54 ?_
        refine z_lv [1, 0] (lv' := [(0, .ref (B0 + 3)), (1, .int x14)]) rfl ?_
        exact hk25 x14 I12 L13 h
      · have h := zif_t hc h
        refine z_aload_n C rfl 0 rfl dX8_wrongWord_46 ?_
        refine z_geti C zc_8 dX8_wrongWord_47 4 3 rfl (by decide) (by decide) q_250 rfl ?_
        obtain ⟨x15, ex15, h⟩ := zlt_e h
        refine z_eqi C ex15 ?_
        obtain rfl := Option.some.inj h
        exact z_iret C dX8_wrongWord_50 .int rfl rfl rfl
set_option maxHeartbeats 4000000 in
set_option maxRecDepth 100000 in
theorem L_X8_wrongWord_25 {r : Int32 × zI × zL} (C : zC p l e R s m args below meth c s0 a0 d cy B0 yX8_wrongWord.cls cX8_wrongWord 2 (some .int) bc bs bc bs 10 216 []) {Q : Nat} (hQ : zpl Q) (v1 : Int32) (I : zI) (L : zL) (h : zlp3 (f_X8_wrongWord_25 Q) zF v1 I L = some r) : zG p l e R s m args below meth c d cy B0 2 bc bs (zQ below s args d cy B0 bc bs (.inl (some (.int r.1))) zSH zKn bc bs r.2.1 r.2.2) 25 [(0, .ref (B0 + 3)), (1, .int v1)] [] zSH zKn bc bs I L :=
 zlp3_e (fun (v1 : Int32) (I : zI) (L : zL) => zG p l e R s m args below meth c d cy B0 2 bc bs (zQ below s args d cy B0 bc bs (.inl (some (.int r.1))) zSH zKn bc bs r.2.1 r.2.2) 25 [(0, .ref (B0 + 3)), (1, .int v1)] [] zSH zKn bc bs I L) (fun k9 hk9 v1 I L h => l_X8_wrongWord_25 C hQ k9 hk9 v1 I L h) zF v1 I L h
set_option maxHeartbeats 4000000 in
set_option maxRecDepth 100000 in
theorem c_X8_wrongWord {r : Int32 × zI × zL} (hE : zE0 l s0 a0 d cy B0) {Q : Nat} (hQ : zpl Q) (I : zI) (L : zL) (h : f_X8_wrongWord Q I L = some r) : zM l s0 d cy B0 yX8_wrongWord cX8_wrongWord 2 (some .int) 10 216 [.ref (B0 + 3)] zSH zKn bc bs I L (.inl (some (.int r.1))) zSH zKn bc bs r.2.1 r.2.2 := by
  refine z_meth yy_X8_wrongWord hE (Nat.le_of_ble_eq_true rfl) (fun p e R s m args below meth c C => ?_)
  show zG p l e R s m args below meth c d cy B0 2 bc bs (zQ below s args d cy B0 bc bs (.inl (some (.int r.1))) zSH zKn bc bs r.2.1 r.2.2) 0 [(0, .ref (B0 + 3))] [] zSH zKn bc bs I L
  unfold f_X8_wrongWord at h
  refine z_aload_n C rfl 0 rfl dX8_wrongWord_0 ?_
  refine z_getr C zc_8 dX8_wrongWord_1 2 3 4 rfl (by decide) (by decide) q_248 rfl rfl ?_
  refine z_aload_n C rfl 0 rfl dX8_wrongWord_4 ?_
  refine z_getr C zc_8 dX8_wrongWord_5 0 3 1 rfl (by decide) (by decide) q_246 rfl rfl ?_
  obtain ⟨I2, L3, hg1, h⟩ := zb2_e h
  refine z_callV C zc_10 rfl (by decide) dX8_wrongWord_8 yy_X10_split (c_X10_split C.2.2.2.2.1  I L hg1) q_528 q_529 q_530 (by decide) (by decide) rfl rfl (Nat.le_of_ble_eq_true rfl) ⟨Nat.le_refl _, Nat.le_refl _, Nat.le_refl _, Nat.le_refl _⟩ ?_
  refine z_aload_n C rfl 0 rfl dX8_wrongWord_11 ?_
  obtain ⟨hb4, h⟩ := zck_e h
  refine z_getm C zc_8 dX8_wrongWord_12 3 3 Q rfl (by decide) (by decide) q_249 rfl (of_decide_eq_true hb4) (zpl_lt2 hQ) ?_
  obtain ⟨I6, hg5, h⟩ := zb1_e h
  refine z_callV C zc_7 (zpl_k hQ) (zpl_lt hQ) dX8_wrongWord_15 yy_X7_clear (c_X7_clear C.2.2.2.2.1 hQ I2 L3 hg5) q_543 q_544 q_545 (by decide) (by decide) rfl rfl (Nat.le_of_ble_eq_true rfl) ⟨Nat.le_refl _, Nat.le_refl _, Nat.le_refl _, Nat.le_refl _⟩ ?_
  refine z_aload_n C rfl 0 rfl dX8_wrongWord_18 ?_
  refine z_iconst C (v := 0) (by decide) dX8_wrongWord_19 ?_
  refine z_puti C zc_8 dX8_wrongWord_20 4 3 rfl (by decide) (by decide) rfl q_250 rfl rfl rfl ?_
  obtain ⟨I7, eI7, h⟩ := zlt_e h
  refine z_eqI C eI7 ?_
  refine z_iconst C (v := 0) (by decide) dX8_wrongWord_23 ?_
  refine z_istore_n C (lv' := [(1, .int (0 : Int32)), (0, .ref (B0 + 3))]) rfl (by decide) rfl dX8_wrongWord_24 ?_
  refine z_lv [1, 0] (lv' := [(0, .ref (B0 + 3)), (1, .int (0 : Int32))]) rfl ?_
  exact L_X8_wrongWord_25 C hQ (0 : Int32) I7 L3 h
theorem q_77 : (Cond.initialized "DeviceFind$Tape") ∈ lw_tbl := List.mem_of_getElem? (i := 77) (by decide +kernel)
theorem q_124 : (Cond.fieldLink "DeviceFind$Tape" (9 : Nat) "DeviceFind$Tape" "characters" "[C") ∈ lw_tbl := List.mem_of_getElem? (i := 124) (by decide +kernel)
theorem q_126 : (Cond.fieldLink "DeviceFind$Tape" (15 : Nat) "DeviceFind$Tape" "length" "I") ∈ lw_tbl := List.mem_of_getElem? (i := 126) (by decide +kernel)
theorem q_510 : (Cond.code ({ cls := "DeviceFind$Tape", name := "add", desc := "(I)Z" } : Jvm.MethodName) prog_11_method_2_code (3 : Nat) (Option.some Jvm.ClassFile.FieldType.boolean)) ∈ lw_tbl := List.mem_of_getElem? (i := 510) (by decide +kernel)
theorem yy_X9_add : zY yX9_add cX9_add 3 (some .boolean) 1 := ⟨q_510, q_77, by decide +kernel, by decide +kernel, by decide +kernel⟩
noncomputable def f_X9_add_38 (I : zI) : Option (Int32 × zI) :=
  some ((0 : Int32), I)
noncomputable def f_X9_add_23 (v1 : Int32) (w0 : Int32) (I : zI) : Option (Int32 × zI) :=
  if w0 = 0 then (f_X9_add_38 I) else (if (I 1 1) < (800 : Int32) then (zlt ((v1.toUInt32 % 65536).toInt32) (fun x1 => zck (zbd (I 1 1) 800) (zlt (zu I 2 (I 1 1).toNatClampNeg (vp_nar .char x1)) (fun I3 => zlt ((I3 1 1) + (1 : Int32)) (fun x4 => zlt (zu I3 1 1 x4) (fun I5 => some ((1 : Int32), I5))))))) else (f_X9_add_38 I))
noncomputable def f_X9_add_18 (v1 : Int32) (I : zI) : Option (Int32 × zI) :=
  f_X9_add_23 v1 (1 : Int32) I
noncomputable def f_X9_add_22 (v1 : Int32) (I : zI) : Option (Int32 × zI) :=
  f_X9_add_23 v1 (0 : Int32) I
noncomputable def f_X9_add (a1 : Int32) (I : zI) : Option (Int32 × zI) :=
  if a1 = (10 : Int32) then (f_X9_add_18 a1 I) else (if a1 < (32 : Int32) then (f_X9_add_22 a1 I) else (if (126 : Int32) < a1 then (f_X9_add_22 a1 I) else (f_X9_add_18 a1 I)))
set_option maxHeartbeats 4000000 in
set_option maxRecDepth 100000 in
theorem l_X9_add_38 {r : Int32 × zI} (C : zC p l e R s m args below meth c s0 a0 d cy B0 yX9_add.cls cX9_add 3 (some .boolean) bc bs bc bs 0 0 []) (L : zL) (I : zI) (h : f_X9_add_38 I = some r) : zG p l e R s m args below meth c d cy B0 3 bc bs (zQ below s args d cy B0 bc bs (.inl (some (.int r.1))) zSH zKn bc bs r.2 L) 38 [] [] zSH zKn bc bs I L := by
  unfold f_X9_add_38 at h
  refine z_iconst C (v := 0) (by decide) dX9_add_38 ?_
  obtain rfl := Option.some.inj h
  exact z_iret C dX9_add_39 .boolean rfl rfl rfl
set_option maxHeartbeats 4000000 in
set_option maxRecDepth 100000 in
theorem l_X9_add_23 {r : Int32 × zI} (C : zC p l e R s m args below meth c s0 a0 d cy B0 yX9_add.cls cX9_add 3 (some .boolean) bc bs bc bs 0 0 []) (L : zL) (v1 : Int32) (w0 : Int32) (I : zI) (h : f_X9_add_23 v1 w0 I = some r) : zG p l e R s m args below meth c d cy B0 3 bc bs (zQ below s args d cy B0 bc bs (.inl (some (.int r.1))) zSH zKn bc bs r.2 L) 23 [(0, .ref (B0 + 1)), (1, .int v1)] [.int w0] zSH zKn bc bs I L := by
  unfold f_X9_add_23 at h
  refine z_istore_n C (lv' := [(2, .int w0), (0, .ref (B0 + 1)), (1, .int v1)]) rfl (by decide) rfl dX9_add_23 ?_
  refine z_iload_n C rfl 0 rfl dX9_add_24 ?_
  refine z_if_eq C 38 (by decide) dX9_add_25 (fun hc => ?_) (fun hc => ?_)
  · have h := zif_t hc h
    refine z_lv [] (lv' := []) rfl ?_
    exact l_X9_add_38 C L I h
  · have h := zif_f hc h
    refine z_aload_n C rfl 1 rfl dX9_add_28 ?_
    refine z_geti C zc_9 dX9_add_29 1 1 rfl (by decide) (by decide) q_126 rfl ?_
    refine z_sipush C (v := 800) (by decide) dX9_add_32 ?_
    refine z_icmp_lt C 40 (by decide) dX9_add_35 (fun hc => ?_) (fun hc => ?_)
    · have h := zif_t hc h
      refine z_aload_n C rfl 1 rfl dX9_add_40 ?_
      refine z_getr C zc_9 dX9_add_41 0 1 2 rfl (by decide) (by decide) q_124 rfl rfl ?_
      refine z_aload_n C rfl 1 rfl dX9_add_44 ?_
      refine z_geti C zc_9 dX9_add_45 1 1 rfl (by decide) (by decide) q_126 rfl ?_
      refine z_iload_n C rfl 2 rfl dX9_add_48 ?_
      refine z_i2c C dX9_add_49 ?_
      obtain ⟨x1, ex1, h⟩ := zlt_e h
      refine z_eqi C ex1 ?_
      obtain ⟨hb2, h⟩ := zck_e h
      refine z_castore C dX9_add_50 rfl rfl (by decide) (zbd_in hb2) ?_
      obtain ⟨I3, eI3, h⟩ := zlt_e h
      refine z_eqI C eI3 ?_
      refine z_aload_n C rfl 1 rfl dX9_add_51 ?_
      refine z_dup C rfl dX9_add_52 ?_
      refine z_geti C zc_9 dX9_add_53 1 1 rfl (by decide) (by decide) q_126 rfl ?_
      refine z_iconst C (v := 1) (by decide) dX9_add_56 ?_
      refine z_iadd C dX9_add_57 ?_
      obtain ⟨x4, ex4, h⟩ := zlt_e h
      refine z_eqi C ex4 ?_
      refine z_puti C zc_9 dX9_add_58 1 1 rfl (by decide) (by decide) rfl q_126 rfl rfl rfl ?_
      obtain ⟨I5, eI5, h⟩ := zlt_e h
      refine z_eqI C eI5 ?_
      refine z_iconst C (v := 1) (by decide) dX9_add_61 ?_
      obtain rfl := Option.some.inj h
      exact z_iret C dX9_add_62 .boolean rfl rfl rfl
    · have h := zif_f hc h
      refine z_lv [] (lv' := []) rfl ?_
      exact l_X9_add_38 C L I h
set_option maxHeartbeats 4000000 in
set_option maxRecDepth 100000 in
theorem l_X9_add_18 {r : Int32 × zI} (C : zC p l e R s m args below meth c s0 a0 d cy B0 yX9_add.cls cX9_add 3 (some .boolean) bc bs bc bs 0 0 []) (L : zL) (v1 : Int32) (I : zI) (h : f_X9_add_18 v1 I = some r) : zG p l e R s m args below meth c d cy B0 3 bc bs (zQ below s args d cy B0 bc bs (.inl (some (.int r.1))) zSH zKn bc bs r.2 L) 18 [(0, .ref (B0 + 1)), (1, .int v1)] [] zSH zKn bc bs I L := by
  unfold f_X9_add_18 at h
  refine z_iconst C (v := 1) (by decide) dX9_add_18 ?_
  refine z_goto C 23 (by decide) dX9_add_19 ?_
  exact l_X9_add_23 C L v1 (1 : Int32) I h
set_option maxHeartbeats 4000000 in
set_option maxRecDepth 100000 in
theorem l_X9_add_22 {r : Int32 × zI} (C : zC p l e R s m args below meth c s0 a0 d cy B0 yX9_add.cls cX9_add 3 (some .boolean) bc bs bc bs 0 0 []) (L : zL) (v1 : Int32) (I : zI) (h : f_X9_add_22 v1 I = some r) : zG p l e R s m args below meth c d cy B0 3 bc bs (zQ below s args d cy B0 bc bs (.inl (some (.int r.1))) zSH zKn bc bs r.2 L) 22 [(0, .ref (B0 + 1)), (1, .int v1)] [] zSH zKn bc bs I L := by
  unfold f_X9_add_22 at h
  refine z_iconst C (v := 0) (by decide) dX9_add_22 ?_
  exact l_X9_add_23 C L v1 (0 : Int32) I h
set_option maxHeartbeats 4000000 in
set_option maxRecDepth 100000 in
theorem c_X9_add {r : Int32 × zI} (hE : zE0 l s0 a0 d cy B0) (a1 : Int32) (I : zI) (L : zL) (h : f_X9_add a1 I = some r) : zM l s0 d cy B0 yX9_add cX9_add 3 (some .boolean) 0 0 [.ref (B0 + 1), .int a1] zSH zKn bc bs I L (.inl (some (.int r.1))) zSH zKn bc bs r.2 L := by
  refine z_meth yy_X9_add hE (Nat.le_of_ble_eq_true rfl) (fun p e R s m args below meth c C => ?_)
  show zG p l e R s m args below meth c d cy B0 3 bc bs (zQ below s args d cy B0 bc bs (.inl (some (.int r.1))) zSH zKn bc bs r.2 L) 0 [(0, .ref (B0 + 1)), (1, .int a1)] [] zSH zKn bc bs I L
  unfold f_X9_add at h
  refine z_iload_n C rfl 1 rfl dX9_add_0 ?_
  refine z_bipush C (v := 10) (by decide) dX9_add_1 ?_
  refine z_icmp_eq C 18 (by decide) dX9_add_3 (fun hc => ?_) (fun hc => ?_)
  · have h := zif_t hc h
    exact l_X9_add_18 C L a1 I h
  · have h := zif_f hc h
    refine z_iload_n C rfl 1 rfl dX9_add_6 ?_
    refine z_bipush C (v := 32) (by decide) dX9_add_7 ?_
    refine z_icmp_lt C 22 (by decide) dX9_add_9 (fun hc => ?_) (fun hc => ?_)
    · have h := zif_t hc h
      exact l_X9_add_22 C L a1 I h
    · have h := zif_f hc h
      refine z_iload_n C rfl 1 rfl dX9_add_12 ?_
      refine z_bipush C (v := 126) (by decide) dX9_add_13 ?_
      refine z_icmp_gt C 22 (by decide) dX9_add_15 (fun hc => ?_) (fun hc => ?_)
      · have h := zif_t hc h
        exact l_X9_add_22 C L a1 I h
      · have h := zif_f hc h
        exact l_X9_add_18 C L a1 I h
theorem q_508 : (Cond.instanceMethod ({ cls := "DeviceFind$Tape", name := "add", desc := "(I)Z" } : Jvm.MethodName)) ∈ lw_tbl := List.mem_of_getElem? (i := 508) (by decide +kernel)
theorem q_509 : (Cond.selects "DeviceFind$Tape" ({ cls := "DeviceFind$Tape", name := "add", desc := "(I)Z" } : Jvm.MethodName) ({ cls := "DeviceFind$Tape", name := "add", desc := "(I)Z" } : Jvm.MethodName)) ∈ lw_tbl := List.mem_of_getElem? (i := 509) (by decide +kernel)
theorem q_518 : (Cond.code ({ cls := "DeviceFind$Tape", name := "addFour", desc := "(I)Z" } : Jvm.MethodName) prog_11_method_3_code (5 : Nat) (Option.some Jvm.ClassFile.FieldType.boolean)) ∈ lw_tbl := List.mem_of_getElem? (i := 518) (by decide +kernel)
theorem q_519 : (Cond.methodLink "DeviceFind$Tape" (19 : Nat) ({ cls := "DeviceFind$Tape", name := "add", desc := "(I)Z" } : Jvm.MethodName)) ∈ lw_tbl := List.mem_of_getElem? (i := 519) (by decide +kernel)
theorem yy_X9_addFour : zY yX9_addFour cX9_addFour 5 (some .boolean) 1 := ⟨q_518, q_77, by decide +kernel, by decide +kernel, by decide +kernel⟩
noncomputable def f_X9_addFour_42 (k8 : Int32 → Int32 → Int32 → zI → Option (Int32 × zI)) (v1 : Int32) (v2 : Int32) (v3 : Int32) (I : zI) : Option (Int32 × zI) :=
  zlt (v3 + (-8)) (fun x8 => k8 v1 v2 x8 I)
noncomputable def f_X9_addFour_8 (k8 : Int32 → Int32 → Int32 → zI → Option (Int32 × zI)) (v1 : Int32) (v2 : Int32) (v3 : Int32) (I : zI) : Option (Int32 × zI) :=
  if v3 < 0 then (some ((1 : Int32), I)) else (zlt ((v1.toUInt32 >>> (v3.toUInt32 &&& Int32.toUInt32 31)).toInt32) (fun x2 => zlt (x2 &&& (255 : Int32)) (fun x3 => if x3 = 0 then (f_X9_addFour_42 k8 v1 v2 v3 I) else (zb2 (f_X9_add x3 I) (fun x5 I6 => if x5 = 0 then (zlt (zu I6 1 1 v2) (fun I7 => some ((0 : Int32), I7))) else (f_X9_addFour_42 k8 v1 v2 v3 I6))))))
noncomputable def f_X9_addFour (a1 : Int32) (I : zI) : Option (Int32 × zI) :=
  zlt (I 1 1) (fun x1 => zlp4 (f_X9_addFour_8) zF a1 x1 (24 : Int32) I)
set_option maxHeartbeats 4000000 in
set_option maxRecDepth 100000 in
theorem l_X9_addFour_42 {r : Int32 × zI} (C : zC p l e R s m args below meth c s0 a0 d cy B0 yX9_addFour.cls cX9_addFour 5 (some .boolean) bc bs bc bs 1 22 []) (L : zL) (k8 : Int32 → Int32 → Int32 → zI → Option (Int32 × zI)) (hk8 : ∀ (v1 : Int32) (v2 : Int32) (v3 : Int32) (I : zI), k8 v1 v2 v3 I = some r → zG p l e R s m args below meth c d cy B0 5 bc bs (zQ below s args d cy B0 bc bs (.inl (some (.int r.1))) zSH zKn bc bs r.2 L) 8 [(0, .ref (B0 + 1)), (1, .int v1), (2, .int v2), (3, .int v3)] [] zSH zKn bc bs I L) (v1 : Int32) (v2 : Int32) (v3 : Int32) (I : zI) (h : f_X9_addFour_42 k8 v1 v2 v3 I = some r) : zG p l e R s m args below meth c d cy B0 5 bc bs (zQ below s args d cy B0 bc bs (.inl (some (.int r.1))) zSH zKn bc bs r.2 L) 42 [(0, .ref (B0 + 1)), (1, .int v1), (2, .int v2), (3, .int v3)] [] zSH zKn bc bs I L := by
  unfold f_X9_addFour_42 at h
  obtain ⟨x8, ex8, h⟩ := zlt_e h
  refine z_iinc C (j := 3) (v := x8) (lv' := [(3, .int x8), (0, .ref (B0 + 1)), (1, .int v1), (2, .int v2)]) rfl (by rw [ex8]; rfl) (by decide) rfl dX9_addFour_42 ?_
  refine z_goto C 8 (by decide) dX9_addFour_45 ?_
  refine z_lv [1, 2, 3, 0] (lv' := [(0, .ref (B0 + 1)), (1, .int v1), (2, .int v2), (3, .int x8)]) rfl ?_
  exact hk8 v1 v2 x8 I h
set_option maxHeartbeats 4000000 in
set_option maxRecDepth 100000 in
theorem l_X9_addFour_8 {r : Int32 × zI} (C : zC p l e R s m args below meth c s0 a0 d cy B0 yX9_addFour.cls cX9_addFour 5 (some .boolean) bc bs bc bs 1 22 []) (L : zL) (k8 : Int32 → Int32 → Int32 → zI → Option (Int32 × zI)) (hk8 : ∀ (v1 : Int32) (v2 : Int32) (v3 : Int32) (I : zI), k8 v1 v2 v3 I = some r → zG p l e R s m args below meth c d cy B0 5 bc bs (zQ below s args d cy B0 bc bs (.inl (some (.int r.1))) zSH zKn bc bs r.2 L) 8 [(0, .ref (B0 + 1)), (1, .int v1), (2, .int v2), (3, .int v3)] [] zSH zKn bc bs I L) (v1 : Int32) (v2 : Int32) (v3 : Int32) (I : zI) (h : f_X9_addFour_8 k8 v1 v2 v3 I = some r) : zG p l e R s m args below meth c d cy B0 5 bc bs (zQ below s args d cy B0 bc bs (.inl (some (.int r.1))) zSH zKn bc bs r.2 L) 8 [(0, .ref (B0 + 1)), (1, .int v1), (2, .int v2), (3, .int v3)] [] zSH zKn bc bs I L := by
  unfold f_X9_addFour_8 at h
  refine z_iload_n C rfl 3 rfl dX9_addFour_8 ?_
  refine z_if_lt C 48 (by decide) dX9_addFour_9 (fun hc => ?_) (fun hc => ?_)
  · have h := zif_t hc h
    refine z_iconst C (v := 1) (by decide) dX9_addFour_48 ?_
    obtain rfl := Option.some.inj h
    exact z_iret C dX9_addFour_49 .boolean rfl rfl rfl
  · have h := zif_f hc h
    refine z_iload_n C rfl 1 rfl dX9_addFour_12 ?_
    refine z_iload_n C rfl 3 rfl dX9_addFour_13 ?_
    refine z_iushr C dX9_addFour_14 ?_
    obtain ⟨x2, ex2, h⟩ := zlt_e h
    refine z_eqi C ex2 ?_
    refine z_sipush C (v := 255) (by decide) dX9_addFour_15 ?_
    refine z_iand C dX9_addFour_18 ?_
    obtain ⟨x3, ex3, h⟩ := zlt_e h
    refine z_eqi C ex3 ?_
    refine z_istore C (lv' := [(4, .int x3), (0, .ref (B0 + 1)), (1, .int v1), (2, .int v2), (3, .int v3)]) (by decide) rfl dX9_addFour_19 ?_
    refine z_iload C 0 rfl dX9_addFour_21 ?_
    refine z_if_eq C 42 (by decide) dX9_addFour_23 (fun hc => ?_) (fun hc => ?_)
    · have h := zif_t hc h
      refine z_lv [1, 2, 3, 4] (lv' := [(0, .ref (B0 + 1)), (1, .int v1), (2, .int v2), (3, .int v3)]) rfl ?_
      exact l_X9_addFour_42 C L k8 hk8 v1 v2 v3 I h
    · have h := zif_f hc h
      refine z_aload_n C rfl 1 rfl dX9_addFour_26 ?_
      refine z_iload C 0 rfl dX9_addFour_27 ?_
      obtain ⟨x5, I6, hg4, h⟩ := zb2_e h
      refine z_callV C zc_9 rfl (by decide) dX9_addFour_29 yy_X9_add (c_X9_add C.2.2.2.2.1  x3 I L hg4) q_519 q_508 q_509 (by decide) (by decide) rfl rfl (Nat.le_of_ble_eq_true rfl) ⟨Nat.le_refl _, Nat.le_refl _, Nat.le_refl _, Nat.le_refl _⟩ ?_
      refine z_if_ne C 42 (by decide) dX9_addFour_32 (fun hc => ?_) (fun hc => ?_)
      · have h := zif_f hc h
        refine z_lv [1, 2, 3, 4] (lv' := [(0, .ref (B0 + 1)), (1, .int v1), (2, .int v2), (3, .int v3)]) rfl ?_
        exact l_X9_addFour_42 C L k8 hk8 v1 v2 v3 I6 h
      · have h := zif_t hc h
        refine z_aload_n C rfl 1 rfl dX9_addFour_35 ?_
        refine z_iload_n C rfl 3 rfl dX9_addFour_36 ?_
        refine z_puti C zc_9 dX9_addFour_37 1 1 rfl (by decide) (by decide) rfl q_126 rfl rfl rfl ?_
        obtain ⟨I7, eI7, h⟩ := zlt_e h
        refine z_eqI C eI7 ?_
        refine z_iconst C (v := 0) (by decide) dX9_addFour_40 ?_
        obtain rfl := Option.some.inj h
        exact z_iret C dX9_addFour_41 .boolean rfl rfl rfl
set_option maxHeartbeats 4000000 in
set_option maxRecDepth 100000 in
theorem L_X9_addFour_8 {r : Int32 × zI} (C : zC p l e R s m args below meth c s0 a0 d cy B0 yX9_addFour.cls cX9_addFour 5 (some .boolean) bc bs bc bs 1 22 []) (L : zL) (v1 : Int32) (v2 : Int32) (v3 : Int32) (I : zI) (h : zlp4 (f_X9_addFour_8) zF v1 v2 v3 I = some r) : zG p l e R s m args below meth c d cy B0 5 bc bs (zQ below s args d cy B0 bc bs (.inl (some (.int r.1))) zSH zKn bc bs r.2 L) 8 [(0, .ref (B0 + 1)), (1, .int v1), (2, .int v2), (3, .int v3)] [] zSH zKn bc bs I L :=
 zlp4_e (fun (v1 : Int32) (v2 : Int32) (v3 : Int32) (I : zI) => zG p l e R s m args below meth c d cy B0 5 bc bs (zQ below s args d cy B0 bc bs (.inl (some (.int r.1))) zSH zKn bc bs r.2 L) 8 [(0, .ref (B0 + 1)), (1, .int v1), (2, .int v2), (3, .int v3)] [] zSH zKn bc bs I L) (fun k9 hk9 v1 v2 v3 I h => l_X9_addFour_8 C L k9 hk9 v1 v2 v3 I h) zF v1 v2 v3 I h
set_option maxHeartbeats 4000000 in
set_option maxRecDepth 100000 in
theorem c_X9_addFour {r : Int32 × zI} (hE : zE0 l s0 a0 d cy B0) (a1 : Int32) (I : zI) (L : zL) (h : f_X9_addFour a1 I = some r) : zM l s0 d cy B0 yX9_addFour cX9_addFour 5 (some .boolean) 1 22 [.ref (B0 + 1), .int a1] zSH zKn bc bs I L (.inl (some (.int r.1))) zSH zKn bc bs r.2 L := by
  refine z_meth yy_X9_addFour hE (Nat.le_of_ble_eq_true rfl) (fun p e R s m args below meth c C => ?_)
  show zG p l e R s m args below meth c d cy B0 5 bc bs (zQ below s args d cy B0 bc bs (.inl (some (.int r.1))) zSH zKn bc bs r.2 L) 0 [(0, .ref (B0 + 1)), (1, .int a1)] [] zSH zKn bc bs I L
  unfold f_X9_addFour at h
  refine z_aload_n C rfl 0 rfl dX9_addFour_0 ?_
  refine z_geti C zc_9 dX9_addFour_1 1 1 rfl (by decide) (by decide) q_126 rfl ?_
  obtain ⟨x1, ex1, h⟩ := zlt_e h
  refine z_eqi C ex1 ?_
  refine z_istore_n C (lv' := [(2, .int x1), (0, .ref (B0 + 1)), (1, .int a1)]) rfl (by decide) rfl dX9_addFour_4 ?_
  refine z_bipush C (v := 24) (by decide) dX9_addFour_5 ?_
  refine z_istore_n C (lv' := [(3, .int (24 : Int32)), (2, .int x1), (0, .ref (B0 + 1)), (1, .int a1)]) rfl (by decide) rfl dX9_addFour_7 ?_
  refine z_lv [2, 3, 1, 0] (lv' := [(0, .ref (B0 + 1)), (1, .int a1), (2, .int x1), (3, .int (24 : Int32))]) rfl ?_
  exact L_X9_addFour_8 C L a1 x1 (24 : Int32) I h
theorem q_470 : (Cond.fieldLink "DeviceFind" (26 : Nat) "DeviceFind" "tape" "LDeviceFind$Tape;") ∈ lw_tbl := List.mem_of_getElem? (i := 470) (by decide +kernel)
theorem q_506 : (Cond.code ({ cls := "DeviceFind", name := "unit", desc := "(I)Z" } : Jvm.MethodName) prog_1_method_2_code (2 : Nat) (Option.some Jvm.ClassFile.FieldType.boolean)) ∈ lw_tbl := List.mem_of_getElem? (i := 506) (by decide +kernel)
theorem q_507 : (Cond.methodLink "DeviceFind" (100 : Nat) ({ cls := "DeviceFind$Tape", name := "add", desc := "(I)Z" } : Jvm.MethodName)) ∈ lw_tbl := List.mem_of_getElem? (i := 507) (by decide +kernel)
theorem yy_X11_unit : zY yX11_unit cX11_unit 2 (some .boolean) 1 := ⟨q_506, q_75, by decide +kernel, by decide +kernel, by decide +kernel⟩
noncomputable def f_X11_unit (a1 : Int32) (I : zI) : Option (Int32 × zI) :=
  zb2 (f_X9_add a1 I) (fun x2 I3 => zck (zbo x2) (some (x2, I3)))
set_option maxHeartbeats 4000000 in
set_option maxRecDepth 100000 in
theorem c_X11_unit {r : Int32 × zI} (hE : zE0 l s0 a0 d cy B0) (a1 : Int32) (I : zI) (L : zL) (h : f_X11_unit a1 I = some r) : zM l s0 d cy B0 yX11_unit cX11_unit 2 (some .boolean) 1 22 [.ref (B0 + 0), .int a1] zSH zKn bc bs I L (.inl (some (.int r.1))) zSH zKn bc bs r.2 L := by
  refine z_meth yy_X11_unit hE (Nat.le_of_ble_eq_true rfl) (fun p e R s m args below meth c C => ?_)
  show zG p l e R s m args below meth c d cy B0 2 bc bs (zQ below s args d cy B0 bc bs (.inl (some (.int r.1))) zSH zKn bc bs r.2 L) 0 [(0, .ref (B0 + 0)), (1, .int a1)] [] zSH zKn bc bs I L
  unfold f_X11_unit at h
  refine z_aload_n C rfl 0 rfl dX11_unit_0 ?_
  refine z_getr C zc_11 dX11_unit_1 1 0 1 rfl (by decide) (by decide) q_470 rfl rfl ?_
  refine z_iload_n C rfl 1 rfl dX11_unit_4 ?_
  obtain ⟨x2, I3, hg1, h⟩ := zb2_e h
  refine z_callV C zc_9 rfl (by decide) dX11_unit_5 yy_X9_add (c_X9_add C.2.2.2.2.1  a1 I L hg1) q_507 q_508 q_509 (by decide) (by decide) rfl rfl (Nat.le_of_ble_eq_true rfl) ⟨Nat.le_refl _, Nat.le_refl _, Nat.le_refl _, Nat.le_refl _⟩ ?_
  obtain ⟨hb4, h⟩ := zck_e h
  obtain rfl := Option.some.inj h
  exact z_iret C dX11_unit_8 .boolean rfl (zbo_n hb4).1 rfl
theorem q_514 : (Cond.code ({ cls := "DeviceFind", name := "units", desc := "(I)Z" } : Jvm.MethodName) prog_1_method_3_code (2 : Nat) (Option.some Jvm.ClassFile.FieldType.boolean)) ∈ lw_tbl := List.mem_of_getElem? (i := 514) (by decide +kernel)
theorem q_515 : (Cond.methodLink "DeviceFind" (104 : Nat) ({ cls := "DeviceFind$Tape", name := "addFour", desc := "(I)Z" } : Jvm.MethodName)) ∈ lw_tbl := List.mem_of_getElem? (i := 515) (by decide +kernel)
theorem q_516 : (Cond.instanceMethod ({ cls := "DeviceFind$Tape", name := "addFour", desc := "(I)Z" } : Jvm.MethodName)) ∈ lw_tbl := List.mem_of_getElem? (i := 516) (by decide +kernel)
theorem q_517 : (Cond.selects "DeviceFind$Tape" ({ cls := "DeviceFind$Tape", name := "addFour", desc := "(I)Z" } : Jvm.MethodName) ({ cls := "DeviceFind$Tape", name := "addFour", desc := "(I)Z" } : Jvm.MethodName)) ∈ lw_tbl := List.mem_of_getElem? (i := 517) (by decide +kernel)
theorem yy_X11_units : zY yX11_units cX11_units 2 (some .boolean) 1 := ⟨q_514, q_75, by decide +kernel, by decide +kernel, by decide +kernel⟩
noncomputable def f_X11_units (a1 : Int32) (I : zI) : Option (Int32 × zI) :=
  zb2 (f_X9_addFour a1 I) (fun x2 I3 => zck (zbo x2) (some (x2, I3)))
set_option maxHeartbeats 4000000 in
set_option maxRecDepth 100000 in
theorem c_X11_units {r : Int32 × zI} (hE : zE0 l s0 a0 d cy B0) (a1 : Int32) (I : zI) (L : zL) (h : f_X11_units a1 I = some r) : zM l s0 d cy B0 yX11_units cX11_units 2 (some .boolean) 2 46 [.ref (B0 + 0), .int a1] zSH zKn bc bs I L (.inl (some (.int r.1))) zSH zKn bc bs r.2 L := by
  refine z_meth yy_X11_units hE (Nat.le_of_ble_eq_true rfl) (fun p e R s m args below meth c C => ?_)
  show zG p l e R s m args below meth c d cy B0 2 bc bs (zQ below s args d cy B0 bc bs (.inl (some (.int r.1))) zSH zKn bc bs r.2 L) 0 [(0, .ref (B0 + 0)), (1, .int a1)] [] zSH zKn bc bs I L
  unfold f_X11_units at h
  refine z_aload_n C rfl 0 rfl dX11_units_0 ?_
  refine z_getr C zc_11 dX11_units_1 1 0 1 rfl (by decide) (by decide) q_470 rfl rfl ?_
  refine z_iload_n C rfl 1 rfl dX11_units_4 ?_
  obtain ⟨x2, I3, hg1, h⟩ := zb2_e h
  refine z_callV C zc_9 rfl (by decide) dX11_units_5 yy_X9_addFour (c_X9_addFour C.2.2.2.2.1  a1 I L hg1) q_515 q_516 q_517 (by decide) (by decide) rfl rfl (Nat.le_of_ble_eq_true rfl) ⟨Nat.le_refl _, Nat.le_refl _, Nat.le_refl _, Nat.le_refl _⟩ ?_
  obtain ⟨hb4, h⟩ := zck_e h
  obtain rfl := Option.some.inj h
  exact z_iret C dX11_units_8 .boolean rfl (zbo_n hb4).1 rfl
end Zp05_09_walk
