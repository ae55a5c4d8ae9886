section Zp05_10_walk
variable {p : Program} {l : Launch} {e : Env} {R : Room} {s : State} {m : MethodId} {args : Array Value} {below : List Frame} {meth : Method} {c : Code} {s0 : State} {a0 : Array Value} {d : va_G} {cy : Nat → ClassId} {B0 : Nat} {bc bs : Nat}
theorem q_1383 : (Cond.code ({ cls := "DeviceFindModel", name := "isLetter", desc := "(I)Z" } : Jvm.MethodName) prog_14_method_9_code (1 : Nat) (Option.some Jvm.ClassFile.FieldType.boolean)) ∈ lw_tbl := List.mem_of_getElem? (i := 1383) (by decide +kernel)
theorem yy_X12_isLetter : zY yX12_isLetter cX12_isLetter 1 (some .boolean) 1 := ⟨q_1383, q_88, by decide +kernel, by decide +kernel, by decide +kernel⟩
def f_X12_isLetter_17 (w0 : Int32) : Option Int32 :=
  zck (zbo w0) (some w0)
def f_X12_isLetter_16 : Option Int32 :=
  f_X12_isLetter_17 (0 : Int32)
def f_X12_isLetter (a0 : Int32) : Option Int32 :=
  if a0 < (97 : Int32) then (f_X12_isLetter_16 ) else (if (122 : Int32) < a0 then (f_X12_isLetter_16 ) else (f_X12_isLetter_17 (1 : Int32)))
set_option maxHeartbeats 4000000 in
set_option maxRecDepth 100000 in
theorem l_X12_isLetter_17 {r : Int32} (C : zC p l e R s m args below meth c s0 a0 d cy B0 yX12_isLetter.cls cX12_isLetter 1 (some .boolean) bc bs bc bs 0 0 []) (I : zI) (L : zL) (w0 : Int32) (h : f_X12_isLetter_17 w0 = some r) : zG p l e R s m args below meth c d cy B0 1 bc bs (zQ below s args d cy B0 bc bs (.inl (some (.int r))) zSH zKn bc bs I L) 17 [] [.int w0] zSH zKn bc bs I L := by
  unfold f_X12_isLetter_17 at h
  obtain ⟨hb1, h⟩ := zck_e h
  obtain rfl := Option.some.inj h
  exact z_iret C dX12_isLetter_17 .boolean rfl (zbo_n hb1).1 rfl
set_option maxHeartbeats 4000000 in
set_option maxRecDepth 100000 in
theorem l_X12_isLetter_16 {r : Int32} (C : zC p l e R s m args below meth c s0 a0 d cy B0 yX12_isLetter.cls cX12_isLetter 1 (some .boolean) bc bs bc bs 0 0 []) (I : zI) (L : zL) (h : f_X12_isLetter_16 = some r) : zG p l e R s m args below meth c d cy B0 1 bc bs (zQ below s args d cy B0 bc bs (.inl (some (.int r))) zSH zKn bc bs I L) 16 [] [] zSH zKn bc bs I L := by
  unfold f_X12_isLetter_16 at h
  refine z_iconst C (v := 0) (by decide) dX12_isLetter_16 ?_
  exact l_X12_isLetter_17 C I L (0 : Int32) h
set_option maxHeartbeats 4000000 in
set_option maxRecDepth 100000 in
theorem c_X12_isLetter {r : Int32} (hE : zE0 l s0 a0 d cy B0) (a0 : Int32) (I : zI) (L : zL) (h : f_X12_isLetter a0 = some r) : zM l s0 d cy B0 yX12_isLetter cX12_isLetter 1 (some .boolean) 0 0 [.int a0] zSH zKn bc bs I L (.inl (some (.int r))) zSH zKn bc bs I L := by
  refine z_meth yy_X12_isLetter hE (Nat.le_of_ble_eq_true rfl) (fun p e R s m args below meth c C => ?_)
  show zG p l e R s m args below meth c d cy B0 1 bc bs (zQ below s args d cy B0 bc bs (.inl (some (.int r))) zSH zKn bc bs I L) 0 [(0, .int a0)] [] zSH zKn bc bs I L
  unfold f_X12_isLetter at h
  refine z_iload_n C rfl 0 rfl dX12_isLetter_0 ?_
  refine z_bipush C (v := 97) (by decide) dX12_isLetter_1 ?_
  refine z_icmp_lt C 16 (by decide) dX12_isLetter_3 (fun hc => ?_) (fun hc => ?_)
  · have h := zif_t hc h
    refine z_lv [] (lv' := []) rfl ?_
    exact l_X12_isLetter_16 C I L  h
  · have h := zif_f hc h
    refine z_iload_n C rfl 0 rfl dX12_isLetter_6 ?_
    refine z_bipush C (v := 122) (by decide) dX12_isLetter_7 ?_
    refine z_icmp_gt C 16 (by decide) dX12_isLetter_9 (fun hc => ?_) (fun hc => ?_)
    · have h := zif_t hc h
      refine z_lv [] (lv' := []) rfl ?_
      exact l_X12_isLetter_16 C I L  h
    · have h := zif_f hc h
      refine z_iconst C (v := 1) (by decide) dX12_isLetter_12 ?_
      refine z_goto C 17 (by decide) dX12_isLetter_13 ?_
      refine z_lv [] (lv' := []) rfl ?_
      exact l_X12_isLetter_17 C I L (1 : Int32) h
theorem q_1386 : (Cond.code ({ cls := "DeviceFindModel", name := "isDigit", desc := "(I)Z" } : Jvm.MethodName) prog_14_method_10_code (1 : Nat) (Option.some Jvm.ClassFile.FieldType.boolean)) ∈ lw_tbl := List.mem_of_getElem? (i := 1386) (by decide +kernel)
theorem yy_X12_isDigit : zY yX12_isDigit cX12_isDigit 1 (some .boolean) 1 := ⟨q_1386, q_88, by decide +kernel, by decide +kernel, by decide +kernel⟩
def f_X12_isDigit_17 (w0 : Int32) : Option Int32 :=
  zck (zbo w0) (some w0)
def f_X12_isDigit_16 : Option Int32 :=
  f_X12_isDigit_17 (0 : Int32)
def f_X12_isDigit (a0 : Int32) : Option Int32 :=
  if a0 < (48 : Int32) then (f_X12_isDigit_16 ) else (if (57 : Int32) < a0 then (f_X12_isDigit_16 ) else (f_X12_isDigit_17 (1 : Int32)))
set_option maxHeartbeats 4000000 in
set_option maxRecDepth 100000 in
theorem l_X12_isDigit_17 {r : Int32} (C : zC p l e R s m args below meth c s0 a0 d cy B0 yX12_isDigit.cls cX12_isDigit 1 (some .boolean) bc bs bc bs 0 0 []) (I : zI) (L : zL) (w0 : Int32) (h : f_X12_isDigit_17 w0 = some r) : zG p l e R s m args below meth c d cy B0 1 bc bs (zQ below s args d cy B0 bc bs (.inl (some (.int r))) zSH zKn bc bs I L) 17 [] [.int w0] zSH zKn bc bs I L := by
  unfold f_X12_isDigit_17 at h
  obtain ⟨hb1, h⟩ := zck_e h
  obtain rfl := Option.some.inj h
  exact z_iret C dX12_isDigit_17 .boolean rfl (zbo_n hb1).1 rfl
set_option maxHeartbeats 4000000 in
set_option maxRecDepth 100000 in
theorem l_X12_isDigit_16 {r : Int32} (C : zC p l e R s m args below meth c s0 a0 d cy B0 yX12_isDigit.cls cX12_isDigit 1 (some .boolean) bc bs bc bs 0 0 []) (I : zI) (L : zL) (h : f_X12_isDigit_16 = some r) : zG p l e R s m args below meth c d cy B0 1 bc bs (zQ below s args d cy B0 bc bs (.inl (some (.int r))) zSH zKn bc bs I L) 16 [] [] zSH zKn bc bs I L := by
  unfold f_X12_isDigit_16 at h
  refine z_iconst C (v := 0) (by decide) dX12_isDigit_16 ?_
  exact l_X12_isDigit_17 C I L (0 : Int32) h
set_option maxHeartbeats 4000000 in
set_option maxRecDepth 100000 in
theorem c_X12_isDigit {r : Int32} (hE : zE0 l s0 a0 d cy B0) (a0 : Int32) (I : zI) (L : zL) (h : f_X12_isDigit a0 = some r) : zM l s0 d cy B0 yX12_isDigit cX12_isDigit 1 (some .boolean) 0 0 [.int a0] zSH zKn bc bs I L (.inl (some (.int r))) zSH zKn bc bs I L := by
  refine z_meth yy_X12_isDigit hE (Nat.le_of_ble_eq_true rfl) (fun p e R s m args below meth c C => ?_)
  show zG p l e R s m args below meth c d cy B0 1 bc bs (zQ below s args d cy B0 bc bs (.inl (some (.int r))) zSH zKn bc bs I L) 0 [(0, .int a0)] [] zSH zKn bc bs I L
  unfold f_X12_isDigit at h
  refine z_iload_n C rfl 0 rfl dX12_isDigit_0 ?_
  refine z_bipush C (v := 48) (by decide) dX12_isDigit_1 ?_
  refine z_icmp_lt C 16 (by decide) dX12_isDigit_3 (fun hc => ?_) (fun hc => ?_)
  · have h := zif_t hc h
    refine z_lv [] (lv' := []) rfl ?_
    exact l_X12_isDigit_16 C I L  h
  · have h := zif_f hc h
    refine z_iload_n C rfl 0 rfl dX12_isDigit_6 ?_
    refine z_bipush C (v := 57) (by decide) dX12_isDigit_7 ?_
    refine z_icmp_gt C 16 (by decide) dX12_isDigit_9 (fun hc => ?_) (fun hc => ?_)
    · have h := zif_t hc h
      refine z_lv [] (lv' := []) rfl ?_
      exact l_X12_isDigit_16 C I L  h
    · have h := zif_f hc h
      refine z_iconst C (v := 1) (by decide) dX12_isDigit_12 ?_
      refine z_goto C 17 (by decide) dX12_isDigit_13 ?_
      refine z_lv [] (lv' := []) rfl ?_
      exact l_X12_isDigit_17 C I L (1 : Int32) h
theorem q_1368 : (Cond.code ({ cls := "DeviceFindModel", name := "isCharacter", desc := "(I)Z" } : Jvm.MethodName) prog_14_method_11_code (1 : Nat) (Option.some Jvm.ClassFile.FieldType.boolean)) ∈ lw_tbl := List.mem_of_getElem? (i := 1368) (by decide +kernel)
theorem yy_X12_isCharacter : zY yX12_isCharacter cX12_isCharacter 1 (some .boolean) 1 := ⟨q_1368, q_88, by decide +kernel, by decide +kernel, by decide +kernel⟩
def f_X12_isCharacter_23 (w0 : Int32) : Option Int32 :=
  zck (zbo w0) (some w0)
def f_X12_isCharacter_18 : Option Int32 :=
  f_X12_isCharacter_23 (1 : Int32)
def f_X12_isCharacter_12 (v0 : Int32) : Option Int32 :=
  if v0 = (10 : Int32) then (f_X12_isCharacter_18 ) else (f_X12_isCharacter_23 (0 : Int32))
def f_X12_isCharacter (a0 : Int32) : Option Int32 :=
  if a0 < (32 : Int32) then (f_X12_isCharacter_12 a0) else (if a0 ≤ (126 : Int32) then (f_X12_isCharacter_18 ) else (f_X12_isCharacter_12 a0))
set_option maxHeartbeats 4000000 in
set_option maxRecDepth 100000 in
theorem l_X12_isCharacter_23 {r : Int32} (C : zC p l e R s m args below meth c s0 a0 d cy B0 yX12_isCharacter.cls cX12_isCharacter 1 (some .boolean) bc bs bc bs 0 0 []) (I : zI) (L : zL) (w0 : Int32) (h : f_X12_isCharacter_23 w0 = some r) : zG p l e R s m args below meth c d cy B0 1 bc bs (zQ below s args d cy B0 bc bs (.inl (some (.int r))) zSH zKn bc bs I L) 23 [] [.int w0] zSH zKn bc bs I L := by
  unfold f_X12_isCharacter_23 at h
  obtain ⟨hb1, h⟩ := zck_e h
  obtain rfl := Option.some.inj h
  exact z_iret C dX12_isCharacter_23 .boolean rfl (zbo_n hb1).1 rfl
set_option maxHeartbeats 4000000 in
set_option maxRecDepth 100000 in
theorem l_X12_isCharacter_18 {r : Int32} (C : zC p l e R s m args below meth c s0 a0 d cy B0 yX12_isCharacter.cls cX12_isCharacter 1 (some .boolean) bc bs bc bs 0 0 []) (I : zI) (L : zL) (h : f_X12_isCharacter_18 = some r) : zG p l e R s m args below meth c d cy B0 1 bc bs (zQ below s args d cy B0 bc bs (.inl (some (.int r))) zSH zKn bc bs I L) 18 [] [] zSH zKn bc bs I L := by
  unfold f_X12_isCharacter_18 at h
  refine z_iconst C (v := 1) (by decide) dX12_isCharacter_18 ?_
  refine z_goto C 23 (by decide) dX12_isCharacter_19 ?_
  exact l_X12_isCharacter_23 C I L (1 : Int32) h
set_option maxHeartbeats 4000000 in
set_option maxRecDepth 100000 in
theorem l_X12_isCharacter_12 {r : Int32} (C : zC p l e R s m args below meth c s0 a0 d cy B0 yX12_isCharacter.cls cX12_isCharacter 1 (some .boolean) bc bs bc bs 0 0 []) (I : zI) (L : zL) (v0 : Int32) (h : f_X12_isCharacter_12 v0 = some r) : zG p l e R s m args below meth c d cy B0 1 bc bs (zQ below s args d cy B0 bc bs (.inl (some (.int r))) zSH zKn bc bs I L) 12 [(0, .int v0)] [] zSH zKn bc bs I L := by
  unfold f_X12_isCharacter_12 at h
  refine z_iload_n C rfl 0 rfl dX12_isCharacter_12 ?_
  refine z_bipush C (v := 10) (by decide) dX12_isCharacter_13 ?_
  refine z_icmp_ne C 22 (by decide) dX12_isCharacter_15 (fun hc => ?_) (fun hc => ?_)
  · have h := zif_f hc h
    refine z_iconst C (v := 0) (by decide) dX12_isCharacter_22 ?_
    refine z_lv [] (lv' := []) rfl ?_
    exact l_X12_isCharacter_23 C I L (0 : Int32) h
  · have h := zif_t hc h
    refine z_lv [] (lv' := []) rfl ?_
    exact l_X12_isCharacter_18 C I L  h
set_option maxHeartbeats 4000000 in
set_option maxRecDepth 100000 in
theorem c_X12_isCharacter {r : Int32} (hE : zE0 l s0 a0 d cy B0) (a0 : Int32) (I : zI) (L : zL) (h : f_X12_isCharacter a0 = some r) : zM l s0 d cy B0 yX12_isCharacter cX12_isCharacter 1 (some .boolean) 0 0 [.int a0] zSH zKn bc bs I L (.inl (some (.int r))) zSH zKn bc bs I L := by
  refine z_meth yy_X12_isCharacter hE (Nat.le_of_ble_eq_true rfl) (fun p e R s m args below meth c C => ?_)
  show zG p l e R s m args below meth c d cy B0 1 bc bs (zQ below s args d cy B0 bc bs (.inl (some (.int r))) zSH zKn bc bs I L) 0 [(0, .int a0)] [] zSH zKn bc bs I L
  unfold f_X12_isCharacter at h
  refine z_iload_n C rfl 0 rfl dX12_isCharacter_0 ?_
  refine z_bipush C (v := 32) (by decide) dX12_isCharacter_1 ?_
  refine z_icmp_lt C 12 (by decide) dX12_isCharacter_3 (fun hc => ?_) (fun hc => ?_)
  · have h := zif_t hc h
    exact l_X12_isCharacter_12 C I L a0 h
  · have h := zif_f hc h
    refine z_iload_n C rfl 0 rfl dX12_isCharacter_6 ?_
    refine z_bipush C (v := 126) (by decide) dX12_isCharacter_7 ?_
    refine z_icmp_le C 18 (by decide) dX12_isCharacter_9 (fun hc => ?_) (fun hc => ?_)
    · have h := zif_t hc h
      refine z_lv [] (lv' := []) rfl ?_
      exact l_X12_isCharacter_18 C I L  h
    · have h := zif_f hc h
      exact l_X12_isCharacter_12 C I L a0 h
theorem q_1197 : (Cond.fieldLink "DeviceFindModel" (68 : Nat) "DeviceFindModel" "tape" "[I") ∈ lw_tbl := List.mem_of_getElem? (i := 1197) (by decide +kernel)
theorem q_1198 : (Cond.fieldLink "DeviceFindModel" (147 : Nat) "DeviceFindModel" "length" "I") ∈ lw_tbl := List.mem_of_getElem? (i := 1198) (by decide +kernel)
theorem q_1365 : (Cond.code ({ cls := "DeviceFindModel", name := "unit", desc := "(I)Z" } : Jvm.MethodName) prog_14_method_12_code (2 : Nat) (Option.some Jvm.ClassFile.FieldType.boolean)) ∈ lw_tbl := List.mem_of_getElem? (i := 1365) (by decide +kernel)
theorem q_1366 : (Cond.methodLink "DeviceFindModel" (143 : Nat) ({ cls := "DeviceFindModel", name := "isCharacter", desc := "(I)Z" } : Jvm.MethodName)) ∈ lw_tbl := List.mem_of_getElem? (i := 1366) (by decide +kernel)
theorem q_1367 : (Cond.static ({ cls := "DeviceFindModel", name := "isCharacter", desc := "(I)Z" } : Jvm.MethodName)) ∈ lw_tbl := List.mem_of_getElem? (i := 1367) (by decide +kernel)
theorem yy_X12_unit : zY yX12_unit cX12_unit 2 (some .boolean) 1 := ⟨q_1365, q_88, by decide +kernel, by decide +kernel, by decide +kernel⟩
def f_X12_unit_22 (I : zI) : Option (Int32 × zI) :=
  some ((0 : Int32), I)
def f_X12_unit (a1 : Int32) (I : zI) : Option (Int32 × zI) :=
  zlt (zu I 97 0 (0 : Int32)) (fun I1 => zb1 (f_X12_isCharacter a1) (fun x3 => if x3 = 0 then (f_X12_unit_22 I1) else (if (I1 97 29) = (800 : Int32) then (f_X12_unit_22 I1) else (zck (zbd (I1 97 29) 800) (zlt (zu I1 117 (I1 97 29).toNatClampNeg a1) (fun I5 => zlt ((I5 97 29) + (1 : Int32)) (fun x6 => zlt (zu I5 97 29 x6) (fun I7 => some ((1 : Int32), I7)))))))))
set_option maxHeartbeats 4000000 in
set_option maxRecDepth 100000 in
theorem l_X12_unit_22 {r : Int32 × zI} (C : zC p l e R s m args below meth c s0 a0 d cy B0 yX12_unit.cls cX12_unit 2 (some .boolean) bc bs bc bs 1 20 []) (L : zL) (I : zI) (h : f_X12_unit_22 I = some r) : zG p l e R s m args below meth c d cy B0 2 bc bs (zQ below s args d cy B0 bc bs (.inl (some (.int r.1))) zSH zKn bc bs r.2 L) 22 [] [] zSH zKn bc bs I L := by
  unfold f_X12_unit_22 at h
  refine z_iconst C (v := 0) (by decide) dX12_unit_22 ?_
  obtain rfl := Option.some.inj h
  exact z_iret C dX12_unit_23 .boolean rfl rfl rfl
set_option maxHeartbeats 4000000 in
set_option maxRecDepth 100000 in
theorem c_X12_unit {r : Int32 × zI} (hE : zE0 l s0 a0 d cy B0) (a1 : Int32) (I : zI) (L : zL) (h : f_X12_unit a1 I = some r) : zM l s0 d cy B0 yX12_unit cX12_unit 2 (some .boolean) 1 20 [.ref (B0 + 97), .int a1] zSH zKn bc bs I L (.inl (some (.int r.1))) zSH zKn bc bs r.2 L := by
  refine z_meth yy_X12_unit hE (Nat.le_of_ble_eq_true rfl) (fun p e R s m args below meth c C => ?_)
  show zG p l e R s m args below meth c d cy B0 2 bc bs (zQ below s args d cy B0 bc bs (.inl (some (.int r.1))) zSH zKn bc bs r.2 L) 0 [(0, .ref (B0 + 97)), (1, .int a1)] [] zSH zKn bc bs I L
  unfold f_X12_unit at h
  refine z_aload_n C rfl 0 rfl dX12_unit_0 ?_
  refine z_iconst C (v := 0) (by decide) dX12_unit_1 ?_
  refine z_puti C zc_12 dX12_unit_2 0 97 rfl (by decide) (by decide) rfl q_1169 rfl rfl rfl ?_
  obtain ⟨I1, eI1, h⟩ := zlt_e h
  refine z_eqI C eI1 ?_
  refine z_iload_n C rfl 1 rfl dX12_unit_5 ?_
  obtain ⟨x3, hg2, h⟩ := zb1_e h
  refine z_callS C dX12_unit_6 yy_X12_isCharacter (c_X12_isCharacter C.2.2.2.2.1  a1 I1 L hg2) q_1366 q_1367 (by decide) (by decide) rfl rfl (Nat.le_of_ble_eq_true rfl) ⟨Nat.le_refl _, Nat.le_refl _, Nat.le_refl _, Nat.le_refl _⟩ ?_
  refine z_if_eq C 22 (by decide) dX12_unit_9 (fun hc => ?_) (fun hc => ?_)
  · have h := zif_t hc h
    refine z_lv [] (lv' := []) rfl ?_
    exact l_X12_unit_22 C L I1 h
  · have h := zif_f hc h
    refine z_aload_n C rfl 0 rfl dX12_unit_12 ?_
    refine z_geti C zc_12 dX12_unit_13 29 97 rfl (by decide) (by decide) q_1198 rfl ?_
    refine z_sipush C (v := 800) (by decide) dX12_unit_16 ?_
    refine z_icmp_ne C 24 (by decide) dX12_unit_19 (fun hc => ?_) (fun hc => ?_)
    · have h := zif_f hc h
      refine z_aload_n C rfl 0 rfl dX12_unit_24 ?_
      refine z_getr C zc_12 dX12_unit_25 28 97 117 rfl (by decide) (by decide) q_1197 rfl rfl ?_
      refine z_aload_n C rfl 0 rfl dX12_unit_28 ?_
      refine z_geti C zc_12 dX12_unit_29 29 97 rfl (by decide) (by decide) q_1198 rfl ?_
      refine z_iload_n C rfl 1 rfl dX12_unit_32 ?_
      obtain ⟨hb4, h⟩ := zck_e h
      refine z_iastore C dX12_unit_33 rfl rfl (by decide) (zbd_in hb4) ?_
      obtain ⟨I5, eI5, h⟩ := zlt_e h
      refine z_eqI C eI5 ?_
      refine z_aload_n C rfl 0 rfl dX12_unit_34 ?_
      refine z_dup C rfl dX12_unit_35 ?_
      refine z_geti C zc_12 dX12_unit_36 29 97 rfl (by decide) (by decide) q_1198 rfl ?_
      refine z_iconst C (v := 1) (by decide) dX12_unit_39 ?_
      refine z_iadd C dX12_unit_40 ?_
      obtain ⟨x6, ex6, h⟩ := zlt_e h
      refine z_eqi C ex6 ?_
      refine z_puti C zc_12 dX12_unit_41 29 97 rfl (by decide) (by decide) rfl q_1198 rfl rfl rfl ?_
      obtain ⟨I7, eI7, h⟩ := zlt_e h
      refine z_eqI C eI7 ?_
      refine z_iconst C (v := 1) (by decide) dX12_unit_44 ?_
      obtain rfl := Option.some.inj h
      exact z_iret C dX12_unit_45 .boolean rfl rfl rfl
    · have h := zif_t hc h
      refine z_lv [] (lv' := []) rfl ?_
      exact l_X12_unit_22 C L I1 h
theorem q_1372 : (Cond.code ({ cls := "DeviceFindModel", name := "units", desc := "(I)Z" } : Jvm.MethodName) prog_14_method_13_code (5 : Nat) (Option.some Jvm.ClassFile.FieldType.boolean)) ∈ lw_tbl := List.mem_of_getElem? (i := 1372) (by decide +kernel)
theorem yy_X12_units : zY yX12_units cX12_units 5 (some .boolean) 1 := ⟨q_1372, q_88, by decide +kernel, by decide +kernel, by decide +kernel⟩
def f_X12_units_49 (k10 : Int32 → Int32 → Int32 → zI → Option (Int32 × zI)) (v1 : Int32) (v3 : Int32) (w0 : Int32) (w1 : Int32) (I : zI) : Option (Int32 × zI) :=
  zlt (w0 + w1) (fun x14 => zlt (v3 + (-8)) (fun x15 => k10 v1 x14 x15 I))
def f_X12_units_38 (k10 : Int32 → Int32 → Int32 → zI → Option (Int32 × zI)) (v1 : Int32) (v2 : Int32) (v3 : Int32) (v4 : Int32) (I : zI) : Option (Int32 × zI) :=
  if v4 = 0 then (f_X12_units_49 k10 v1 v3 v2 (0 : Int32) I) else (f_X12_units_49 k10 v1 v3 v2 (1 : Int32) I)
def f_X12_units_114 (k74 : Int32 → Int32 → zI → Option (Int32 × zI)) (v1 : Int32) (v3 : Int32) (I : zI) : Option (Int32 × zI) :=
  zlt (v3 + (-8)) (fun x13 => k74 v1 x13 I)
def f_X12_units_74 (k74 : Int32 → Int32 → zI → Option (Int32 × zI)) (v1 : Int32) (v3 : Int32) (I : zI) : Option (Int32 × zI) :=
  if v3 < 0 then (some ((1 : Int32), I)) else (zlt ((v1.toUInt32 >>> (v3.toUInt32 &&& Int32.toUInt32 31)).toInt32) (fun x7 => if (x7 &&& (255 : Int32)) = 0 then (f_X12_units_114 k74 v1 v3 I) else (zlt ((v1.toUInt32 >>> (v3.toUInt32 &&& Int32.toUInt32 31)).toInt32) (fun x8 => zck (zbd (I 97 29) 800) (zlt (zu I 117 (I 97 29).toNatClampNeg (x8 &&& (255 : Int32))) (fun I10 => zlt ((I10 97 29) + (1 : Int32)) (fun x11 => zlt (zu I10 97 29 x11) (fun I12 => f_X12_units_114 k74 v1 v3 I12))))))))
def f_X12_units_10 (k10 : Int32 → Int32 → Int32 → zI → Option (Int32 × zI)) (v1 : Int32) (v2 : Int32) (v3 : Int32) (I : zI) : Option (Int32 × zI) :=
  if v3 < 0 then (zlt ((I 97 29) + v2) (fun x2 => if x2 ≤ (800 : Int32) then (zlp3 (f_X12_units_74) zF v1 (24 : Int32) I) else (some ((0 : Int32), I)))) else (zlt ((v1.toUInt32 >>> (v3.toUInt32 &&& Int32.toUInt32 31)).toInt32) (fun x3 => zlt (x3 &&& (255 : Int32)) (fun x4 => if x4 = 0 then (f_X12_units_38 k10 v1 v2 v3 x4 I) else (zb1 (f_X12_isCharacter x4) (fun x6 => if x6 = 0 then (some ((0 : Int32), I)) else (f_X12_units_38 k10 v1 v2 v3 x4 I))))))
def f_X12_units (a1 : Int32) (I : zI) : Option (Int32 × zI) :=
  zlt (zu I 97 0 (0 : Int32)) (fun I1 => zlp4 (f_X12_units_10) zF a1 (0 : Int32) (24 : Int32) I1)
set_option maxHeartbeats 4000000 in
set_option maxRecDepth 100000 in
theorem l_X12_units_49 {r : Int32 × zI} (C : zC p l e R s m args below meth c s0 a0 d cy B0 yX12_units.cls cX12_units 5 (some .boolean) bc bs bc bs 1 20 []) (L : zL) (k10 : Int32 → Int32 → Int32 → zI → Option (Int32 × zI)) (hk10 : ∀ (v1 : Int32) (v2 : Int32) (v3 : Int32) (I : zI), k10 v1 v2 v3 I = some r → zG p l e R s m args below meth c d cy B0 5 bc bs (zQ below s args d cy B0 bc bs (.inl (some (.int r.1))) zSH zKn bc bs r.2 L) 10 [(0, .ref (B0 + 97)), (1, .int v1), (2, .int v2), (3, .int v3)] [] zSH zKn bc bs I L) (v1 : Int32) (v3 : Int32) (w0 : Int32) (w1 : Int32) (I : zI) (h : f_X12_units_49 k10 v1 v3 w0 w1 I = some r) : zG p l e R s m args below meth c d cy B0 5 bc bs (zQ below s args d cy B0 bc bs (.inl (some (.int r.1))) zSH zKn bc bs r.2 L) 49 [(0, .ref (B0 + 97)), (1, .int v1), (3, .int v3)] [.int w1, .int w0] zSH zKn bc bs I L := by
  unfold f_X12_units_49 at h
  refine z_iadd C dX12_units_49 ?_
  obtain ⟨x14, ex14, h⟩ := zlt_e h
  refine z_eqi C ex14 ?_
  refine z_istore_n C (lv' := [(2, .int x14), (0, .ref (B0 + 97)), (1, .int v1), (3, .int v3)]) rfl (by decide) rfl dX12_units_50 ?_
  obtain ⟨x15, ex15, h⟩ := zlt_e h
  refine z_iinc C (j := 3) (v := x15) (lv' := [(3, .int x15), (2, .int x14), (0, .ref (B0 + 97)), (1, .int v1)]) rfl (by rw [ex15]; rfl) (by decide) rfl dX12_units_51 ?_
  refine z_goto C 10 (by decide) dX12_units_54 ?_
  refine z_lv [2, 3, 1, 0] (lv' := [(0, .ref (B0 + 97)), (1, .int v1), (2, .int x14), (3, .int x15)]) rfl ?_
  exact hk10 v1 x14 x15 I h
set_option maxHeartbeats 4000000 in
set_option maxRecDepth 100000 in
theorem l_X12_units_38 {r : Int32 × zI} (C : zC p l e R s m args below meth c s0 a0 d cy B0 yX12_units.cls cX12_units 5 (some .boolean) bc bs bc bs 1 20 []) (L : zL) (k10 : Int32 → Int32 → Int32 → zI → Option (Int32 × zI)) (hk10 : ∀ (v1 : Int32) (v2 : Int32) (v3 : Int32) (I : zI), k10 v1 v2 v3 I = some r → zG p l e R s m args below meth c d cy B0 5 bc bs (zQ below s args d cy B0 bc bs (.inl (some (.int r.1))) zSH zKn bc bs r.2 L) 10 [(0, .ref (B0 + 97)), (1, .int v1), (2, .int v2), (3, .int v3)] [] zSH zKn bc bs I L) (v1 : Int32) (v2 : Int32) (v3 : Int32) (v4 : Int32) (I : zI) (h : f_X12_units_38 k10 v1 v2 v3 v4 I = some r) : zG p l e R s m args below meth c d cy B0 5 bc bs (zQ below s args d cy B0 bc bs (.inl (some (.int r.1))) zSH zKn bc bs r.2 L) 38 [(0, .ref (B0 + 97)), (1, .int v1), (2, .int v2), (3, .int v3), (4, .int v4)] [] zSH zKn bc bs I L := by
  unfold f_X12_units_38 at h
  refine z_iload_n C rfl 2 rfl dX12_units_38 ?_
  refine z_iload C 4 rfl dX12_units_39 ?_
  refine z_if_eq C 48 (by decide) dX12_units_41 (fun hc => ?_) (fun hc => ?_)
  · have h := zif_t hc h
    refine z_iconst C (v := 0) (by decide) dX12_units_48 ?_
    refine z_lv [0, 1, 3] (lv' := [(0, .ref (B0 + 97)), (1, .int v1), (3, .int v3)]) rfl ?_
    exact l_X12_units_49 C L k10 hk10 v1 v3 v2 (0 : Int32) I h
  · have h := zif_f hc h
    refine z_iconst C (v := 1) (by decide) dX12_units_44 ?_
    refine z_goto C 49 (by decide) dX12_units_45 ?_
    refine z_lv [0, 1, 3] (lv' := [(0, .ref (B0 + 97)), (1, .int v1), (3, .int v3)]) rfl ?_
    exact l_X12_units_49 C L k10 hk10 v1 v3 v2 (1 : Int32) I h
set_option maxHeartbeats 4000000 in
set_option maxRecDepth 100000 in
theorem l_X12_units_114 {r : Int32 × zI} (C : zC p l e R s m args below meth c s0 a0 d cy B0 yX12_units.cls cX12_units 5 (some .boolean) bc bs bc bs 1 20 []) (L : zL) (k74 : Int32 → Int32 → zI → Option (Int32 × zI)) (hk74 : ∀ (v1 : Int32) (v3 : Int32) (I : zI), k74 v1 v3 I = some r → zG p l e R s m args below meth c d cy B0 5 bc bs (zQ below s args d cy B0 bc bs (.inl (some (.int r.1))) zSH zKn bc bs r.2 L) 74 [(0, .ref (B0 + 97)), (1, .int v1), (3, .int v3)] [] zSH zKn bc bs I L) (v1 : Int32) (v3 : Int32) (I : zI) (h : f_X12_units_114 k74 v1 v3 I = some r) : zG p l e R s m args below meth c d cy B0 5 bc bs (zQ below s args d cy B0 bc bs (.inl (some (.int r.1))) zSH zKn bc bs r.2 L) 114 [(0, .ref (B0 + 97)), (1, .int v1), (3, .int v3)] [] zSH zKn bc bs I L := by
  unfold f_X12_units_114 at h
  obtain ⟨x13, ex13, h⟩ := zlt_e h
  refine z_iinc C (j := 2) (v := x13) (lv' := [(3, .int x13), (0, .ref (B0 + 97)), (1, .int v1)]) rfl (by rw [ex13]; rfl) (by decide) rfl dX12_units_114 ?_
  refine z_goto C 74 (by decide) dX12_units_117 ?_
  refine z_lv [1, 2, 0] (lv' := [(0, .ref (B0 + 97)), (1, .int v1), (3, .int x13)]) rfl ?_
  exact hk74 v1 x13 I h
set_option maxHeartbeats 4000000 in
set_option maxRecDepth 100000 in
theorem l_X12_units_74 {r : Int32 × zI} (C : zC p l e R s m args below meth c s0 a0 d cy B0 yX12_units.cls cX12_units 5 (some .boolean) bc bs bc bs 1 20 []) (L : zL) (k74 : Int32 → Int32 → zI → Option (Int32 × zI)) (hk74 : ∀ (v1 : Int32) (v3 : Int32) (I : zI), k74 v1 v3 I = some r → zG p l e R s m args below meth c d cy B0 5 bc bs (zQ below s args d cy B0 bc bs (.inl (some (.int r.1))) zSH zKn bc bs r.2 L) 74 [(0, .ref (B0 + 97)), (1, .int v1), (3, .int v3)] [] zSH zKn bc bs I L) (v1 : Int32) (v3 : Int32) (I : zI) (h : f_X12_units_74 k74 v1 v3 I = some r) : zG p l e R s m args below meth c d cy B0 5 bc bs (zQ below s args d cy B0 bc bs (.inl (some (.int r.1))) zSH zKn bc bs r.2 L) 74 [(0, .ref (B0 + 97)), (1, .int v1), (3, .int v3)] [] zSH zKn bc bs I L := by
  unfold f_X12_units_74 at h
  refine z_iload_n C rfl 2 rfl dX12_units_74 ?_
  refine z_if_lt C 120 (by decide) dX12_units_75 (fun hc => ?_) (fun hc => ?_)
  · have h := zif_t hc h
    refine z_iconst C (v := 1) (by decide) dX12_units_120 ?_
    obtain rfl := Option.some.inj h
    exact z_iret C dX12_units_121 .boolean rfl rfl rfl
  · have h := zif_f hc h
    refine z_iload_n C rfl 1 rfl dX12_units_78 ?_
    refine z_iload_n C rfl 2 rfl dX12_units_79 ?_
    refine z_iushr C dX12_units_80 ?_
    obtain ⟨x7, ex7, h⟩ := zlt_e h
    refine z_eqi C ex7 ?_
    refine z_sipush C (v := 255) (by decide) dX12_units_81 ?_
    refine z_iand C dX12_units_84 ?_
    refine z_if_eq C 114 (by decide) dX12_units_85 (fun hc => ?_) (fun hc => ?_)
    · have h := zif_t hc h
      exact l_X12_units_114 C L k74 hk74 v1 v3 I h
    · have h := zif_f hc h
      refine z_aload_n C rfl 0 rfl dX12_units_88 ?_
      refine z_getr C zc_12 dX12_units_89 28 97 117 rfl (by decide) (by decide) q_1197 rfl rfl ?_
      refine z_aload_n C rfl 0 rfl dX12_units_92 ?_
      refine z_geti C zc_12 dX12_units_93 29 97 rfl (by decide) (by decide) q_1198 rfl ?_
      refine z_iload_n C rfl 1 rfl dX12_units_96 ?_
      refine z_iload_n C rfl 2 rfl dX12_units_97 ?_
      refine z_iushr C dX12_units_98 ?_
      obtain ⟨x8, ex8, h⟩ := zlt_e h
      refine z_eqi C ex8 ?_
      refine z_sipush C (v := 255) (by decide) dX12_units_99 ?_
      refine z_iand C dX12_units_102 ?_
      obtain ⟨hb9, h⟩ := zck_e h
      refine z_iastore C dX12_units_103 rfl rfl (by decide) (zbd_in hb9) ?_
      obtain ⟨I10, eI10, h⟩ := zlt_e h
      refine z_eqI C eI10 ?_
      refine z_aload_n C rfl 0 rfl dX12_units_104 ?_
      refine z_dup C rfl dX12_units_105 ?_
      refine z_geti C zc_12 dX12_units_106 29 97 rfl (by decide) (by decide) q_1198 rfl ?_
      refine z_iconst C (v := 1) (by decide) dX12_units_109 ?_
      refine z_iadd C dX12_units_110 ?_
      obtain ⟨x11, ex11, h⟩ := zlt_e h
      refine z_eqi C ex11 ?_
      refine z_puti C zc_12 dX12_units_111 29 97 rfl (by decide) (by decide) rfl q_1198 rfl rfl rfl ?_
      obtain ⟨I12, eI12, h⟩ := zlt_e h
      refine z_eqI C eI12 ?_
      exact l_X12_units_114 C L k74 hk74 v1 v3 I12 h
set_option maxHeartbeats 4000000 in
set_option maxRecDepth 100000 in
theorem L_X12_units_74 {r : Int32 × zI} (C : zC p l e R s m args below meth c s0 a0 d cy B0 yX12_units.cls cX12_units 5 (some .boolean) bc bs bc bs 1 20 []) (L : zL) (v1 : Int32) (v3 : Int32) (I : zI) (h : zlp3 (f_X12_units_74) zF v1 v3 I = some r) : zG p l e R s m args below meth c d cy B0 5 bc bs (zQ below s args d cy B0 bc bs (.inl (some (.int r.1))) zSH zKn bc bs r.2 L) 74 [(0, .ref (B0 + 97)), (1, .int v1), (3, .int v3)] [] zSH zKn bc bs I L :=
 zlp3_e (fun (v1 : Int32) (v3 : Int32) (I : zI) => zG p l e R s m args below meth c d cy B0 5 bc bs (zQ below s args d cy B0 bc bs (.inl (some (.int r.1))) zSH zKn bc bs r.2 L) 74 [(0, .ref (B0 + 97)), (1, .int v1), (3, .int v3)] [] zSH zKn bc bs I L) (fun k9 hk9 v1 v3 I h => l_X12_units_74 C L k9 hk9 v1 v3 I h) zF v1 v3 I h
set_option maxHeartbeats 4000000 in
set_option maxRecDepth 100000 in
theorem l_X12_units_10 {r : Int32 × zI} (C : zC p l e R s m args below meth c s0 a0 d cy B0 yX12_units.cls cX12_units 5 (some .boolean) bc bs bc bs 1 20 []) (L : zL) (k10 : Int32 → Int32 → Int32 → zI → Option (Int32 × zI)) (hk10 : ∀ (v1 : Int32) (v2 : Int32) (v3 : Int32) (I : zI), k10 v1 v2 v3 I = some r → zG p l e R s m args below meth c d cy B0 5 bc bs (zQ below s args d cy B0 bc bs (.inl (some (.int r.1))) zSH zKn bc bs r.2 L) 10 [(0, .ref (B0 + 97)), (1, .int v1), (2, .int v2), (3, .int v3)] [] zSH zKn bc bs I L) (v1 : Int32) (v2 : Int32) (v3 : Int32) (I : zI) (h : f_X12_units_10 k10 v1 v2 v3 I = some r) : zG p l e R s m args below meth c d cy B0 5 bc bs (zQ below s args d cy B0 bc bs (.inl (some (.int r.1))) zSH zKn bc bs r.2 L) 10 [(0, .ref (B0 + 97)), (1, .int v1), (2, .int v2), (3, .int v3)] [] zSH zKn bc bs I L := by
  unfold f_X12_units_10 at h
  refine z_iload_n C rfl 3 rfl dX12_units_10 ?_
  refine z_if_lt C 57 (by decide) dX12_units_11 (fun hc => ?_) (fun hc => ?_)
  · have h := zif_t hc h
    refine z_aload_n C rfl 0 rfl dX12_units_57 ?_
    refine z_geti C zc_12 dX12_units_58 29 97 rfl (by decide) (by decide) q_1198 rfl ?_
    refine z_iload_n C rfl 2 rfl dX12_units_61 ?_
    refine z_iadd C dX12_units_62 ?_
    obtain ⟨x2, ex2, h⟩ := zlt_e h
    refine z_eqi C ex2 ?_
    refine z_sipush C (v := 800) (by decide) dX12_units_63 ?_
    refine z_icmp_le C 71 (by decide) dX12_units_66 (fun hc => ?_) (fun hc => ?_)
    · have h := zif_t hc h
      refine z_bipush C (v := 24) (by decide) dX12_units_71 ?_
      refine z_istore_n C (lv' := [(3, .int (24 : Int32)), (0, .ref (B0 + 97)), (1, .int v1), (2, .int v2)]) rfl (by decide) rfl dX12_units_73 ?_
      refine z_lv [1, 2, 0] (lv' := [(0, .ref (B0 + 97)), (1, .int v1), (3, .int (24 : Int32))]) rfl ?_
      exact L_X12_units_74 C L v1 (24 : Int32) I h
    · have h := zif_f hc h
      refine z_iconst C (v := 0) (by decide) dX12_units_69 ?_
      obtain rfl := Option.some.inj h
      exact z_iret C dX12_units_70 .boolean rfl rfl rfl
  · have h := zif_f hc h
    refine z_iload_n C rfl 1 rfl dX12_units_14 ?_
    refine z_iload_n C rfl 3 rfl dX12_units_15 ?_
    refine z_iushr C dX12_units_16 ?_
    obtain ⟨x3, ex3, h⟩ := zlt_e h
    refine z_eqi C ex3 ?_
    refine z_sipush C (v := 255) (by decide) dX12_units_17 ?_
    refine z_iand C dX12_units_20 ?_
    obtain ⟨x4, ex4, h⟩ := zlt_e h
    refine z_eqi C ex4 ?_
    refine z_istore C (lv' := [(4, .int x4), (0, .ref (B0 + 97)), (1, .int v1), (2, .int v2), (3, .int v3)]) (by decide) rfl dX12_units_21 ?_
    refine z_iload C 0 rfl dX12_units_23 ?_
    refine z_if_eq C 38 (by decide) dX12_units_25 (fun hc => ?_) (fun hc => ?_)
    · have h := zif_t hc h
      refine z_lv [1, 2, 3, 4, 0] (lv' := [(0, .ref (B0 + 97)), (1, .int v1), (2, .int v2), (3, .int v3), (4, .int x4)]) rfl ?_
      exact l_X12_units_38 C L k10 hk10 v1 v2 v3 x4 I h
    · have h := zif_f hc h
      refine z_iload C 0 rfl dX12_units_28 ?_
      obtain ⟨x6, hg5, h⟩ := zb1_e h
      refine z_callS C dX12_units_30 yy_X12_isCharacter (c_X12_isCharacter C.2.2.2.2.1  x4 I L hg5) q_1366 q_1367 (by decide) (by decide) rfl rfl (Nat.le_of_ble_eq_true rfl) ⟨Nat.le_refl _, Nat.le_refl _, Nat.le_refl _, Nat.le_refl _⟩ ?_
      refine z_if_ne C 38 (by decide) dX12_units_33 (fun hc => ?_) (fun hc => ?_)
      · have h := zif_f hc h
        refine z_lv [1, 2, 3, 4, 0] (lv' := [(0, .ref (B0 + 97)), (1, .int v1), (2, .int v2), (3, .int v3), (4, .int x4)]) rfl ?_
        exact l_X12_units_38 C L k10 hk10 v1 v2 v3 x4 I h
      · have h := zif_t hc h
        refine z_iconst C (v := 0) (by decide) dX12_units_36 ?_
        obtain rfl := Option.some.inj h
        exact z_iret C dX12_units_37 .boolean rfl rfl rfl
set_option maxHeartbeats 4000000 in
set_option maxRecDepth 100000 in
theorem L_X12_units_10 {r : Int32 × zI} (C : zC p l e R s m args below meth c s0 a0 d cy B0 yX12_units.cls cX12_units 5 (some .boolean) bc bs bc bs 1 20 []) (L : zL) (v1 : Int32) (v2 : Int32) (v3 : Int32) (I : zI) (h : zlp4 (f_X12_units_10) zF v1 v2 v3 I = some r) : zG p l e R s m args below meth c d cy B0 5 bc bs (zQ below s args d cy B0 bc bs (.inl (some (.int r.1))) zSH zKn bc bs r.2 L) 10 [(0, .ref (B0 + 97)), (1, .int v1), (2, .int v2), (3, .int v3)] [] zSH zKn bc bs I L :=
 zlp4_e (fun (v1 : Int32) (v2 : Int32) (v3 : Int32) (I : zI) => zG p l e R s m args below meth c d cy B0 5 bc bs (zQ below s args d cy B0 bc bs (.inl (some (.int r.1))) zSH zKn bc bs r.2 L) 10 [(0, .ref (B0 + 97)), (1, .int v1), (2, .int v2), (3, .int v3)] [] zSH zKn bc bs I L) (fun k9 hk9 v1 v2 v3 I h => l_X12_units_10 C L k9 hk9 v1 v2 v3 I h) zF v1 v2 v3 I h
set_option maxHeartbeats 4000000 in
set_option maxRecDepth 100000 in
theorem c_X12_units {r : Int32 × zI} (hE : zE0 l s0 a0 d cy B0) (a1 : Int32) (I : zI) (L : zL) (h : f_X12_units a1 I = some r) : zM l s0 d cy B0 yX12_units cX12_units 5 (some .boolean) 1 20 [.ref (B0 + 97), .int a1] zSH zKn bc bs I L (.inl (some (.int r.1))) zSH zKn bc bs r.2 L := by
  refine z_meth yy_X12_units hE (Nat.le_of_ble_eq_true rfl) (fun p e R s m args below meth c C => ?_)
  show zG p l e R s m args below meth c d cy B0 5 bc bs (zQ below s args d cy B0 bc bs (.inl (some (.int r.1))) zSH zKn bc bs r.2 L) 0 [(0, .ref (B0 + 97)), (1, .int a1)] [] zSH zKn bc bs I L
  unfold f_X12_units at h
  refine z_aload_n C rfl 0 rfl dX12_units_0 ?_
  refine z_iconst C (v := 0) (by decide) dX12_units_1 ?_
  refine z_puti C zc_12 dX12_units_2 0 97 rfl (by decide) (by decide) rfl q_1169 rfl rfl rfl ?_
  obtain ⟨I1, eI1, h⟩ := zlt_e h
  refine z_eqI C eI1 ?_
  refine z_iconst C (v := 0) (by decide) dX12_units_5 ?_
  refine z_istore_n C (lv' := [(2, .int (0 : Int32)), (0, .ref (B0 + 97)), (1, .int a1)]) rfl (by decide) rfl dX12_units_6 ?_
  refine z_bipush C (v := 24) (by decide) dX12_units_7 ?_
  refine z_istore_n C (lv' := [(3, .int (24 : Int32)), (2, .int (0 : Int32)), (0, .ref (B0 + 97)), (1, .int a1)]) rfl (by decide) rfl dX12_units_9 ?_
  refine z_lv [2, 3, 1, 0] (lv' := [(0, .ref (B0 + 97)), (1, .int a1), (2, .int (0 : Int32)), (3, .int (24 : Int32))]) rfl ?_
  exact L_X12_units_10 C L a1 (0 : Int32) (24 : Int32) I1 h
theorem q_1215 : (Cond.fieldLink "DeviceFindModel" (156 : Nat) "DeviceFindModel" "from" "I") ∈ lw_tbl := List.mem_of_getElem? (i := 1215) (by decide +kernel)
theorem q_1216 : (Cond.fieldLink "DeviceFindModel" (153 : Nat) "DeviceFindModel" "to" "I") ∈ lw_tbl := List.mem_of_getElem? (i := 1216) (by decide +kernel)
theorem q_1217 : (Cond.fieldLink "DeviceFindModel" (150 : Nat) "DeviceFindModel" "word" "I") ∈ lw_tbl := List.mem_of_getElem? (i := 1217) (by decide +kernel)
theorem q_1380 : (Cond.code ({ cls := "DeviceFindModel", name := "next", desc := "()V" } : Jvm.MethodName) prog_14_method_14_code (3 : Nat) (Option.none : Option Jvm.ClassFile.FieldType)) ∈ lw_tbl := List.mem_of_getElem? (i := 1380) (by decide +kernel)
theorem q_1381 : (Cond.methodLink "DeviceFindModel" (159 : Nat) ({ cls := "DeviceFindModel", name := "isLetter", desc := "(I)Z" } : Jvm.MethodName)) ∈ lw_tbl := List.mem_of_getElem? (i := 1381) (by decide +kernel)
theorem q_1382 : (Cond.static ({ cls := "DeviceFindModel", name := "isLetter", desc := "(I)Z" } : Jvm.MethodName)) ∈ lw_tbl := List.mem_of_getElem? (i := 1382) (by decide +kernel)
theorem q_1384 : (Cond.methodLink "DeviceFindModel" (162 : Nat) ({ cls := "DeviceFindModel", name := "isDigit", desc := "(I)Z" } : Jvm.MethodName)) ∈ lw_tbl := List.mem_of_getElem? (i := 1384) (by decide +kernel)
theorem q_1385 : (Cond.static ({ cls := "DeviceFindModel", name := "isDigit", desc := "(I)Z" } : Jvm.MethodName)) ∈ lw_tbl := List.mem_of_getElem? (i := 1385) (by decide +kernel)
theorem yy_X12_next : zY yX12_next cX12_next 3 none 0 := ⟨q_1380, q_88, by decide +kernel, by decide +kernel, by decide +kernel⟩
def f_X12_next_57 (k18 : zI → Option zI) (I : zI) : Option zI :=
  zlt ((I 97 46) + (1 : Int32)) (fun x19 => zlt (zu I 97 46 x19) (fun I20 => k18 I20))
def f_X12_next_175 (k126 : Int32 → Int32 → zI → Option zI) (v1 : Int32) (v2 : Int32) (I : zI) : Option zI :=
  zlt ((I 97 47) + (1 : Int32)) (fun x29 => zlt (zu I 97 47 x29) (fun I30 => k126 v1 v2 I30))
def f_X12_next_188 (I : zI) : Option zI :=
  some I
def f_X12_next_156 (k126 : Int32 → Int32 → zI → Option zI) (v1 : Int32) (v2 : Int32) (I : zI) : Option zI :=
  if v2 = 0 then (f_X12_next_188 I) else (zlt (I 97 47) (fun x25 => zck (zbd x25 800) (zb1 (f_X12_isDigit (I 117 x25.toNatClampNeg)) (fun x28 => if x28 = 0 then (f_X12_next_188 I) else (f_X12_next_175 k126 v1 v2 I)))))
def f_X12_next_126 (k126 : Int32 → Int32 → zI → Option zI) (v1 : Int32) (v2 : Int32) (I : zI) : Option zI :=
  if (I 97 29) ≤ (I 97 47) then (f_X12_next_188 I) else (if v1 = 0 then (f_X12_next_156 k126 v1 v2 I) else (zlt (I 97 47) (fun x21 => zck (zbd x21 800) (zb1 (f_X12_isLetter (I 117 x21.toNatClampNeg)) (fun x24 => if x24 = 0 then (f_X12_next_156 k126 v1 v2 I) else (f_X12_next_175 k126 v1 v2 I))))))
def f_X12_next_70 (I : zI) : Option zI :=
  zlt (zu I 97 47 (I 97 46)) (fun I8 => if (I8 97 46) = (I8 97 29) then (some I8) else (zlt (I8 97 46) (fun x9 => zck (zbd x9 800) (zb1 (f_X12_isLetter (I8 117 x9.toNatClampNeg)) (fun x12 => zlt (I8 97 46) (fun x13 => zck (zbd x13 800) (zb1 (f_X12_isDigit (I8 117 x13.toNatClampNeg)) (fun x16 => zlt ((I8 97 47) + (1 : Int32)) (fun x17 => zlt (zu I8 97 47 x17) (fun I18 => zlp3 (f_X12_next_126) zF x12 x16 I18))))))))))
def f_X12_next_18 (k18 : zI → Option zI) (I : zI) : Option zI :=
  if (I 97 29) ≤ (I 97 46) then (f_X12_next_70 I) else (zlt (I 97 46) (fun x4 => zck (zbd x4 800) (if (I 117 x4.toNatClampNeg) = (32 : Int32) then (f_X12_next_57 k18 I) else (zlt (I 97 46) (fun x6 => zck (zbd x6 800) (if (I 117 x6.toNatClampNeg) = (10 : Int32) then (f_X12_next_57 k18 I) else (f_X12_next_70 I)))))))
def f_X12_next (I : zI) : Option zI :=
  zlt ((I 97 48) + (1 : Int32)) (fun x1 => zlt (zu I 97 48 x1) (fun I2 => zlt (zu I2 97 46 (I2 97 47)) (fun I3 => zlp1 (f_X12_next_18) zF I3)))
set_option maxHeartbeats 4000000 in
set_option maxRecDepth 100000 in
theorem l_X12_next_57 {r : zI} (C : zC p l e R s m args below meth c s0 a0 d cy B0 yX12_next.cls cX12_next 3 none bc bs bc bs 1 20 []) (L : zL) (k18 : zI → Option zI) (hk18 : ∀ (I : zI), k18 I = some r → zG p l e R s m args below meth c d cy B0 3 bc bs (zQ below s args d cy B0 bc bs (.inl none) zSH zKn bc bs r L) 18 [(0, .ref (B0 + 97))] [] zSH zKn bc bs I L) (I : zI) (h : f_X12_next_57 k18 I = some r) : zG p l e R s m args below meth c d cy B0 3 bc bs (zQ below s args d cy B0 bc bs (.inl none) zSH zKn bc bs r L) 57 [(0, .ref (B0 + 97))] [] zSH zKn bc bs I L := by
  unfold f_X12_next_57 at h
  refine z_aload_n C rfl 0 rfl dX12_next_57 ?_
  refine z_dup C rfl dX12_next_58 ?_
  refine z_geti C zc_12 dX12_next_59 46 97 rfl (by decide) (by decide) q_1215 rfl ?_
  refine z_iconst C (v := 1) (by decide) dX12_next_62 ?_
  refine z_iadd C dX12_next_63 ?_
  obtain ⟨x19, ex19, h⟩ := zlt_e h
  refine z_eqi C ex19 ?_
  refine z_puti C zc_12 dX12_next_64 46 97 rfl (by decide) (by decide) rfl q_1215 rfl rfl rfl ?_
  obtain ⟨I20, eI20, h⟩ := zlt_e h
  refine z_eqI C eI20 ?_
  refine z_goto C 18 (by decide) dX12_next_67 ?_
  exact hk18 I20 h
set_option maxHeartbeats 4000000 in
set_option maxRecDepth 100000 in
theorem l_X12_next_175 {r : zI} (C : zC p l e R s m args below meth c s0 a0 d cy B0 yX12_next.cls cX12_next 3 none bc bs bc bs 1 20 []) (L : zL) (k126 : Int32 → Int32 → zI → Option zI) (hk126 : ∀ (v1 : Int32) (v2 : Int32) (I : zI), k126 v1 v2 I = some r → zG p l e R s m args below meth c d cy B0 3 bc bs (zQ below s args d cy B0 bc bs (.inl none) zSH zKn bc bs r L) 126 [(0, .ref (B0 + 97)), (1, .int v1), (2, .int v2)] [] zSH zKn bc bs I L) (v1 : Int32) (v2 : Int32) (I : zI) (h : f_X12_next_175 k126 v1 v2 I = some r) : zG p l e R s m args below meth c d cy B0 3 bc bs (zQ below s args d cy B0 bc bs (.inl none) zSH zKn bc bs r L) 175 [(0, .ref (B0 + 97)), (1, .int v1), (2, .int v2)] [] zSH zKn bc bs I L := by
  unfold f_X12_next_175 at h
  refine z_aload_n C rfl 0 rfl dX12_next_175 ?_
  refine z_dup C rfl dX12_next_176 ?_
  refine z_geti C zc_12 dX12_next_177 47 97 rfl (by decide) (by decide) q_1216 rfl ?_
  refine z_iconst C (v := 1) (by decide) dX12_next_180 ?_
  refine z_iadd C dX12_next_181 ?_
  obtain ⟨x29, ex29, h⟩ := zlt_e h
  refine z_eqi C ex29 ?_
  refine z_puti C zc_12 dX12_next_182 47 97 rfl (by decide) (by decide) rfl q_1216 rfl rfl rfl ?_
  obtain ⟨I30, eI30, h⟩ := zlt_e h
  refine z_eqI C eI30 ?_
  refine z_goto C 126 (by decide) dX12_next_185 ?_
  exact hk126 v1 v2 I30 h
set_option maxHeartbeats 4000000 in
set_option maxRecDepth 100000 in
theorem l_X12_next_188 {r : zI} (C : zC p l e R s m args below meth c s0 a0 d cy B0 yX12_next.cls cX12_next 3 none bc bs bc bs 1 20 []) (L : zL) (I : zI) (h : f_X12_next_188 I = some r) : zG p l e R s m args below meth c d cy B0 3 bc bs (zQ below s args d cy B0 bc bs (.inl none) zSH zKn bc bs r L) 188 [] [] zSH zKn bc bs I L := by
  unfold f_X12_next_188 at h
  obtain rfl := Option.some.inj h
  exact z_vret C dX12_next_188 rfl rfl
set_option maxHeartbeats 4000000 in
set_option maxRecDepth 100000 in
theorem l_X12_next_156 {r : zI} (C : zC p l e R s m args below meth c s0 a0 d cy B0 yX12_next.cls cX12_next 3 none bc bs bc bs 1 20 []) (L : zL) (k126 : Int32 → Int32 → zI → Option zI) (hk126 : ∀ (v1 : Int32) (v2 : Int32) (I : zI), k126 v1 v2 I = some r → zG p l e R s m args below meth c d cy B0 3 bc bs (zQ below s args d cy B0 bc bs (.inl none) zSH zKn bc bs r L) 126 [(0, .ref (B0 + 97)), (1, .int v1), (2, .int v2)] [] zSH zKn bc bs I L) (v1 : Int32) (v2 : Int32) (I : zI) (h : f_X12_next_156 k126 v1 v2 I = some r) : zG p l e R s m args below meth c d cy B0 3 bc bs (zQ below s args d cy B0 bc bs (.inl none) zSH zKn bc bs r L) 156 [(0, .ref (B0 + 97)), (1, .int v1), (2, .int v2)] [] zSH zKn bc bs I L := by
  unfold f_X12_next_156 at h
  refine z_iload_n C rfl 2 rfl dX12_next_156 ?_
  refine z_if_eq C 188 (by decide) dX12_next_157 (fun hc => ?_) (fun hc => ?_)
  · have h := zif_t hc h
    refine z_lv [] (lv' := []) rfl ?_
    exact l_X12_next_188 C L I h
  · have h := zif_f hc h
    refine z_aload_n C rfl 0 rfl dX12_next_160 ?_
    refine z_getr C zc_12 dX12_next_161 28 97 117 rfl (by decide) (by decide) q_1197 rfl rfl ?_
    refine z_aload_n C rfl 0 rfl dX12_next_164 ?_
    refine z_geti C zc_12 dX12_next_165 47 97 rfl (by decide) (by decide) q_1216 rfl ?_
    obtain ⟨x25, ex25, h⟩ := zlt_e h
    refine z_eqi C ex25 ?_
    obtain ⟨hb26, h⟩ := zck_e h
    refine z_iaload C dX12_next_168 rfl rfl (by decide) (zbd_in hb26) ?_
    obtain ⟨x28, hg27, h⟩ := zb1_e h
    refine z_callS C dX12_next_169 yy_X12_isDigit (c_X12_isDigit C.2.2.2.2.1  (I 117 x25.toNatClampNeg) I L hg27) q_1384 q_1385 (by decide) (by decide) rfl rfl (Nat.le_of_ble_eq_true rfl) ⟨Nat.le_refl _, Nat.le_refl _, Nat.le_refl _, Nat.le_refl _⟩ ?_
    refine z_if_eq C 188 (by decide) dX12_next_172 (fun hc => ?_) (fun hc => ?_)
    · have h := zif_t hc h
      refine z_lv [] (lv' := []) rfl ?_
      exact l_X12_next_188 C L I h
    · have h := zif_f hc h
      exact l_X12_next_175 C L k126 hk126 v1 v2 I h
set_option maxHeartbeats 4000000 in
set_option maxRecDepth 100000 in
theorem l_X12_next_126 {r : zI} (C : zC p l e R s m args below meth c s0 a0 d cy B0 yX12_next.cls cX12_next 3 none bc bs bc bs 1 20 []) (L : zL) (k126 : Int32 → Int32 → zI → Option zI) (hk126 : ∀ (v1 : Int32) (v2 : Int32) (I : zI), k126 v1 v2 I = some r → zG p l e R s m args below meth c d cy B0 3 bc bs (zQ below s args d cy B0 bc bs (.inl none) zSH zKn bc bs r L) 126 [(0, .ref (B0 + 97)), (1, .int v1), (2, .int v2)] [] zSH zKn bc bs I L) (v1 : Int32) (v2 : Int32) (I : zI) (h : f_X12_next_126 k126 v1 v2 I = some r) : zG p l e R s m args below meth c d cy B0 3 bc bs (zQ below s args d cy B0 bc bs (.inl none) zSH zKn bc bs r L) 126 [(0, .ref (B0 + 97)), (1, .int v1), (2, .int v2)] [] zSH zKn bc bs I L := by
  unfold f_X12_next_126 at h
  refine z_aload_n C rfl 0 rfl dX12_next_126 ?_
  refine z_geti C zc_12 dX12_next_127 47 97 rfl (by decide) (by decide) q_1216 rfl ?_
  refine z_aload_n C rfl 0 rfl dX12_next_130 ?_
  refine z_geti C zc_12 dX12_next_131 29 97 rfl (by decide) (by decide) q_1198 rfl ?_
  refine z_icmp_ge C 188 (by decide) dX12_next_134 (fun hc => ?_) (fun hc => ?_)
  · have h := zif_t hc h
    refine z_lv [] (lv' := []) rfl ?_
    exact l_X12_next_188 C L I h
  · have h := zif_f hc h
    refine z_iload_n C rfl 1 rfl dX12_next_137 ?_
    refine z_if_eq C 156 (by decide) dX12_next_138 (fun hc => ?_) (fun hc => ?_)
    · have h := zif_t hc h
      exact l_X12_next_156 C L k126 hk126 v1 v2 I h
    · have h := zif_f hc h
      refine z_aload_n C rfl 0 rfl dX12_next_141 ?_
      refine z_getr C zc_12 dX12_next_142 28 97 117 rfl (by decide) (by decide) q_1197 rfl rfl ?_
      refine z_aload_n C rfl 0 rfl dX12_next_145 ?_
      refine z_geti C zc_12 dX12_next_146 47 97 rfl (by decide) (by decide) q_1216 rfl ?_
      obtain ⟨x21, ex21, h⟩ := zlt_e h
      refine z_eqi C ex21 ?_
      obtain ⟨hb22, h⟩ := zck_e h
      refine z_iaload C dX12_next_149 rfl rfl (by decide) (zbd_in hb22) ?_
      obtain ⟨x24, hg23, h⟩ := zb1_e h
      refine z_callS C dX12_next_150 yy_X12_isLetter (c_X12_isLetter C.2.2.2.2.1  (I 117 x21.toNatClampNeg) I L hg23) q_1381 q_1382 (by decide) (by decide) rfl rfl (Nat.le_of_ble_eq_true rfl) ⟨Nat.le_refl _, Nat.le_refl _, Nat.le_refl _, Nat.le_refl _⟩ ?_
      refine z_if_ne C 175 (by decide) dX12_next_153 (fun hc => ?_) (fun hc => ?_)
      · have h := zif_f hc h
        exact l_X12_next_175 C L k126 hk126 v1 v2 I h
      · have h := zif_t hc h
        exact l_X12_next_156 C L k126 hk126 v1 v2 I h
set_option maxHeartbeats 4000000 in
set_option maxRecDepth 100000 in
theorem L_X12_next_126 {r : zI} (C : zC p l e R s m args below meth c s0 a0 d cy B0 yX12_next.cls cX12_next 3 none bc bs bc bs 1 20 []) (L : zL) (v1 : Int32) (v2 : Int32) (I : zI) (h : zlp3 (f_X12_next_126) zF v1 v2 I = some r) : zG p l e R s m args below meth c d cy B0 3 bc bs (zQ below s args d cy B0 bc bs (.inl none) zSH zKn bc bs r L) 126 [(0, .ref (B0 + 97)), (1, .int v1), (2, .int v2)] [] zSH zKn bc bs I L :=
 zlp3_e (fun (v1 : Int32) (v2 : Int32) (I : zI) => zG p l e R s m args below meth c d cy B0 3 bc bs (zQ below s args d cy B0 bc bs (.inl none) zSH zKn bc bs r L) 126 [(0, .ref (B0 + 97)), (1, .int v1), (2, .int v2)] [] zSH zKn bc bs I L) (fun k9 hk9 v1 v2 I h => l_X12_next_126 C L k9 hk9 v1 v2 I h) zF v1 v2 I h
set_option maxHeartbeats 4000000 in
set_option maxRecDepth 100000 in
theorem l_X12_next_70 {r : zI} (C : zC p l e R s m args below meth c s0 a0 d cy B0 yX12_next.cls cX12_next 3 none bc bs bc bs 1 20 []) (L : zL) (I : zI) (h : f_X12_next_70 I = some r) : zG p l e R s m args below meth c d cy B0 3 bc bs (zQ below s args d cy B0 bc bs (.inl none) zSH zKn bc bs r L) 70 [(0, .ref (B0 + 97))] [] zSH zKn bc bs I L := by
  unfold f_X12_next_70 at h
  refine z_aload_n C rfl 0 rfl dX12_next_70 ?_
  refine z_aload_n C rfl 0 rfl dX12_next_71 ?_
  refine z_geti C zc_12 dX12_next_72 46 97 rfl (by decide) (by decide) q_1215 rfl ?_
  refine z_puti C zc_12 dX12_next_75 47 97 rfl (by decide) (by decide) rfl q_1216 rfl rfl rfl ?_
  obtain ⟨I8, eI8, h⟩ := zlt_e h
  refine z_eqI C eI8 ?_
  refine z_aload_n C rfl 0 rfl dX12_next_78 ?_
  refine z_geti C zc_12 dX12_next_79 46 97 rfl (by decide) (by decide) q_1215 rfl ?_
  refine z_aload_n C rfl 0 rfl dX12_next_82 ?_
  refine z_geti C zc_12 dX12_next_83 29 97 rfl (by decide) (by decide) q_1198 rfl ?_
  refine z_icmp_ne C 90 (by decide) dX12_next_86 (fun hc => ?_) (fun hc => ?_)
  · have h := zif_f hc h
    refine z_aload_n C rfl 0 rfl dX12_next_90 ?_
    refine z_getr C zc_12 dX12_next_91 28 97 117 rfl (by decide) (by decide) q_1197 rfl rfl ?_
    refine z_aload_n C rfl 0 rfl dX12_next_94 ?_
    refine z_geti C zc_12 dX12_next_95 46 97 rfl (by decide) (by decide) q_1215 rfl ?_
    obtain ⟨x9, ex9, h⟩ := zlt_e h
    refine z_eqi C ex9 ?_
    obtain ⟨hb10, h⟩ := zck_e h
    refine z_iaload C dX12_next_98 rfl rfl (by decide) (zbd_in hb10) ?_
    obtain ⟨x12, hg11, h⟩ := zb1_e h
    refine z_callS C dX12_next_99 yy_X12_isLetter (c_X12_isLetter C.2.2.2.2.1  (I8 117 x9.toNatClampNeg) I8 L hg11) q_1381 q_1382 (by decide) (by decide) rfl rfl (Nat.le_of_ble_eq_true rfl) ⟨Nat.le_refl _, Nat.le_refl _, Nat.le_refl _, Nat.le_refl _⟩ ?_
    refine z_istore_n C (lv' := [(1, .int x12), (0, .ref (B0 + 97))]) rfl (by decide) rfl dX12_next_102 ?_
    refine z_aload_n C rfl 1 rfl dX12_next_103 ?_
    refine z_getr C zc_12 dX12_next_104 28 97 117 rfl (by decide) (by decide) q_1197 rfl rfl ?_
    refine z_aload_n C rfl 1 rfl dX12_next_107 ?_
    refine z_geti C zc_12 dX12_next_108 46 97 rfl (by decide) (by decide) q_1215 rfl ?_
    obtain ⟨x13, ex13, h⟩ := zlt_e h
    refine z_eqi C ex13 ?_
    obtain ⟨hb14, h⟩ := zck_e h
    refine z_iaload C dX12_next_111 rfl rfl (by decide) (zbd_in hb14) ?_
    obtain ⟨x16, hg15, h⟩ := zb1_e h
    refine z_callS C dX12_next_112 yy_X12_isDigit (c_X12_isDigit C.2.2.2.2.1  (I8 117 x13.toNatClampNeg) I8 L hg15) q_1384 q_1385 (by decide) (by decide) rfl rfl (Nat.le_of_ble_eq_true rfl) ⟨Nat.le_refl _, Nat.le_refl _, Nat.le_refl _, Nat.le_refl _⟩ ?_
    refine z_istore_n C (lv' := [(2, .int x16), (1, .int x12), (0, .ref (B0 + 97))]) rfl (by decide) rfl dX12_next_115 ?_
    refine z_aload_n C rfl 2 rfl dX12_next_116 ?_
    refine z_dup C rfl dX12_next_117 ?_
    refine z_geti C zc_12 dX12_next_118 47 97 rfl (by decide) (by decide) q_1216 rfl ?_
    refine z_iconst C (v := 1) (by decide) dX12_next_121 ?_
    refine z_iadd C dX12_next_122 ?_
    obtain ⟨x17, ex17, h⟩ := zlt_e h
    refine z_eqi C ex17 ?_
    refine z_puti C zc_12 dX12_next_123 47 97 rfl (by decide) (by decide) rfl q_1216 rfl rfl rfl ?_
    obtain ⟨I18, eI18, h⟩ := zlt_e h
    refine z_eqI C eI18 ?_
    refine z_lv [2, 1, 0] (lv' := [(0, .ref (B0 + 97)), (1, .int x12), (2, .int x16)]) rfl ?_
    exact L_X12_next_126 C L x12 x16 I18 h
  · have h := zif_t hc h
    obtain rfl := Option.some.inj h
    exact z_vret C dX12_next_89 rfl rfl
set_option maxHeartbeats 4000000 in
set_option maxRecDepth 100000 in
theorem l_X12_next_18 {r : zI} (C : zC p l e R s m args below meth c s0 a0 d cy B0 yX12_next.cls cX12_next 3 none bc bs bc bs 1 20 []) (L : zL) (k18 : zI → Option zI) (hk18 : ∀ (I : zI), k18 I = some r → zG p l e R s m args below meth c d cy B0 3 bc bs (zQ below s args d cy B0 bc bs (.inl none) zSH zKn bc bs r L) 18 [(0, .ref (B0 + 97))] [] zSH zKn bc bs I L) (I : zI) (h : f_X12_next_18 k18 I = some r) : zG p l e R s m args below meth c d cy B0 3 bc bs (zQ below s args d cy B0 bc bs (.inl none) zSH zKn bc bs r L) 18 [(0, .ref (B0 + 97))] [] zSH zKn bc bs I L := by
  unfold f_X12_next_18 at h
  refine z_aload_n C rfl 0 rfl dX12_next_18 ?_
  refine z_geti C zc_12 dX12_next_19 46 97 rfl (by decide) (by decide) q_1215 rfl ?_
  refine z_aload_n C rfl 0 rfl dX12_next_22 ?_
  refine z_geti C zc_12 dX12_next_23 29 97 rfl (by decide) (by decide) q_1198 rfl ?_
  refine z_icmp_ge C 70 (by decide) dX12_next_26 (fun hc => ?_) (fun hc => ?_)
  · have h := zif_t hc h
    exact l_X12_next_70 C L I h
  · have h := zif_f hc h
    refine z_aload_n C rfl 0 rfl dX12_next_29 ?_
    refine z_getr C zc_12 dX12_next_30 28 97 117 rfl (by decide) (by decide) q_1197 rfl rfl ?_
    refine z_aload_n C rfl 0 rfl dX12_next_33 ?_
    refine z_geti C zc_12 dX12_next_34 46 97 rfl (by decide) (by decide) q_1215 rfl ?_
    obtain ⟨x4, ex4, h⟩ := zlt_e h
    refine z_eqi C ex4 ?_
    obtain ⟨hb5, h⟩ := zck_e h
    refine z_iaload C dX12_next_37 rfl rfl (by decide) (zbd_in hb5) ?_
    refine z_bipush C (v := 32) (by decide) dX12_next_38 ?_
    refine z_icmp_eq C 57 (by decide) dX12_next_40 (fun hc => ?_) (fun hc => ?_)
    · have h := zif_t hc h
      exact l_X12_next_57 C L k18 hk18 I h
    · have h := zif_f hc h
      refine z_aload_n C rfl 0 rfl dX12_next_43 ?_
      refine z_getr C zc_12 dX12_next_44 28 97 117 rfl (by decide) (by decide) q_1197 rfl rfl ?_
      refine z_aload_n C rfl 0 rfl dX12_next_47 ?_
      refine z_geti C zc_12 dX12_next_48 46 97 rfl (by decide) (by decide) q_1215 rfl ?_
      obtain ⟨x6, ex6, h⟩ := zlt_e h
      refine z_eqi C ex6 ?_
      obtain ⟨hb7, h⟩ := zck_e h
      refine z_iaload C dX12_next_51 rfl rfl (by decide) (zbd_in hb7) ?_
      refine z_bipush C (v := 10) (by decide) dX12_next_52 ?_
      refine z_icmp_ne C 70 (by decide) dX12_next_54 (fun hc => ?_) (fun hc => ?_)
      · have h := zif_f hc h
        exact l_X12_next_70 C L I h
      · have h := zif_t hc h
        exact l_X12_next_57 C L k18 hk18 I h
set_option maxHeartbeats 4000000 in
set_option maxRecDepth 100000 in
theorem L_X12_next_18 {r : zI} (C : zC p l e R s m args below meth c s0 a0 d cy B0 yX12_next.cls cX12_next 3 none bc bs bc bs 1 20 []) (L : zL) (I : zI) (h : zlp1 (f_X12_next_18) zF I = some r) : zG p l e R s m args below meth c d cy B0 3 bc bs (zQ below s args d cy B0 bc bs (.inl none) zSH zKn bc bs r L) 18 [(0, .ref (B0 + 97))] [] zSH zKn bc bs I L :=
 zlp1_e (fun (I : zI) => zG p l e R s m args below meth c d cy B0 3 bc bs (zQ below s args d cy B0 bc bs (.inl none) zSH zKn bc bs r L) 18 [(0, .ref (B0 + 97))] [] zSH zKn bc bs I L) (fun k9 hk9 I h => l_X12_next_18 C L k9 hk9 I h) zF I h
set_option maxHeartbeats 4000000 in
set_option maxRecDepth 100000 in
theorem c_X12_next {r : zI} (hE : zE0 l s0 a0 d cy B0) (I : zI) (L : zL) (h : f_X12_next I = some r) : zM l s0 d cy B0 yX12_next cX12_next 3 none 1 20 [.ref (B0 + 97)] zSH zKn bc bs I L (.inl none) zSH zKn bc bs r L := by
  refine z_meth yy_X12_next hE (Nat.le_of_ble_eq_true rfl) (fun p e R s m args below meth c C => ?_)
  show zG p l e R s m args below meth c d cy B0 3 bc bs (zQ below s args d cy B0 bc bs (.inl none) zSH zKn bc bs r L) 0 [(0, .ref (B0 + 97))] [] zSH zKn bc bs I L
  unfold f_X12_next at h
  refine z_aload_n C rfl 0 rfl dX12_next_0 ?_
  refine z_dup C rfl dX12_next_1 ?_
  refine z_geti C zc_12 dX12_next_2 48 97 rfl (by decide) (by decide) q_1217 rfl ?_
  refine z_iconst C (v := 1) (by decide) dX12_next_5 ?_
  refine z_iadd C dX12_next_6 ?_
  obtain ⟨x1, ex1, h⟩ := zlt_e h
  refine z_eqi C ex1 ?_
  refine z_puti C zc_12 dX12_next_7 48 97 rfl (by decide) (by decide) rfl q_1217 rfl rfl rfl ?_
  obtain ⟨I2, eI2, h⟩ := zlt_e h
  refine z_eqI C eI2 ?_
  refine z_aload_n C rfl 0 rfl dX12_next_10 ?_
  refine z_aload_n C rfl 0 rfl dX12_next_11 ?_
  refine z_geti C zc_12 dX12_next_12 47 97 rfl (by decide) (by decide) q_1216 rfl ?_
  refine z_puti C zc_12 dX12_next_15 46 97 rfl (by decide) (by decide) rfl q_1215 rfl rfl rfl ?_
  obtain ⟨I3, eI3, h⟩ := zlt_e h
  refine z_eqI C eI3 ?_
  exact L_X12_next_18 C L I3 h
theorem q_1419 : (Cond.code ({ cls := "DeviceFindModel", name := "is", desc := "(I)Z" } : Jvm.MethodName) prog_14_method_15_code (2 : Nat) (Option.some Jvm.ClassFile.FieldType.boolean)) ∈ lw_tbl := List.mem_of_getElem? (i := 1419) (by decide +kernel)
theorem yy_X12_is : zY yX12_is cX12_is 2 (some .boolean) 1 := ⟨q_1419, q_88, by decide +kernel, by decide +kernel, by decide +kernel⟩
def f_X12_is_31 (w0 : Int32) (I : zI) : Option Int32 :=
  zck (zbo w0) (some w0)
def f_X12_is_30 (I : zI) : Option Int32 :=
  f_X12_is_31 (0 : Int32) I
def f_X12_is (a1 : Int32) (I : zI) : Option Int32 :=
  zlt ((I 97 46) + (1 : Int32)) (fun x1 => if (I 97 47) = x1 then (zlt (I 97 46) (fun x2 => zck (zbd x2 800) (if (I 117 x2.toNatClampNeg) = a1 then (f_X12_is_31 (1 : Int32) I) else (f_X12_is_30 I)))) else (f_X12_is_30 I))
set_option maxHeartbeats 4000000 in
set_option maxRecDepth 100000 in
theorem l_X12_is_31 {r : Int32} (C : zC p l e R s m args below meth c s0 a0 d cy B0 yX12_is.cls cX12_is 2 (some .boolean) bc bs bc bs 0 0 []) (L : zL) (w0 : Int32) (I : zI) (h : f_X12_is_31 w0 I = some r) : zG p l e R s m args below meth c d cy B0 2 bc bs (zQ below s args d cy B0 bc bs (.inl (some (.int r))) zSH zKn bc bs I L) 31 [] [.int w0] zSH zKn bc bs I L := by
  unfold f_X12_is_31 at h
  obtain ⟨hb4, h⟩ := zck_e h
  obtain rfl := Option.some.inj h
  exact z_iret C dX12_is_31 .boolean rfl (zbo_n hb4).1 rfl
set_option maxHeartbeats 4000000 in
set_option maxRecDepth 100000 in
theorem l_X12_is_30 {r : Int32} (C : zC p l e R s m args below meth c s0 a0 d cy B0 yX12_is.cls cX12_is 2 (some .boolean) bc bs bc bs 0 0 []) (L : zL) (I : zI) (h : f_X12_is_30 I = some r) : zG p l e R s m args below meth c d cy B0 2 bc bs (zQ below s args d cy B0 bc bs (.inl (some (.int r))) zSH zKn bc bs I L) 30 [] [] zSH zKn bc bs I L := by
  unfold f_X12_is_30 at h
  refine z_iconst C (v := 0) (by decide) dX12_is_30 ?_
  exact l_X12_is_31 C L (0 : Int32) I h
set_option maxHeartbeats 4000000 in
set_option maxRecDepth 100000 in
theorem c_X12_is {r : Int32} (hE : zE0 l s0 a0 d cy B0) (a1 : Int32) (I : zI) (L : zL) (h : f_X12_is a1 I = some r) : zM l s0 d cy B0 yX12_is cX12_is 2 (some .boolean) 0 0 [.ref (B0 + 97), .int a1] zSH zKn bc bs I L (.inl (some (.int r))) zSH zKn bc bs I L := by
  refine z_meth yy_X12_is hE (Nat.le_of_ble_eq_true rfl) (fun p e R s m args below meth c C => ?_)
  show zG p l e R s m args below meth c d cy B0 2 bc bs (zQ below s args d cy B0 bc bs (.inl (some (.int r))) zSH zKn bc bs I L) 0 [(0, .ref (B0 + 97)), (1, .int a1)] [] zSH zKn bc bs I L
  unfold f_X12_is at h
  refine z_aload_n C rfl 0 rfl dX12_is_0 ?_
  refine z_geti C zc_12 dX12_is_1 47 97 rfl (by decide) (by decide) q_1216 rfl ?_
  refine z_aload_n C rfl 0 rfl dX12_is_4 ?_
  refine z_geti C zc_12 dX12_is_5 46 97 rfl (by decide) (by decide) q_1215 rfl ?_
  refine z_iconst C (v := 1) (by decide) dX12_is_8 ?_
  refine z_iadd C dX12_is_9 ?_
  obtain ⟨x1, ex1, h⟩ := zlt_e h
  refine z_eqi C ex1 ?_
  refine z_icmp_ne C 30 (by decide) dX12_is_10 (fun hc => ?_) (fun hc => ?_)
  · have h := zif_f hc h
    refine z_lv [] (lv' := []) rfl ?_
    exact l_X12_is_30 C L I h
  · have h := zif_t hc h
    refine z_aload_n C rfl 0 rfl dX12_is_13 ?_
    refine z_getr C zc_12 dX12_is_14 28 97 117 rfl (by decide) (by decide) q_1197 rfl rfl ?_
    refine z_aload_n C rfl 0 rfl dX12_is_17 ?_
    refine z_geti C zc_12 dX12_is_18 46 97 rfl (by decide) (by decide) q_1215 rfl ?_
    obtain ⟨x2, ex2, h⟩ := zlt_e h
    refine z_eqi C ex2 ?_
    obtain ⟨hb3, h⟩ := zck_e h
    refine z_iaload C dX12_is_21 rfl rfl (by decide) (zbd_in hb3) ?_
    refine z_iload_n C rfl 1 rfl dX12_is_22 ?_
    refine z_icmp_ne C 30 (by decide) dX12_is_23 (fun hc => ?_) (fun hc => ?_)
    · have h := zif_f hc h
      refine z_lv [] (lv' := []) rfl ?_
      exact l_X12_is_30 C L I h
    · have h := zif_t hc h
      refine z_iconst C (v := 1) (by decide) dX12_is_26 ?_
      refine z_goto C 31 (by decide) dX12_is_27 ?_
      refine z_lv [] (lv' := []) rfl ?_
      exact l_X12_is_31 C L (1 : Int32) I h
theorem q_1394 : (Cond.code ({ cls := "DeviceFindModel", name := "name", desc := "()J" } : Jvm.MethodName) prog_14_method_16_code (4 : Nat) (Option.some Jvm.ClassFile.FieldType.long)) ∈ lw_tbl := List.mem_of_getElem? (i := 1394) (by decide +kernel)
theorem q_1395 : (Cond.constantLong "DeviceFindModel" (165 : Nat) (27 : Int64)) ∈ lw_tbl := List.mem_of_getElem? (i := 1395) (by decide +kernel)
theorem q_1396 : (Cond.constantLong "DeviceFindModel" (167 : Nat) (96 : Int64)) ∈ lw_tbl := List.mem_of_getElem? (i := 1396) (by decide +kernel)
theorem yy_X12_name : zY yX12_name cX12_name 4 (some .long) 0 := ⟨q_1394, q_88, by decide +kernel, by decide +kernel, by decide +kernel⟩
def f_X12_name_40 (I : zI) : Option Int64 :=
  some (0 : Int64)
def f_X12_name_49 (k49 : Int64 → Int32 → zI → Option Int64) (v1 : Int64) (v3 : Int32) (I : zI) : Option Int64 :=
  if (I 97 47) ≤ v3 then (some v1) else (zck (zbd v3 800) (zlt ((I 117 v3.toNatClampNeg).toInt64) (fun x8 => zlt (((27 : Int64) * v1) + x8) (fun x9 => zlt (x9 - (96 : Int64)) (fun x10 => zlt (v3 + 1) (fun x11 => k49 x10 x11 I))))))
def f_X12_name (I : zI) : Option Int64 :=
  if (I 97 46) = (I 97 47) then (f_X12_name_40 I) else (zlt (I 97 46) (fun x1 => zck (zbd x1 800) (zb1 (f_X12_isLetter (I 117 x1.toNatClampNeg)) (fun x4 => if x4 = 0 then (f_X12_name_40 I) else (zlt ((I 97 47) - (I 97 46)) (fun x5 => if x5 ≤ (8 : Int32) then (zlt (I 97 46) (fun x6 => zlp3 (f_X12_name_49) zF (0 : Int64) x6 I)) else (f_X12_name_40 I)))))))
set_option maxHeartbeats 4000000 in
set_option maxRecDepth 100000 in
theorem l_X12_name_40 {r : Int64} (C : zC p l e R s m args below meth c s0 a0 d cy B0 yX12_name.cls cX12_name 4 (some .long) bc bs bc bs 1 20 []) (L : zL) (I : zI) (h : f_X12_name_40 I = some r) : zG p l e R s m args below meth c d cy B0 4 bc bs (zQ below s args d cy B0 bc bs (.inl (some (.long r))) zSH zKn bc bs I L) 40 [] [] zSH zKn bc bs I L := by
  unfold f_X12_name_40 at h
  refine z_lconst C (v := 0) (by decide) dX12_name_40 ?_
  obtain rfl := Option.some.inj h
  exact z_lret C dX12_name_41 rfl rfl
set_option maxHeartbeats 4000000 in
set_option maxRecDepth 100000 in
theorem l_X12_name_49 {r : Int64} (C : zC p l e R s m args below meth c s0 a0 d cy B0 yX12_name.cls cX12_name 4 (some .long) bc bs bc bs 1 20 []) (L : zL) (k49 : Int64 → Int32 → zI → Option Int64) (hk49 : ∀ (v1 : Int64) (v3 : Int32) (I : zI), k49 v1 v3 I = some r → zG p l e R s m args below meth c d cy B0 4 bc bs (zQ below s args d cy B0 bc bs (.inl (some (.long r))) zSH zKn bc bs I L) 49 [(0, .ref (B0 + 97)), (1, .long v1), (3, .int v3)] [] zSH zKn bc bs I L) (v1 : Int64) (v3 : Int32) (I : zI) (h : f_X12_name_49 k49 v1 v3 I = some r) : zG p l e R s m args below meth c d cy B0 4 bc bs (zQ below s args d cy B0 bc bs (.inl (some (.long r))) zSH zKn bc bs I L) 49 [(0, .ref (B0 + 97)), (1, .long v1), (3, .int v3)] [] zSH zKn bc bs I L := by
  unfold f_X12_name_49 at h
  refine z_iload_n C rfl 2 rfl dX12_name_49 ?_
  refine z_aload_n C rfl 0 rfl dX12_name_50 ?_
  refine z_geti C zc_12 dX12_name_51 47 97 rfl (by decide) (by decide) q_1216 rfl ?_
  refine z_icmp_ge C 81 (by decide) dX12_name_54 (fun hc => ?_) (fun hc => ?_)
  · have h := zif_t hc h
    refine z_lload_n C rfl 1 rfl dX12_name_81 ?_
    obtain rfl := Option.some.inj h
    exact z_lret C dX12_name_82 rfl rfl
  · have h := zif_f hc h
    refine z_ldc2 C dX12_name_57 q_1395 ?_
    refine z_lload_n C rfl 1 rfl dX12_name_60 ?_
    refine z_lmul C dX12_name_61 ?_
    refine z_aload_n C rfl 0 rfl dX12_name_62 ?_
    refine z_getr C zc_12 dX12_name_63 28 97 117 rfl (by decide) (by decide) q_1197 rfl rfl ?_
    refine z_iload_n C rfl 2 rfl dX12_name_66 ?_
    obtain ⟨hb7, h⟩ := zck_e h
    refine z_iaload C dX12_name_67 rfl rfl (by decide) (zbd_in hb7) ?_
    refine z_i2l C dX12_name_68 ?_
    obtain ⟨x8, ex8, h⟩ := zlt_e h
    refine z_eql C ex8 ?_
    refine z_ladd C dX12_name_69 ?_
    obtain ⟨x9, ex9, h⟩ := zlt_e h
    refine z_eql C ex9 ?_
    refine z_ldc2 C dX12_name_70 q_1396 ?_
    refine z_lsub C dX12_name_73 ?_
    obtain ⟨x10, ex10, h⟩ := zlt_e h
    refine z_eql C ex10 ?_
    refine z_lstore_n C (lv' := [(1, .long x10), (0, .ref (B0 + 97)), (3, .int v3)]) rfl (by decide) rfl dX12_name_74 ?_
    obtain ⟨x11, ex11, h⟩ := zlt_e h
    refine z_iinc C (j := 2) (v := x11) (lv' := [(3, .int x11), (1, .long x10), (0, .ref (B0 + 97))]) rfl (by rw [ex11]; rfl) (by decide) rfl dX12_name_75 ?_
    refine z_goto C 49 (by decide) dX12_name_78 ?_
    refine z_lv [2, 1, 0] (lv' := [(0, .ref (B0 + 97)), (1, .long x10), (3, .int x11)]) rfl ?_
    exact hk49 x10 x11 I h
set_option maxHeartbeats 4000000 in
set_option maxRecDepth 100000 in
theorem L_X12_name_49 {r : Int64} (C : zC p l e R s m args below meth c s0 a0 d cy B0 yX12_name.cls cX12_name 4 (some .long) bc bs bc bs 1 20 []) (L : zL) (v1 : Int64) (v3 : Int32) (I : zI) (h : zlp3 (f_X12_name_49) zF v1 v3 I = some r) : zG p l e R s m args below meth c d cy B0 4 bc bs (zQ below s args d cy B0 bc bs (.inl (some (.long r))) zSH zKn bc bs I L) 49 [(0, .ref (B0 + 97)), (1, .long v1), (3, .int v3)] [] zSH zKn bc bs I L :=
 zlp3_e (fun (v1 : Int64) (v3 : Int32) (I : zI) => zG p l e R s m args below meth c d cy B0 4 bc bs (zQ below s args d cy B0 bc bs (.inl (some (.long r))) zSH zKn bc bs I L) 49 [(0, .ref (B0 + 97)), (1, .long v1), (3, .int v3)] [] zSH zKn bc bs I L) (fun k9 hk9 v1 v3 I h => l_X12_name_49 C L k9 hk9 v1 v3 I h) zF v1 v3 I h
set_option maxHeartbeats 4000000 in
set_option maxRecDepth 100000 in
theorem c_X12_name {r : Int64} (hE : zE0 l s0 a0 d cy B0) (I : zI) (L : zL) (h : f_X12_name I = some r) : zM l s0 d cy B0 yX12_name cX12_name 4 (some .long) 1 20 [.ref (B0 + 97)] zSH zKn bc bs I L (.inl (some (.long r))) zSH zKn bc bs I L := by
  refine z_meth yy_X12_name hE (Nat.le_of_ble_eq_true rfl) (fun p e R s m args below meth c C => ?_)
  show zG p l e R s m args below meth c d cy B0 4 bc bs (zQ below s args d cy B0 bc bs (.inl (some (.long r))) zSH zKn bc bs I L) 0 [(0, .ref (B0 + 97))] [] zSH zKn bc bs I L
  unfold f_X12_name at h
  refine z_aload_n C rfl 0 rfl dX12_name_0 ?_
  refine z_geti C zc_12 dX12_name_1 46 97 rfl (by decide) (by decide) q_1215 rfl ?_
  refine z_aload_n C rfl 0 rfl dX12_name_4 ?_
  refine z_geti C zc_12 dX12_name_5 47 97 rfl (by decide) (by decide) q_1216 rfl ?_
  refine z_icmp_eq C 40 (by decide) dX12_name_8 (fun hc => ?_) (fun hc => ?_)
  · have h := zif_t hc h
    refine z_lv [] (lv' := []) rfl ?_
    exact l_X12_name_40 C L I h
  · have h := zif_f hc h
    refine z_aload_n C rfl 0 rfl dX12_name_11 ?_
    refine z_getr C zc_12 dX12_name_12 28 97 117 rfl (by decide) (by decide) q_1197 rfl rfl ?_
    refine z_aload_n C rfl 0 rfl dX12_name_15 ?_
    refine z_geti C zc_12 dX12_name_16 46 97 rfl (by decide) (by decide) q_1215 rfl ?_
    obtain ⟨x1, ex1, h⟩ := zlt_e h
    refine z_eqi C ex1 ?_
    obtain ⟨hb2, h⟩ := zck_e h
    refine z_iaload C dX12_name_19 rfl rfl (by decide) (zbd_in hb2) ?_
    obtain ⟨x4, hg3, h⟩ := zb1_e h
    refine z_callS C dX12_name_20 yy_X12_isLetter (c_X12_isLetter C.2.2.2.2.1  (I 117 x1.toNatClampNeg) I L hg3) q_1381 q_1382 (by decide) (by decide) rfl rfl (Nat.le_of_ble_eq_true rfl) ⟨Nat.le_refl _, Nat.le_refl _, Nat.le_refl _, Nat.le_refl _⟩ ?_
    refine z_if_eq C 40 (by decide) dX12_name_23 (fun hc => ?_) (fun hc => ?_)
    · have h := zif_t hc h
      refine z_lv [] (lv' := []) rfl ?_
      exact l_X12_name_40 C L I h
    · have h := zif_f hc h
      refine z_aload_n C rfl 0 rfl dX12_name_26 ?_
      refine z_geti C zc_12 dX12_name_27 47 97 rfl (by decide) (by decide) q_1216 rfl ?_
      refine z_aload_n C rfl 0 rfl dX12_name_30 ?_
      refine z_geti C zc_12 dX12_name_31 46 97 rfl (by decide) (by decide) q_1215 rfl ?_
      refine z_isub C dX12_name_34 ?_
      obtain ⟨x5, ex5, h⟩ := zlt_e h
      refine z_eqi C ex5 ?_
      refine z_bipush C (v := 8) (by decide) dX12_name_35 ?_
      refine z_icmp_le C 42 (by decide) dX12_name_37 (fun hc => ?_) (fun hc => ?_)
      · have h := zif_t hc h
        refine z_lconst C (v := 0) (by decide) dX12_name_42 ?_
        refine z_lstore_n C (lv' := [(1, .long (0 : Int64)), (0, .ref (B0 + 97))]) rfl (by decide) rfl dX12_name_43 ?_
        refine z_aload_n C rfl 1 rfl dX12_name_44 ?_
        refine z_geti C zc_12 dX12_name_45 46 97 rfl (by decide) (by decide) q_1215 rfl ?_
        obtain ⟨x6, ex6, h⟩ := zlt_e h
        refine z_eqi C ex6 ?_
        refine z_istore_n C (lv' := [(3, .int x6), (1, .long (0 : Int64)), (0, .ref (B0 + 97))]) rfl (by decide) rfl dX12_name_48 ?_
        refine z_lv [2, 1, 0] (lv' := [(0, .ref (B0 + 97)), (1, .long (0 : Int64)), (3, .int x6)]) rfl ?_
        exact L_X12_name_49 C L (0 : Int64) x6 I h
      · have h := zif_f hc h
        refine z_lv [] (lv' := []) rfl ?_
        exact l_X12_name_40 C L I h
theorem q_44 : Cond.selects "DeviceFindModel" ⟨"DeviceFindModel", "next", "()V"⟩ ⟨"DeviceFindModel", "next", "()V"⟩ ∈ lw_tbl := List.mem_of_getElem? (i := 44) (by decide +kernel)
theorem q_1218 : (Cond.fieldLink "DeviceFindModel" (169 : Nat) "DeviceFindModel" "right" "Z") ∈ lw_tbl := List.mem_of_getElem? (i := 1218) (by decide +kernel)
theorem q_1377 : (Cond.methodLink "DeviceFindModel" (172 : Nat) ({ cls := "DeviceFindModel", name := "next", desc := "()V" } : Jvm.MethodName)) ∈ lw_tbl := List.mem_of_getElem? (i := 1377) (by decide +kernel)
theorem q_1379 : (Cond.instanceMethod ({ cls := "DeviceFindModel", name := "next", desc := "()V" } : Jvm.MethodName)) ∈ lw_tbl := List.mem_of_getElem? (i := 1379) (by decide +kernel)
theorem q_1407 : (Cond.code ({ cls := "DeviceFindModel", name := "take", desc := "(Z)V" } : Jvm.MethodName) prog_14_method_17_code (2 : Nat) (Option.none : Option Jvm.ClassFile.FieldType)) ∈ lw_tbl := List.mem_of_getElem? (i := 1407) (by decide +kernel)
theorem yy_X12_take : zY yX12_take cX12_take 2 none 1 := ⟨q_1407, q_88, by decide +kernel, by decide +kernel, by decide +kernel⟩
def f_X12_take_31 (I : zI) : Option zI :=
  some I
def f_X12_take_17 (w1 : Int32) (I : zI) : Option zI :=
  zck (zbo w1) (zlt (zu I 97 49 w1) (fun I1 => if (I1 97 49) = 0 then (f_X12_take_31 I1) else (zb1 (f_X12_next I1) (fun I4 => f_X12_take_31 I4))))
def f_X12_take_16 (I : zI) : Option zI :=
  f_X12_take_17 (0 : Int32) I
def f_X12_take (a1 : Int32) (I : zI) : Option zI :=
  if (I 97 49) = 0 then (f_X12_take_16 I) else (if a1 = 0 then (f_X12_take_16 I) else (f_X12_take_17 (1 : Int32) I))
set_option maxHeartbeats 4000000 in
set_option maxRecDepth 100000 in
theorem l_X12_take_31 {r : zI} (C : zC p l e R s m args below meth c s0 a0 d cy B0 yX12_take.cls cX12_take 2 none bc bs bc bs 2 42 []) (L : zL) (I : zI) (h : f_X12_take_31 I = some r) : zG p l e R s m args below meth c d cy B0 2 bc bs (zQ below s args d cy B0 bc bs (.inl none) zSH zKn bc bs r L) 31 [] [] zSH zKn bc bs I L := by
  unfold f_X12_take_31 at h
  obtain rfl := Option.some.inj h
  exact z_vret C dX12_take_31 rfl rfl
set_option maxHeartbeats 4000000 in
set_option maxRecDepth 100000 in
theorem l_X12_take_17 {r : zI} (C : zC p l e R s m args below meth c s0 a0 d cy B0 yX12_take.cls cX12_take 2 none bc bs bc bs 2 42 []) (L : zL) (w1 : Int32) (I : zI) (h : f_X12_take_17 w1 I = some r) : zG p l e R s m args below meth c d cy B0 2 bc bs (zQ below s args d cy B0 bc bs (.inl none) zSH zKn bc bs r L) 17 [(0, .ref (B0 + 97))] [.int w1, .ref (B0 + 97)] zSH zKn bc bs I L := by
  unfold f_X12_take_17 at h
  obtain ⟨hb2, h⟩ := zck_e h
  refine z_puti C zc_12 dX12_take_17 49 97 rfl (by decide) (by decide) rfl q_1218 (zbo_n hb2).1 (zbo_n hb2).2 rfl ?_
  obtain ⟨I1, eI1, h⟩ := zlt_e h
  refine z_eqI C eI1 ?_
  refine z_aload_n C rfl 0 rfl dX12_take_20 ?_
  refine z_geti C zc_12 dX12_take_21 49 97 rfl (by decide) (by decide) q_1218 rfl ?_
  refine z_if_eq C 31 (by decide) dX12_take_24 (fun hc => ?_) (fun hc => ?_)
  · have h := zif_t hc h
    refine z_lv [] (lv' := []) rfl ?_
    exact l_X12_take_31 C L I1 h
  · have h := zif_f hc h
    refine z_aload_n C rfl 0 rfl dX12_take_27 ?_
    obtain ⟨I4, hg3, h⟩ := zb1_e h
    refine z_callV C zc_12 rfl (by decide) dX12_take_28 yy_X12_next (c_X12_next C.2.2.2.2.1  I1 L hg3) q_1377 q_1379 q_44 (by decide) (by decide) rfl rfl (Nat.le_of_ble_eq_true rfl) ⟨Nat.le_refl _, Nat.le_refl _, Nat.le_refl _, Nat.le_refl _⟩ ?_
    refine z_lv [] (lv' := []) rfl ?_
    exact l_X12_take_31 C L I4 h
set_option maxHeartbeats 4000000 in
set_option maxRecDepth 100000 in
theorem l_X12_take_16 {r : zI} (C : zC p l e R s m args below meth c s0 a0 d cy B0 yX12_take.cls cX12_take 2 none bc bs bc bs 2 42 []) (L : zL) (I : zI) (h : f_X12_take_16 I = some r) : zG p l e R s m args below meth c d cy B0 2 bc bs (zQ below s args d cy B0 bc bs (.inl none) zSH zKn bc bs r L) 16 [(0, .ref (B0 + 97))] [.ref (B0 + 97)] zSH zKn bc bs I L := by
  unfold f_X12_take_16 at h
  refine z_iconst C (v := 0) (by decide) dX12_take_16 ?_
  exact l_X12_take_17 C L (0 : Int32) I h
set_option maxHeartbeats 4000000 in
set_option maxRecDepth 100000 in
theorem c_X12_take {r : zI} (hE : zE0 l s0 a0 d cy B0) (a1 : Int32) (I : zI) (L : zL) (h : f_X12_take a1 I = some r) : zM l s0 d cy B0 yX12_take cX12_take 2 none 2 42 [.ref (B0 + 97), .int a1] zSH zKn bc bs I L (.inl none) zSH zKn bc bs r L := by
  refine z_meth yy_X12_take hE (Nat.le_of_ble_eq_true rfl) (fun p e R s m args below meth c C => ?_)
  show zG p l e R s m args below meth c d cy B0 2 bc bs (zQ below s args d cy B0 bc bs (.inl none) zSH zKn bc bs r L) 0 [(0, .ref (B0 + 97)), (1, .int a1)] [] zSH zKn bc bs I L
  unfold f_X12_take at h
  refine z_aload_n C rfl 0 rfl dX12_take_0 ?_
  refine z_aload_n C rfl 0 rfl dX12_take_1 ?_
  refine z_geti C zc_12 dX12_take_2 49 97 rfl (by decide) (by decide) q_1218 rfl ?_
  refine z_if_eq C 16 (by decide) dX12_take_5 (fun hc => ?_) (fun hc => ?_)
  · have h := zif_t hc h
    refine z_lv [0] (lv' := [(0, .ref (B0 + 97))]) rfl ?_
    exact l_X12_take_16 C L I h
  · have h := zif_f hc h
    refine z_iload_n C rfl 1 rfl dX12_take_8 ?_
    refine z_if_eq C 16 (by decide) dX12_take_9 (fun hc => ?_) (fun hc => ?_)
    · have h := zif_t hc h
      refine z_lv [0] (lv' := [(0, .ref (B0 + 97))]) rfl ?_
      exact l_X12_take_16 C L I h
    · have h := zif_f hc h
      refine z_iconst C (v := 1) (by decide) dX12_take_12 ?_
      refine z_goto C 17 (by decide) dX12_take_13 ?_
      refine z_lv [0] (lv' := [(0, .ref (B0 + 97))]) rfl ?_
      exact l_X12_take_17 C L (1 : Int32) I h
theorem q_1399 : (Cond.code ({ cls := "DeviceFindModel", name := "word", desc := "(IIIII)J" } : Jvm.MethodName) prog_14_method_18_code (7 : Nat) (Option.some Jvm.ClassFile.FieldType.long)) ∈ lw_tbl := List.mem_of_getElem? (i := 1399) (by decide +kernel)
theorem yy_X12_word : zY yX12_word cX12_word 7 (some .long) 5 := ⟨q_1399, q_88, by decide +kernel, by decide +kernel, by decide +kernel⟩
def f_X12_word_95 (w0 : Int64) : Option Int64 :=
  some w0
def f_X12_word_69 (v4 : Int32) (w0 : Int64) : Option Int64 :=
  if v4 ≤ 0 then (f_X12_word_95 w0) else (zlt (((27 : Int64) * w0) + v4.toInt64) (fun x6 => f_X12_word_95 (x6 - (96 : Int64))))
def f_X12_word_45 (v3 : Int32) (v4 : Int32) (w0 : Int64) : Option Int64 :=
  if v3 ≤ 0 then (f_X12_word_69 v4 w0) else (zlt (((27 : Int64) * w0) + v3.toInt64) (fun x5 => f_X12_word_69 v4 (x5 - (96 : Int64))))
def f_X12_word (a0 : Int32) (a1 : Int32) (a2 : Int32) (a3 : Int32) (a4 : Int32) : Option Int64 :=
  zlt (a0.toInt64 - (96 : Int64)) (fun x1 => zlt (((27 : Int64) * x1) + a1.toInt64) (fun x2 => zlt (x2 - (96 : Int64)) (fun x3 => if a2 ≤ 0 then (f_X12_word_45 a3 a4 x3) else (zlt (((27 : Int64) * x3) + a2.toInt64) (fun x4 => f_X12_word_45 a3 a4 (x4 - (96 : Int64)))))))
set_option maxHeartbeats 4000000 in
set_option maxRecDepth 100000 in
theorem l_X12_word_95 {r : Int64} (C : zC p l e R s m args below meth c s0 a0 d cy B0 yX12_word.cls cX12_word 7 (some .long) bc bs bc bs 0 0 []) (I : zI) (L : zL) (w0 : Int64) (h : f_X12_word_95 w0 = some r) : zG p l e R s m args below meth c d cy B0 7 bc bs (zQ below s args d cy B0 bc bs (.inl (some (.long r))) zSH zKn bc bs I L) 95 [] [.long w0] zSH zKn bc bs I L := by
  unfold f_X12_word_95 at h
  obtain rfl := Option.some.inj h
  exact z_lret C dX12_word_95 rfl rfl
set_option maxHeartbeats 4000000 in
set_option maxRecDepth 100000 in
theorem l_X12_word_69 {r : Int64} (C : zC p l e R s m args below meth c s0 a0 d cy B0 yX12_word.cls cX12_word 7 (some .long) bc bs bc bs 0 0 []) (I : zI) (L : zL) (v4 : Int32) (w0 : Int64) (h : f_X12_word_69 v4 w0 = some r) : zG p l e R s m args below meth c d cy B0 7 bc bs (zQ below s args d cy B0 bc bs (.inl (some (.long r))) zSH zKn bc bs I L) 69 [(4, .int v4)] [.long w0] zSH zKn bc bs I L := by
  unfold f_X12_word_69 at h
  refine z_lstore C (lv' := [(5, .long w0), (4, .int v4)]) (by decide) rfl dX12_word_69 ?_
  refine z_iload C 1 rfl dX12_word_71 ?_
  refine z_if_le C 93 (by decide) dX12_word_73 (fun hc => ?_) (fun hc => ?_)
  · have h := zif_t hc h
    refine z_lload C 0 rfl dX12_word_93 ?_
    refine z_lv [] (lv' := []) rfl ?_
    exact l_X12_word_95 C I L w0 h
  · have h := zif_f hc h
    refine z_ldc2 C dX12_word_76 q_1395 ?_
    refine z_lload C 0 rfl dX12_word_79 ?_
    refine z_lmul C dX12_word_81 ?_
    refine z_iload C 1 rfl dX12_word_82 ?_
    refine z_i2l C dX12_word_84 ?_
    refine z_ladd C dX12_word_85 ?_
    obtain ⟨x6, ex6, h⟩ := zlt_e h
    refine z_eql C ex6 ?_
    refine z_ldc2 C dX12_word_86 q_1396 ?_
    refine z_lsub C dX12_word_89 ?_
    refine z_goto C 95 (by decide) dX12_word_90 ?_
    refine z_lv [] (lv' := []) rfl ?_
    exact l_X12_word_95 C I L (x6 - (96 : Int64)) h
set_option maxHeartbeats 4000000 in
set_option maxRecDepth 100000 in
theorem l_X12_word_45 {r : Int64} (C : zC p l e R s m args below meth c s0 a0 d cy B0 yX12_word.cls cX12_word 7 (some .long) bc bs bc bs 0 0 []) (I : zI) (L : zL) (v3 : Int32) (v4 : Int32) (w0 : Int64) (h : f_X12_word_45 v3 v4 w0 = some r) : zG p l e R s m args below meth c d cy B0 7 bc bs (zQ below s args d cy B0 bc bs (.inl (some (.long r))) zSH zKn bc bs I L) 45 [(3, .int v3), (4, .int v4)] [.long w0] zSH zKn bc bs I L := by
  unfold f_X12_word_45 at h
  refine z_lstore C (lv' := [(5, .long w0), (3, .int v3), (4, .int v4)]) (by decide) rfl dX12_word_45 ?_
  refine z_iload_n C rfl 1 rfl dX12_word_47 ?_
  refine z_if_le C 67 (by decide) dX12_word_48 (fun hc => ?_) (fun hc => ?_)
  · have h := zif_t hc h
    refine z_lload C 0 rfl dX12_word_67 ?_
    refine z_lv [2] (lv' := [(4, .int v4)]) rfl ?_
    exact l_X12_word_69 C I L v4 w0 h
  · have h := zif_f hc h
    refine z_ldc2 C dX12_word_51 q_1395 ?_
    refine z_lload C 0 rfl dX12_word_54 ?_
    refine z_lmul C dX12_word_56 ?_
    refine z_iload_n C rfl 1 rfl dX12_word_57 ?_
    refine z_i2l C dX12_word_58 ?_
    refine z_ladd C dX12_word_59 ?_
    obtain ⟨x5, ex5, h⟩ := zlt_e h
    refine z_eql C ex5 ?_
    refine z_ldc2 C dX12_word_60 q_1396 ?_
    refine z_lsub C dX12_word_63 ?_
    refine z_goto C 69 (by decide) dX12_word_64 ?_
    refine z_lv [2] (lv' := [(4, .int v4)]) rfl ?_
    exact l_X12_word_69 C I L v4 (x5 - (96 : Int64)) h
set_option maxHeartbeats 4000000 in
set_option maxRecDepth 100000 in
theorem c_X12_word {r : Int64} (hE : zE0 l s0 a0 d cy B0) (a0 : Int32) (a1 : Int32) (a2 : Int32) (a3 : Int32) (a4 : Int32) (I : zI) (L : zL) (h : f_X12_word a0 a1 a2 a3 a4 = some r) : zM l s0 d cy B0 yX12_word cX12_word 7 (some .long) 0 0 [.int a0, .int a1, .int a2, .int a3, .int a4] zSH zKn bc bs I L (.inl (some (.long r))) zSH zKn bc bs I L := by
  refine z_meth yy_X12_word hE (Nat.le_of_ble_eq_true rfl) (fun p e R s m args below meth c C => ?_)
  show zG p l e R s m args below meth c d cy B0 7 bc bs (zQ below s args d cy B0 bc bs (.inl (some (.long r))) zSH zKn bc bs I L) 0 [(0, .int a0), (1, .int a1), (2, .int a2), (3, .int a3), (4, .int a4)] [] zSH zKn bc bs I L
  unfold f_X12_word at h
  refine z_iload_n C rfl 0 rfl dX12_word_0 ?_
  refine z_i2l C dX12_word_1 ?_
  refine z_ldc2 C dX12_word_2 q_1396 ?_
  refine z_lsub C dX12_word_5 ?_
  obtain ⟨x1, ex1, h⟩ := zlt_e h
  refine z_eql C ex1 ?_
  refine z_lstore C (lv' := [(5, .long x1), (0, .int a0), (1, .int a1), (2, .int a2), (3, .int a3), (4, .int a4)]) (by decide) rfl dX12_word_6 ?_
  refine z_ldc2 C dX12_word_8 q_1395 ?_
  refine z_lload C 0 rfl dX12_word_11 ?_
  refine z_lmul C dX12_word_13 ?_
  refine z_iload_n C rfl 2 rfl dX12_word_14 ?_
  refine z_i2l C dX12_word_15 ?_
  refine z_ladd C dX12_word_16 ?_
  obtain ⟨x2, ex2, h⟩ := zlt_e h
  refine z_eql C ex2 ?_
  refine z_ldc2 C dX12_word_17 q_1396 ?_
  refine z_lsub C dX12_word_20 ?_
  obtain ⟨x3, ex3, h⟩ := zlt_e h
  refine z_eql C ex3 ?_
  refine z_lstore C (lv' := [(5, .long x3), (0, .int a0), (1, .int a1), (2, .int a2), (3, .int a3), (4, .int a4)]) (by decide) rfl dX12_word_21 ?_
  refine z_iload_n C rfl 3 rfl dX12_word_23 ?_
  refine z_if_le C 43 (by decide) dX12_word_24 (fun hc => ?_) (fun hc => ?_)
  · have h := zif_t hc h
    refine z_lload C 0 rfl dX12_word_43 ?_
    refine z_lv [4, 5] (lv' := [(3, .int a3), (4, .int a4)]) rfl ?_
    exact l_X12_word_45 C I L a3 a4 x3 h
  · have h := zif_f hc h
    refine z_ldc2 C dX12_word_27 q_1395 ?_
    refine z_lload C 0 rfl dX12_word_30 ?_
    refine z_lmul C dX12_word_32 ?_
    refine z_iload_n C rfl 3 rfl dX12_word_33 ?_
    refine z_i2l C dX12_word_34 ?_
    refine z_ladd C dX12_word_35 ?_
    obtain ⟨x4, ex4, h⟩ := zlt_e h
    refine z_eql C ex4 ?_
    refine z_ldc2 C dX12_word_36 q_1396 ?_
    refine z_lsub C dX12_word_39 ?_
    refine z_goto C 45 (by decide) dX12_word_40 ?_
    refine z_lv [4, 5] (lv' := [(3, .int a3), (4, .int a4)]) rfl ?_
    exact l_X12_word_45 C I L a3 a4 (x4 - (96 : Int64)) h
theorem q_46 : Cond.selects "DeviceFindModel" ⟨"DeviceFindModel", "name", "()J"⟩ ⟨"DeviceFindModel", "name", "()J"⟩ ∈ lw_tbl := List.mem_of_getElem? (i := 46) (by decide +kernel)
theorem q_1185 : (Cond.fieldLink "DeviceFindModel" (31 : Nat) "DeviceFindModel" "names" "[J") ∈ lw_tbl := List.mem_of_getElem? (i := 1185) (by decide +kernel)
theorem q_1219 : (Cond.fieldLink "DeviceFindModel" (179 : Nat) "DeviceFindModel" "newLayers" "I") ∈ lw_tbl := List.mem_of_getElem? (i := 1219) (by decide +kernel)
theorem q_1391 : (Cond.methodLink "DeviceFindModel" (175 : Nat) ({ cls := "DeviceFindModel", name := "name", desc := "()J" } : Jvm.MethodName)) ∈ lw_tbl := List.mem_of_getElem? (i := 1391) (by decide +kernel)
theorem q_1393 : (Cond.instanceMethod ({ cls := "DeviceFindModel", name := "name", desc := "()J" } : Jvm.MethodName)) ∈ lw_tbl := List.mem_of_getElem? (i := 1393) (by decide +kernel)
theorem q_1415 : (Cond.code ({ cls := "DeviceFindModel", name := "layerAt", desc := "()I" } : Jvm.MethodName) prog_14_method_19_code (5 : Nat) (Option.some Jvm.ClassFile.FieldType.int)) ∈ lw_tbl := List.mem_of_getElem? (i := 1415) (by decide +kernel)
theorem yy_X12_layerAt : zY yX12_layerAt cX12_layerAt 5 (some .int) 0 := ⟨q_1415, q_88, by decide +kernel, by decide +kernel, by decide +kernel⟩
def f_X12_layerAt_46 (k10 : Int64 → Int32 → Int32 → zI → zL → Option Int32) (v1 : Int64) (v4 : Int32) (w0 : Int32) (I : zI) (L : zL) : Option Int32 :=
  zlt (v4 + 1) (fun x5 => k10 v1 w0 x5 I L)
def f_X12_layerAt_53 (v3 : Int32) (I : zI) (L : zL) : Option Int32 :=
  some v3
def f_X12_layerAt_10 (k10 : Int64 → Int32 → Int32 → zI → zL → Option Int32) (v1 : Int64) (v3 : Int32) (v4 : Int32) (I : zI) (L : zL) : Option Int32 :=
  if (I 97 50) ≤ v4 then (f_X12_layerAt_53 v3 I L) else (if v1 ≤ (0 : Int64) then (f_X12_layerAt_53 v3 I L) else (zlt ((24 : Int32) + v4) (fun x3 => zck (zbd x3 48) (if (L 105 x3.toNatClampNeg) = v1 then (f_X12_layerAt_46 k10 v1 v4 v4 I L) else (f_X12_layerAt_46 k10 v1 v4 v3 I L)))))
def f_X12_layerAt (I : zI) (L : zL) : Option Int32 :=
  zb1 (f_X12_name I) (fun x2 => zlp5 (f_X12_layerAt_10) zF x2 (-1 : Int32) (0 : Int32) I L)
set_option maxHeartbeats 4000000 in
set_option maxRecDepth 100000 in
theorem l_X12_layerAt_46 {r : Int32} (C : zC p l e R s m args below meth c s0 a0 d cy B0 yX12_layerAt.cls cX12_layerAt 5 (some .int) bc bs bc bs 2 43 []) (k10 : Int64 → Int32 → Int32 → zI → zL → Option Int32) (hk10 : ∀ (v1 : Int64) (v3 : Int32) (v4 : Int32) (I : zI) (L : zL), k10 v1 v3 v4 I L = some r → zG p l e R s m args below meth c d cy B0 5 bc bs (zQ below s args d cy B0 bc bs (.inl (some (.int r))) zSH zKn bc bs I L) 10 [(0, .ref (B0 + 97)), (1, .long v1), (3, .int v3), (4, .int v4)] [] zSH zKn bc bs I L) (v1 : Int64) (v4 : Int32) (w0 : Int32) (I : zI) (L : zL) (h : f_X12_layerAt_46 k10 v1 v4 w0 I L = some r) : zG p l e R s m args below meth c d cy B0 5 bc bs (zQ below s args d cy B0 bc bs (.inl (some (.int r))) zSH zKn bc bs I L) 46 [(0, .ref (B0 + 97)), (1, .long v1), (4, .int v4)] [.int w0] zSH zKn bc bs I L := by
  unfold f_X12_layerAt_46 at h
  refine z_istore_n C (lv' := [(3, .int w0), (0, .ref (B0 + 97)), (1, .long v1), (4, .int v4)]) rfl (by decide) rfl dX12_layerAt_46 ?_
  obtain ⟨x5, ex5, h⟩ := zlt_e h
  refine z_iinc C (j := 3) (v := x5) (lv' := [(4, .int x5), (3, .int w0), (0, .ref (B0 + 97)), (1, .long v1)]) rfl (by rw [ex5]; rfl) (by decide) rfl dX12_layerAt_47 ?_
  refine z_goto C 10 (by decide) dX12_layerAt_50 ?_
  refine z_lv [2, 3, 1, 0] (lv' := [(0, .ref (B0 + 97)), (1, .long v1), (3, .int w0), (4, .int x5)]) rfl ?_
  exact hk10 v1 w0 x5 I L h
set_option maxHeartbeats 4000000 in
set_option maxRecDepth 100000 in
theorem l_X12_layerAt_53 {r : Int32} (C : zC p l e R s m args below meth c s0 a0 d cy B0 yX12_layerAt.cls cX12_layerAt 5 (some .int) bc bs bc bs 2 43 []) (v3 : Int32) (I : zI) (L : zL) (h : f_X12_layerAt_53 v3 I L = some r) : zG p l e R s m args below meth c d cy B0 5 bc bs (zQ below s args d cy B0 bc bs (.inl (some (.int r))) zSH zKn bc bs I L) 53 [(3, .int v3)] [] zSH zKn bc bs I L := by
  unfold f_X12_layerAt_53 at h
  refine z_iload_n C rfl 0 rfl dX12_layerAt_53 ?_
  obtain rfl := Option.some.inj h
  exact z_iret C dX12_layerAt_54 .int rfl rfl rfl
set_option maxHeartbeats 4000000 in
set_option maxRecDepth 100000 in
theorem l_X12_layerAt_10 {r : Int32} (C : zC p l e R s m args below meth c s0 a0 d cy B0 yX12_layerAt.cls cX12_layerAt 5 (some .int) bc bs bc bs 2 43 []) (k10 : Int64 → Int32 → Int32 → zI → zL → Option Int32) (hk10 : ∀ (v1 : Int64) (v3 : Int32) (v4 : Int32) (I : zI) (L : zL), k10 v1 v3 v4 I L = some r → zG p l e R s m args below meth c d cy B0 5 bc bs (zQ below s args d cy B0 bc bs (.inl (some (.int r))) zSH zKn bc bs I L) 10 [(0, .ref (B0 + 97)), (1, .long v1), (3, .int v3), (4, .int v4)] [] zSH zKn bc bs I L) (v1 : Int64) (v3 : Int32) (v4 : Int32) (I : zI) (L : zL) (h : f_X12_layerAt_10 k10 v1 v3 v4 I L = some r) : zG p l e R s m args below meth c d cy B0 5 bc bs (zQ below s args d cy B0 bc bs (.inl (some (.int r))) zSH zKn bc bs I L) 10 [(0, .ref (B0 + 97)), (1, .long v1), (3, .int v3), (4, .int v4)] [] zSH zKn bc bs I L := by
  unfold f_X12_layerAt_10 at h
  refine z_iload C 3 rfl dX12_layerAt_10 ?_
  refine z_aload_n C rfl 0 rfl dX12_layerAt_12 ?_
  refine z_geti C zc_12 dX12_layerAt_13 50 97 rfl (by decide) (by decide) q_1219 rfl ?_
  refine z_icmp_ge C 53 (by decide) dX12_layerAt_16 (fun hc => ?_) (fun hc => ?_)
  · have h := zif_t hc h
    refine z_lv [2] (lv' := [(3, .int v3)]) rfl ?_
    exact l_X12_layerAt_53 C  v3 I L h
  · have h := zif_f hc h
    refine z_lload_n C rfl 1 rfl dX12_layerAt_19 ?_
    refine z_lconst C (v := 0) (by decide) dX12_layerAt_20 ?_
    refine z_lif_le C 53 (by decide) dX12_layerAt_21 dX12_layerAt_22 (fun hc => ?_) (fun hc => ?_)
    · have h := zif_t hc h
      refine z_lv [2] (lv' := [(3, .int v3)]) rfl ?_
      exact l_X12_layerAt_53 C  v3 I L h
    · have h := zif_f hc h
      refine z_aload_n C rfl 0 rfl dX12_layerAt_25 ?_
      refine z_getr C zc_12 dX12_layerAt_26 16 97 105 rfl (by decide) (by decide) q_1185 rfl rfl ?_
      refine z_bipush C (v := 24) (by decide) dX12_layerAt_29 ?_
      refine z_iload C 3 rfl dX12_layerAt_31 ?_
      refine z_iadd C dX12_layerAt_33 ?_
      obtain ⟨x3, ex3, h⟩ := zlt_e h
      refine z_eqi C ex3 ?_
      obtain ⟨hb4, h⟩ := zck_e h
      refine z_laload C dX12_layerAt_34 rfl rfl (by decide) (zbd_in hb4) ?_
      refine z_lload_n C rfl 1 rfl dX12_layerAt_35 ?_
      refine z_lif_ne C 45 (by decide) dX12_layerAt_36 dX12_layerAt_37 (fun hc => ?_) (fun hc => ?_)
      · have h := zif_f hc h
        refine z_iload_n C rfl 2 rfl dX12_layerAt_45 ?_
        refine z_lv [0, 1, 3] (lv' := [(0, .ref (B0 + 97)), (1, .long v1), (4, .int v4)]) rfl ?_
        exact l_X12_layerAt_46 C k10 hk10 v1 v4 v3 I L h
      · have h := zif_t hc h
        refine z_iload C 3 rfl dX12_layerAt_40 ?_
        refine z_goto C 46 (by decide) dX12_layerAt_42 ?_
        refine z_lv [0, 1, 3] (lv' := [(0, .ref (B0 + 97)), (1, .long v1), (4, .int v4)]) rfl ?_
        exact l_X12_layerAt_46 C k10 hk10 v1 v4 v4 I L h
set_option maxHeartbeats 4000000 in
set_option maxRecDepth 100000 in
theorem L_X12_layerAt_10 {r : Int32} (C : zC p l e R s m args below meth c s0 a0 d cy B0 yX12_layerAt.cls cX12_layerAt 5 (some .int) bc bs bc bs 2 43 []) (v1 : Int64) (v3 : Int32) (v4 : Int32) (I : zI) (L : zL) (h : zlp5 (f_X12_layerAt_10) zF v1 v3 v4 I L = some r) : zG p l e R s m args below meth c d cy B0 5 bc bs (zQ below s args d cy B0 bc bs (.inl (some (.int r))) zSH zKn bc bs I L) 10 [(0, .ref (B0 + 97)), (1, .long v1), (3, .int v3), (4, .int v4)] [] zSH zKn bc bs I L :=
 zlp5_e (fun (v1 : Int64) (v3 : Int32) (v4 : Int32) (I : zI) (L : zL) => zG p l e R s m args below meth c d cy B0 5 bc bs (zQ below s args d cy B0 bc bs (.inl (some (.int r))) zSH zKn bc bs I L) 10 [(0, .ref (B0 + 97)), (1, .long v1), (3, .int v3), (4, .int v4)] [] zSH zKn bc bs I L) (fun k9 hk9 v1 v3 v4 I L h => l_X12_layerAt_10 C k9 hk9 v1 v3 v4 I L h) zF v1 v3 v4 I L h
set_option maxHeartbeats 4000000 in
set_option maxRecDepth 100000 in
theorem c_X12_layerAt {r : Int32} (hE : zE0 l s0 a0 d cy B0) (I : zI) (L : zL) (h : f_X12_layerAt I L = some r) : zM l s0 d cy B0 yX12_layerAt cX12_layerAt 5 (some .int) 2 43 [.ref (B0 + 97)] zSH zKn bc bs I L (.inl (some (.int r))) zSH zKn bc bs I L := by
  refine z_meth yy_X12_layerAt hE (Nat.le_of_ble_eq_true rfl) (fun p e R s m args below meth c C => ?_)
  show zG p l e R s m args below meth c d cy B0 5 bc bs (zQ below s args d cy B0 bc bs (.inl (some (.int r))) zSH zKn bc bs I L) 0 [(0, .ref (B0 + 97))] [] zSH zKn bc bs I L
  unfold f_X12_layerAt at h
  refine z_aload_n C rfl 0 rfl dX12_layerAt_0 ?_
  obtain ⟨x2, hg1, h⟩ := zb1_e h
  refine z_callV C zc_12 rfl (by decide) dX12_layerAt_1 yy_X12_name (c_X12_name C.2.2.2.2.1  I L hg1) q_1391 q_1393 q_46 (by decide) (by decide) rfl rfl (Nat.le_of_ble_eq_true rfl) ⟨Nat.le_refl _, Nat.le_refl _, Nat.le_refl _, Nat.le_refl _⟩ ?_
  refine z_lstore_n C (lv' := [(1, .long x2), (0, .ref (B0 + 97))]) rfl (by decide) rfl dX12_layerAt_4 ?_
  refine z_iconst C (v := -1) (by decide) dX12_layerAt_5 ?_
  refine z_istore_n C (lv' := [(3, .int (-1 : Int32)), (1, .long x2), (0, .ref (B0 + 97))]) rfl (by decide) rfl dX12_layerAt_6 ?_
  refine z_iconst C (v := 0) (by decide) dX12_layerAt_7 ?_
  refine z_istore C (lv' := [(4, .int (0 : Int32)), (3, .int (-1 : Int32)), (1, .long x2), (0, .ref (B0 + 97))]) (by decide) rfl dX12_layerAt_8 ?_
  refine z_lv [3, 2, 1, 0] (lv' := [(0, .ref (B0 + 97)), (1, .long x2), (3, .int (-1 : Int32)), (4, .int (0 : Int32))]) rfl ?_
  exact L_X12_layerAt_10 C  x2 (-1 : Int32) (0 : Int32) I L h
theorem q_48 : Cond.selects "DeviceFindModel" ⟨"DeviceFindModel", "take", "(Z)V"⟩ ⟨"DeviceFindModel", "take", "(Z)V"⟩ ∈ lw_tbl := List.mem_of_getElem? (i := 48) (by decide +kernel)
theorem q_50 : Cond.selects "DeviceFindModel" ⟨"DeviceFindModel", "layerAt", "()I"⟩ ⟨"DeviceFindModel", "layerAt", "()I"⟩ ∈ lw_tbl := List.mem_of_getElem? (i := 50) (by decide +kernel)
theorem q_1404 : (Cond.methodLink "DeviceFindModel" (186 : Nat) ({ cls := "DeviceFindModel", name := "take", desc := "(Z)V" } : Jvm.MethodName)) ∈ lw_tbl := List.mem_of_getElem? (i := 1404) (by decide +kernel)
theorem q_1406 : (Cond.instanceMethod ({ cls := "DeviceFindModel", name := "take", desc := "(Z)V" } : Jvm.MethodName)) ∈ lw_tbl := List.mem_of_getElem? (i := 1406) (by decide +kernel)
theorem q_1412 : (Cond.methodLink "DeviceFindModel" (182 : Nat) ({ cls := "DeviceFindModel", name := "layerAt", desc := "()I" } : Jvm.MethodName)) ∈ lw_tbl := List.mem_of_getElem? (i := 1412) (by decide +kernel)
theorem q_1414 : (Cond.instanceMethod ({ cls := "DeviceFindModel", name := "layerAt", desc := "()I" } : Jvm.MethodName)) ∈ lw_tbl := List.mem_of_getElem? (i := 1414) (by decide +kernel)
theorem q_1427 : (Cond.code ({ cls := "DeviceFindModel", name := "takeLayer", desc := "()I" } : Jvm.MethodName) prog_14_method_20_code (2 : Nat) (Option.some Jvm.ClassFile.FieldType.int)) ∈ lw_tbl := List.mem_of_getElem? (i := 1427) (by decide +kernel)
theorem yy_X12_takeLayer : zY yX12_takeLayer cX12_takeLayer 2 (some .int) 0 := ⟨q_1427, q_88, by decide +kernel, by decide +kernel, by decide +kernel⟩
def f_X12_takeLayer_16 (v1 : Int32) (w1 : Int32) (I : zI) (L : zL) : Option (Int32 × zI) :=
  zb1 (f_X12_take w1 I) (fun I4 => some (v1, I4))
def f_X12_takeLayer (I : zI) (L : zL) : Option (Int32 × zI) :=
  zb1 (f_X12_layerAt I L) (fun x2 => if x2 = (-1 : Int32) then (f_X12_takeLayer_16 x2 (0 : Int32) I L) else (f_X12_takeLayer_16 x2 (1 : Int32) I L))
set_option maxHeartbeats 4000000 in
set_option maxRecDepth 100000 in
theorem l_X12_takeLayer_16 {r : Int32 × zI} (C : zC p l e R s m args below meth c s0 a0 d cy B0 yX12_takeLayer.cls cX12_takeLayer 2 (some .int) bc bs bc bs 3 67 []) (v1 : Int32) (w1 : Int32) (I : zI) (L : zL) (h : f_X12_takeLayer_16 v1 w1 I L = some r) : zG p l e R s m args below meth c d cy B0 2 bc bs (zQ below s args d cy B0 bc bs (.inl (some (.int r.1))) zSH zKn bc bs r.2 L) 16 [(1, .int v1)] [.int w1, .ref (B0 + 97)] zSH zKn bc bs I L := by
  unfold f_X12_takeLayer_16 at h
  obtain ⟨I4, hg3, h⟩ := zb1_e h
  refine z_callV C zc_12 rfl (by decide) dX12_takeLayer_16 yy_X12_take (c_X12_take C.2.2.2.2.1  w1 I L hg3) q_1404 q_1406 q_48 (by decide) (by decide) rfl rfl (Nat.le_of_ble_eq_true rfl) ⟨Nat.le_refl _, Nat.le_refl _, Nat.le_refl _, Nat.le_refl _⟩ ?_
  refine z_iload_n C rfl 0 rfl dX12_takeLayer_19 ?_
  obtain rfl := Option.some.inj h
  exact z_iret C dX12_takeLayer_20 .int rfl rfl rfl
set_option maxHeartbeats 4000000 in
set_option maxRecDepth 100000 in
theorem c_X12_takeLayer {r : Int32 × zI} (hE : zE0 l s0 a0 d cy B0) (I : zI) (L : zL) (h : f_X12_takeLayer I L = some r) : zM l s0 d cy B0 yX12_takeLayer cX12_takeLayer 2 (some .int) 3 67 [.ref (B0 + 97)] zSH zKn bc bs I L (.inl (some (.int r.1))) zSH zKn bc bs r.2 L := by
  refine z_meth yy_X12_takeLayer hE (Nat.le_of_ble_eq_true rfl) (fun p e R s m args below meth c C => ?_)
  show zG p l e R s m args below meth c d cy B0 2 bc bs (zQ below s args d cy B0 bc bs (.inl (some (.int r.1))) zSH zKn bc bs r.2 L) 0 [(0, .ref (B0 + 97))] [] zSH zKn bc bs I L
  unfold f_X12_takeLayer at h
  refine z_aload_n C rfl 0 rfl dX12_takeLayer_0 ?_
  obtain ⟨x2, hg1, h⟩ := zb1_e h
  refine z_callV C zc_12 rfl (by decide) dX12_takeLayer_1 yy_X12_layerAt (c_X12_layerAt C.2.2.2.2.1  I L hg1) q_1412 q_1414 q_50 (by decide) (by decide) rfl rfl (Nat.le_of_ble_eq_true rfl) ⟨Nat.le_refl _, Nat.le_refl _, Nat.le_refl _, Nat.le_refl _⟩ ?_
  refine z_istore_n C (lv' := [(1, .int x2), (0, .ref (B0 + 97))]) rfl (by decide) rfl dX12_takeLayer_4 ?_
  refine z_aload_n C rfl 1 rfl dX12_takeLayer_5 ?_
  refine z_iload_n C rfl 0 rfl dX12_takeLayer_6 ?_
  refine z_iconst C (v := -1) (by decide) dX12_takeLayer_7 ?_
  refine z_icmp_eq C 15 (by decide) dX12_takeLayer_8 (fun hc => ?_) (fun hc => ?_)
  · have h := zif_t hc h
    refine z_iconst C (v := 0) (by decide) dX12_takeLayer_15 ?_
    refine z_lv [0] (lv' := [(1, .int x2)]) rfl ?_
    exact l_X12_takeLayer_16 C  x2 (0 : Int32) I L h
  · have h := zif_f hc h
    refine z_iconst C (v := 1) (by decide) dX12_takeLayer_11 ?_
    refine z_goto C 16 (by decide) dX12_takeLayer_12 ?_
    refine z_lv [0] (lv' := [(1, .int x2)]) rfl ?_
    exact l_X12_takeLayer_16 C  x2 (1 : Int32) I L h
theorem q_1189 : (Cond.fieldLink "DeviceFindModel" (44 : Nat) "DeviceFindModel" "wireOf" "[I") ∈ lw_tbl := List.mem_of_getElem? (i := 1189) (by decide +kernel)
theorem q_1220 : (Cond.fieldLink "DeviceFindModel" (190 : Nat) "DeviceFindModel" "newWires" "I") ∈ lw_tbl := List.mem_of_getElem? (i := 1220) (by decide +kernel)
theorem q_1439 : (Cond.code ({ cls := "DeviceFindModel", name := "takeWire", desc := "()I" } : Jvm.MethodName) prog_14_method_21_code (4 : Nat) (Option.some Jvm.ClassFile.FieldType.int)) ∈ lw_tbl := List.mem_of_getElem? (i := 1439) (by decide +kernel)
theorem yy_X12_takeWire : zY yX12_takeWire cX12_takeWire 4 (some .int) 0 := ⟨q_1439, q_88, by decide +kernel, by decide +kernel, by decide +kernel⟩
def f_X12_takeWire_40 (k9 : Int32 → Int32 → Int32 → zI → zL → Option (Int32 × zI)) (v1 : Int32) (v3 : Int32) (w0 : Int32) (I : zI) (L : zL) : Option (Int32 × zI) :=
  zlt (v3 + 1) (fun x7 => k9 v1 w0 x7 I L)
def f_X12_takeWire_39 (k9 : Int32 → Int32 → Int32 → zI → zL → Option (Int32 × zI)) (v1 : Int32) (v2 : Int32) (v3 : Int32) (I : zI) (L : zL) : Option (Int32 × zI) :=
  f_X12_takeWire_40 k9 v1 v3 v2 I L
def f_X12_takeWire_58 (v2 : Int32) (w1 : Int32) (I : zI) (L : zL) : Option (Int32 × zI) :=
  zb1 (f_X12_take w1 I) (fun I6 => some (v2, I6))
def f_X12_takeWire_9 (k9 : Int32 → Int32 → Int32 → zI → zL → Option (Int32 × zI)) (v1 : Int32) (v2 : Int32) (v3 : Int32) (I : zI) (L : zL) : Option (Int32 × zI) :=
  if (I 97 51) ≤ v3 then (if v2 = (-1 : Int32) then (f_X12_takeWire_58 v2 (0 : Int32) I L) else (f_X12_takeWire_58 v2 (1 : Int32) I L)) else (if v1 = (-1 : Int32) then (f_X12_takeWire_39 k9 v1 v2 v3 I L) else (zlt ((8 : Int32) + v3) (fun x3 => zck (zbd x3 16) (if (I 109 x3.toNatClampNeg) = v1 then (f_X12_takeWire_40 k9 v1 v3 v3 I L) else (f_X12_takeWire_39 k9 v1 v2 v3 I L)))))
def f_X12_takeWire (I : zI) (L : zL) : Option (Int32 × zI) :=
  zb1 (f_X12_layerAt I L) (fun x2 => zlp5 (f_X12_takeWire_9) zF x2 (-1 : Int32) (0 : Int32) I L)
set_option maxHeartbeats 4000000 in
set_option maxRecDepth 100000 in
theorem l_X12_takeWire_40 {r : Int32 × zI} (C : zC p l e R s m args below meth c s0 a0 d cy B0 yX12_takeWire.cls cX12_takeWire 4 (some .int) bc bs bc bs 3 67 []) (k9 : Int32 → Int32 → Int32 → zI → zL → Option (Int32 × zI)) (hk9 : ∀ (v1 : Int32) (v2 : Int32) (v3 : Int32) (I : zI) (L : zL), k9 v1 v2 v3 I L = some r → zG p l e R s m args below meth c d cy B0 4 bc bs (zQ below s args d cy B0 bc bs (.inl (some (.int r.1))) zSH zKn bc bs r.2 L) 9 [(0, .ref (B0 + 97)), (1, .int v1), (2, .int v2), (3, .int v3)] [] zSH zKn bc bs I L) (v1 : Int32) (v3 : Int32) (w0 : Int32) (I : zI) (L : zL) (h : f_X12_takeWire_40 k9 v1 v3 w0 I L = some r) : zG p l e R s m args below meth c d cy B0 4 bc bs (zQ below s args d cy B0 bc bs (.inl (some (.int r.1))) zSH zKn bc bs r.2 L) 40 [(0, .ref (B0 + 97)), (1, .int v1), (3, .int v3)] [.int w0] zSH zKn bc bs I L := by
  unfold f_X12_takeWire_40 at h
  refine z_istore_n C (lv' := [(2, .int w0), (0, .ref (B0 + 97)), (1, .int v1), (3, .int v3)]) rfl (by decide) rfl dX12_takeWire_40 ?_
  obtain ⟨x7, ex7, h⟩ := zlt_e h
  refine z_iinc C (j := 3) (v := x7) (lv' := [(3, .int x7), (2, .int w0), (0, .ref (B0 + 97)), (1, .int v1)]) rfl (by rw [ex7]; rfl) (by decide) rfl dX12_takeWire_41 ?_
  refine z_goto C 9 (by decide) dX12_takeWire_44 ?_
  refine z_lv [2, 3, 1, 0] (lv' := [(0, .ref (B0 + 97)), (1, .int v1), (2, .int w0), (3, .int x7)]) rfl ?_
  exact hk9 v1 w0 x7 I L h
set_option maxHeartbeats 4000000 in
set_option maxRecDepth 100000 in
theorem l_X12_takeWire_39 {r : Int32 × zI} (C : zC p l e R s m args below meth c s0 a0 d cy B0 yX12_takeWire.cls cX12_takeWire 4 (some .int) bc bs bc bs 3 67 []) (k9 : Int32 → Int32 → Int32 → zI → zL → Option (Int32 × zI)) (hk9 : ∀ (v1 : Int32) (v2 : Int32) (v3 : Int32) (I : zI) (L : zL), k9 v1 v2 v3 I L = some r → zG p l e R s m args below meth c d cy B0 4 bc bs (zQ below s args d cy B0 bc bs (.inl (some (.int r.1))) zSH zKn bc bs r.2 L) 9 [(0, .ref (B0 + 97)), (1, .int v1), (2, .int v2), (3, .int v3)] [] zSH zKn bc bs I L) (v1 : Int32) (v2 : Int32) (v3 : Int32) (I : zI) (L : zL) (h : f_X12_takeWire_39 k9 v1 v2 v3 I L = some r) : zG p l e R s m args below meth c d cy B0 4 bc bs (zQ below s args d cy B0 bc bs (.inl (some (.int r.1))) zSH zKn bc bs r.2 L) 39 [(0, .ref (B0 + 97)), (1, .int v1), (2, .int v2), (3, .int v3)] [] zSH zKn bc bs I L := by
  unfold f_X12_takeWire_39 at h
  refine z_iload_n C rfl 2 rfl dX12_takeWire_39 ?_
  refine z_lv [0, 1, 3] (lv' := [(0, .ref (B0 + 97)), (1, .int v1), (3, .int v3)]) rfl ?_
  exact l_X12_takeWire_40 C k9 hk9 v1 v3 v2 I L h
set_option maxHeartbeats 4000000 in
set_option maxRecDepth 100000 in
theorem l_X12_takeWire_58 {r : Int32 × zI} (C : zC p l e R s m args below meth c s0 a0 d cy B0 yX12_takeWire.cls cX12_takeWire 4 (some .int) bc bs bc bs 3 67 []) (v2 : Int32) (w1 : Int32) (I : zI) (L : zL) (h : f_X12_takeWire_58 v2 w1 I L = some r) : zG p l e R s m args below meth c d cy B0 4 bc bs (zQ below s args d cy B0 bc bs (.inl (some (.int r.1))) zSH zKn bc bs r.2 L) 58 [(2, .int v2)] [.int w1, .ref (B0 + 97)] zSH zKn bc bs I L := by
  unfold f_X12_takeWire_58 at h
  obtain ⟨I6, hg5, h⟩ := zb1_e h
  refine z_callV C zc_12 rfl (by decide) dX12_takeWire_58 yy_X12_take (c_X12_take C.2.2.2.2.1  w1 I L hg5) q_1404 q_1406 q_48 (by decide) (by decide) rfl rfl (Nat.le_of_ble_eq_true rfl) ⟨Nat.le_refl _, Nat.le_refl _, Nat.le_refl _, Nat.le_refl _⟩ ?_
  refine z_iload_n C rfl 0 rfl dX12_takeWire_61 ?_
  obtain rfl := Option.some.inj h
  exact z_iret C dX12_takeWire_62 .int rfl rfl rfl
set_option maxHeartbeats 4000000 in
set_option maxRecDepth 100000 in
theorem l_X12_takeWire_9 {r : Int32 × zI} (C : zC p l e R s m args below meth c s0 a0 d cy B0 yX12_takeWire.cls cX12_takeWire 4 (some .int) bc bs bc bs 3 67 []) (k9 : Int32 → Int32 → Int32 → zI → zL → Option (Int32 × zI)) (hk9 : ∀ (v1 : Int32) (v2 : Int32) (v3 : Int32) (I : zI) (L : zL), k9 v1 v2 v3 I L = some r → zG p l e R s m args below meth c d cy B0 4 bc bs (zQ below s args d cy B0 bc bs (.inl (some (.int r.1))) zSH zKn bc bs r.2 L) 9 [(0, .ref (B0 + 97)), (1, .int v1), (2, .int v2), (3, .int v3)] [] zSH zKn bc bs I L) (v1 : Int32) (v2 : Int32) (v3 : Int32) (I : zI) (L : zL) (h : f_X12_takeWire_9 k9 v1 v2 v3 I L = some r) : zG p l e R s m args below meth c d cy B0 4 bc bs (zQ below s args d cy B0 bc bs (.inl (some (.int r.1))) zSH zKn bc bs r.2 L) 9 [(0, .ref (B0 + 97)), (1, .int v1), (2, .int v2), (3, .int v3)] [] zSH zKn bc bs I L := by
  unfold f_X12_takeWire_9 at h
  refine z_iload_n C rfl 3 rfl dX12_takeWire_9 ?_
  refine z_aload_n C rfl 0 rfl dX12_takeWire_10 ?_
  refine z_geti C zc_12 dX12_takeWire_11 51 97 rfl (by decide) (by decide) q_1220 rfl ?_
  refine z_icmp_ge C 47 (by decide) dX12_takeWire_14 (fun hc => ?_) (fun hc => ?_)
  · have h := zif_t hc h
    refine z_aload_n C rfl 0 rfl dX12_takeWire_47 ?_
    refine z_iload_n C rfl 2 rfl dX12_takeWire_48 ?_
    refine z_iconst C (v := -1) (by decide) dX12_takeWire_49 ?_
    refine z_icmp_eq C 57 (by decide) dX12_takeWire_50 (fun hc => ?_) (fun hc => ?_)
    · have h := zif_t hc h
      refine z_iconst C (v := 0) (by decide) dX12_takeWire_57 ?_
      refine z_lv [2] (lv' := [(2, .int v2)]) rfl ?_
      exact l_X12_takeWire_58 C  v2 (0 : Int32) I L h
    · have h := zif_f hc h
      refine z_iconst C (v := 1) (by decide) dX12_takeWire_53 ?_
      refine z_goto C 58 (by decide) dX12_takeWire_54 ?_
      refine z_lv [2] (lv' := [(2, .int v2)]) rfl ?_
      exact l_X12_takeWire_58 C  v2 (1 : Int32) I L h
  · have h := zif_f hc h
    refine z_iload_n C rfl 1 rfl dX12_takeWire_17 ?_
    refine z_iconst C (v := -1) (by decide) dX12_takeWire_18 ?_
    refine z_icmp_eq C 39 (by decide) dX12_takeWire_19 (fun hc => ?_) (fun hc => ?_)
    · have h := zif_t hc h
      exact l_X12_takeWire_39 C k9 hk9 v1 v2 v3 I L h
    · have h := zif_f hc h
      refine z_aload_n C rfl 0 rfl dX12_takeWire_22 ?_
      refine z_getr C zc_12 dX12_takeWire_23 20 97 109 rfl (by decide) (by decide) q_1189 rfl rfl ?_
      refine z_bipush C (v := 8) (by decide) dX12_takeWire_26 ?_
      refine z_iload_n C rfl 3 rfl dX12_takeWire_28 ?_
      refine z_iadd C dX12_takeWire_29 ?_
      obtain ⟨x3, ex3, h⟩ := zlt_e h
      refine z_eqi C ex3 ?_
      obtain ⟨hb4, h⟩ := zck_e h
      refine z_iaload C dX12_takeWire_30 rfl rfl (by decide) (zbd_in hb4) ?_
      refine z_iload_n C rfl 1 rfl dX12_takeWire_31 ?_
      refine z_icmp_ne C 39 (by decide) dX12_takeWire_32 (fun hc => ?_) (fun hc => ?_)
      · have h := zif_f hc h
        exact l_X12_takeWire_39 C k9 hk9 v1 v2 v3 I L h
      · have h := zif_t hc h
        refine z_iload_n C rfl 3 rfl dX12_takeWire_35 ?_
        refine z_goto C 40 (by decide) dX12_takeWire_36 ?_
        refine z_lv [0, 1, 3] (lv' := [(0, .ref (B0 + 97)), (1, .int v1), (3, .int v3)]) rfl ?_
        exact l_X12_takeWire_40 C k9 hk9 v1 v3 v3 I L h
set_option maxHeartbeats 4000000 in
set_option maxRecDepth 100000 in
theorem L_X12_takeWire_9 {r : Int32 × zI} (C : zC p l e R s m args below meth c s0 a0 d cy B0 yX12_takeWire.cls cX12_takeWire 4 (some .int) bc bs bc bs 3 67 []) (v1 : Int32) (v2 : Int32) (v3 : Int32) (I : zI) (L : zL) (h : zlp5 (f_X12_takeWire_9) zF v1 v2 v3 I L = some r) : zG p l e R s m args below meth c d cy B0 4 bc bs (zQ below s args d cy B0 bc bs (.inl (some (.int r.1))) zSH zKn bc bs r.2 L) 9 [(0, .ref (B0 + 97)), (1, .int v1), (2, .int v2), (3, .int v3)] [] zSH zKn bc bs I L :=
 zlp5_e (fun (v1 : Int32) (v2 : Int32) (v3 : Int32) (I : zI) (L : zL) => zG p l e R s m args below meth c d cy B0 4 bc bs (zQ below s args d cy B0 bc bs (.inl (some (.int r.1))) zSH zKn bc bs r.2 L) 9 [(0, .ref (B0 + 97)), (1, .int v1), (2, .int v2), (3, .int v3)] [] zSH zKn bc bs I L) (fun k9 hk9 v1 v2 v3 I L h => l_X12_takeWire_9 C k9 hk9 v1 v2 v3 I L h) zF v1 v2 v3 I L h
set_option maxHeartbeats 4000000 in
set_option maxRecDepth 100000 in
theorem c_X12_takeWire {r : Int32 × zI} (hE : zE0 l s0 a0 d cy B0) (I : zI) (L : zL) (h : f_X12_takeWire I L = some r) : zM l s0 d cy B0 yX12_takeWire cX12_takeWire 4 (some .int) 3 67 [.ref (B0 + 97)] zSH zKn bc bs I L (.inl (some (.int r.1))) zSH zKn bc bs r.2 L := by
  refine z_meth yy_X12_takeWire hE (Nat.le_of_ble_eq_true rfl) (fun p e R s m args below meth c C => ?_)
  show zG p l e R s m args below meth c d cy B0 4 bc bs (zQ below s args d cy B0 bc bs (.inl (some (.int r.1))) zSH zKn bc bs r.2 L) 0 [(0, .ref (B0 + 97))] [] zSH zKn bc bs I L
  unfold f_X12_takeWire at h
  refine z_aload_n C rfl 0 rfl dX12_takeWire_0 ?_
  obtain ⟨x2, hg1, h⟩ := zb1_e h
  refine z_callV C zc_12 rfl (by decide) dX12_takeWire_1 yy_X12_layerAt (c_X12_layerAt C.2.2.2.2.1  I L hg1) q_1412 q_1414 q_50 (by decide) (by decide) rfl rfl (Nat.le_of_ble_eq_true rfl) ⟨Nat.le_refl _, Nat.le_refl _, Nat.le_refl _, Nat.le_refl _⟩ ?_
  refine z_istore_n C (lv' := [(1, .int x2), (0, .ref (B0 + 97))]) rfl (by decide) rfl dX12_takeWire_4 ?_
  refine z_iconst C (v := -1) (by decide) dX12_takeWire_5 ?_
  refine z_istore_n C (lv' := [(2, .int (-1 : Int32)), (1, .int x2), (0, .ref (B0 + 97))]) rfl (by decide) rfl dX12_takeWire_6 ?_
  refine z_iconst C (v := 0) (by decide) dX12_takeWire_7 ?_
  refine z_istore_n C (lv' := [(3, .int (0 : Int32)), (2, .int (-1 : Int32)), (1, .int x2), (0, .ref (B0 + 97))]) rfl (by decide) rfl dX12_takeWire_8 ?_
  refine z_lv [3, 2, 1, 0] (lv' := [(0, .ref (B0 + 97)), (1, .int x2), (2, .int (-1 : Int32)), (3, .int (0 : Int32))]) rfl ?_
  exact L_X12_takeWire_9 C  x2 (-1 : Int32) (0 : Int32) I L h
end Zp05_10_walk
