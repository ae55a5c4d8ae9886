section Zp05_22_walk
variable {p : Program} {l : Launch} {e : Env} {R : Room} {s : State} {m : MethodId} {args : Array Value} {below : List Frame} {meth : Method} {c : Code} {s0 : State} {a0 : Array Value} {d : va_G} {cy : Nat → ClassId} {B0 : Nat} {bc bs : Nat}
theorem q_73 : Cond.selects "DeviceFindModel" ⟨"DeviceFindModel", "nameOf", "(IZ)I"⟩ ⟨"DeviceFindModel", "nameOf", "(IZ)I"⟩ ∈ lw_tbl := List.mem_of_getElem? (i := 73) (by decide +kernel)
theorem q_1532 : (Cond.code ({ cls := "DeviceFindModel", name := "named", desc := "(I)I" } : Jvm.MethodName) prog_14_method_50_code (2 : Nat) (Option.some Jvm.ClassFile.FieldType.int)) ∈ lw_tbl := List.mem_of_getElem? (i := 1532) (by decide +kernel)
theorem q_1533 : (Cond.methodLink "DeviceFindModel" (312 : Nat) ({ cls := "DeviceFindModel", name := "nameOf", desc := "(IZ)I" } : Jvm.MethodName)) ∈ lw_tbl := List.mem_of_getElem? (i := 1533) (by decide +kernel)
theorem q_1535 : (Cond.instanceMethod ({ cls := "DeviceFindModel", name := "nameOf", desc := "(IZ)I" } : Jvm.MethodName)) ∈ lw_tbl := List.mem_of_getElem? (i := 1535) (by decide +kernel)
theorem yy_X12_named : zY yX12_named cX12_named 2 (some .int) 1 := ⟨q_1532, q_88, by decide +kernel, by decide +kernel, by decide +kernel⟩
noncomputable def f_X12_named_49 (w0 : Int32) (I : zI) : Option (Int32 × zI) :=
  some (w0, I)
noncomputable def f_X12_named_29 (v1 : Int32) (w1 : Int32) (I : zI) : Option (Int32 × zI) :=
  zlt (zu I 97 0 w1) (fun I1 => if (I1 97 0) ≤ 0 then (zb1 (f_X12_nameOf v1 (0 : Int32) I1) (fun x3 => f_X12_named_49 x3 I1)) else (f_X12_named_49 (0 : Int32) I1))
noncomputable def f_X12_named_24 (v1 : Int32) (I : zI) : Option (Int32 × zI) :=
  f_X12_named_29 v1 (2 : Int32) I
noncomputable def f_X12_named (a1 : Int32) (I : zI) : Option (Int32 × zI) :=
  if (I 97 30) = 0 then (f_X12_named_29 a1 (1 : Int32) I) else (if a1 < 0 then (f_X12_named_24 a1 I) else (if a1 < (I 97 38) then (f_X12_named_29 a1 (0 : Int32) I) else (f_X12_named_24 a1 I)))
set_option maxHeartbeats 4000000 in
set_option maxRecDepth 100000 in
theorem l_X12_named_49 {r : Int32 × zI} (C : zC p l e R s m args below meth c s0 a0 d cy B0 yX12_named.cls cX12_named 2 (some .int) bc bs bc bs 2 49 []) (L : zL) (w0 : Int32) (I : zI) (h : f_X12_named_49 w0 I = some r) : zG p l e R s m args below meth c d cy B0 2 bc bs (zQ below s args d cy B0 bc bs (.inl (some (.int r.1))) zSH zKn bc bs r.2 L) 49 [] [.int w0] zSH zKn bc bs I L := by
  unfold f_X12_named_49 at h
  obtain rfl := Option.some.inj h
  exact z_iret C dX12_named_49 .int rfl rfl rfl
set_option maxHeartbeats 4000000 in
set_option maxRecDepth 100000 in
theorem l_X12_named_29 {r : Int32 × zI} (C : zC p l e R s m args below meth c s0 a0 d cy B0 yX12_named.cls cX12_named 2 (some .int) bc bs bc bs 2 49 []) (L : zL) (v1 : Int32) (w1 : Int32) (I : zI) (h : f_X12_named_29 v1 w1 I = some r) : zG p l e R s m args below meth c d cy B0 2 bc bs (zQ below s args d cy B0 bc bs (.inl (some (.int r.1))) zSH zKn bc bs r.2 L) 29 [(0, .ref (B0 + 97)), (1, .int v1)] [.int w1, .ref (B0 + 97)] zSH zKn bc bs I L := by
  unfold f_X12_named_29 at h
  refine z_puti C zc_12 dX12_named_29 0 97 rfl (by decide) (by decide) rfl q_1169 rfl rfl rfl ?_
  obtain ⟨I1, eI1, h⟩ := zlt_e h
  refine z_eqI C eI1 ?_
  refine z_aload_n C rfl 0 rfl dX12_named_32 ?_
  refine z_geti C zc_12 dX12_named_33 0 97 rfl (by decide) (by decide) q_1169 rfl ?_
  refine z_if_le C 43 (by decide) dX12_named_36 (fun hc => ?_) (fun hc => ?_)
  · have h := zif_t hc h
    refine z_aload_n C rfl 0 rfl dX12_named_43 ?_
    refine z_iload_n C rfl 1 rfl dX12_named_44 ?_
    refine z_iconst C (v := 0) (by decide) dX12_named_45 ?_
    obtain ⟨x3, hg2, h⟩ := zb1_e h
    refine z_callV C zc_12 rfl (by decide) dX12_named_46 yy_X12_nameOf (c_X12_nameOf C.2.2.2.2.1  v1 (0 : Int32) I1 L hg2) q_1533 q_1535 q_73 (by decide) (by decide) rfl rfl (Nat.le_of_ble_eq_true rfl) ⟨Nat.le_refl _, Nat.le_refl _, Nat.le_refl _, Nat.le_refl _⟩ ?_
    refine z_lv [] (lv' := []) rfl ?_
    exact l_X12_named_49 C L x3 I1 h
  · have h := zif_f hc h
    refine z_iconst C (v := 0) (by decide) dX12_named_39 ?_
    refine z_goto C 49 (by decide) dX12_named_40 ?_
    refine z_lv [] (lv' := []) rfl ?_
    exact l_X12_named_49 C L (0 : Int32) I1 h
set_option maxHeartbeats 4000000 in
set_option maxRecDepth 100000 in
theorem l_X12_named_24 {r : Int32 × zI} (C : zC p l e R s m args below meth c s0 a0 d cy B0 yX12_named.cls cX12_named 2 (some .int) bc bs bc bs 2 49 []) (L : zL) (v1 : Int32) (I : zI) (h : f_X12_named_24 v1 I = some r) : zG p l e R s m args below meth c d cy B0 2 bc bs (zQ below s args d cy B0 bc bs (.inl (some (.int r.1))) zSH zKn bc bs r.2 L) 24 [(0, .ref (B0 + 97)), (1, .int v1)] [.ref (B0 + 97)] zSH zKn bc bs I L := by
  unfold f_X12_named_24 at h
  refine z_iconst C (v := 2) (by decide) dX12_named_24 ?_
  refine z_goto C 29 (by decide) dX12_named_25 ?_
  exact l_X12_named_29 C L v1 (2 : Int32) I h
set_option maxHeartbeats 4000000 in
set_option maxRecDepth 100000 in
theorem c_X12_named {r : Int32 × zI} (hE : zE0 l s0 a0 d cy B0) (a1 : Int32) (I : zI) (L : zL) (h : f_X12_named a1 I = some r) : zM l s0 d cy B0 yX12_named cX12_named 2 (some .int) 2 49 [.ref (B0 + 97), .int a1] zSH zKn bc bs I L (.inl (some (.int r.1))) zSH zKn bc bs r.2 L := by
  refine z_meth yy_X12_named hE (Nat.le_of_ble_eq_true rfl) (fun p e R s m args below meth c C => ?_)
  show zG p l e R s m args below meth c d cy B0 2 bc bs (zQ below s args d cy B0 bc bs (.inl (some (.int r.1))) zSH zKn bc bs r.2 L) 0 [(0, .ref (B0 + 97)), (1, .int a1)] [] zSH zKn bc bs I L
  unfold f_X12_named at h
  refine z_aload_n C rfl 0 rfl dX12_named_0 ?_
  refine z_aload_n C rfl 0 rfl dX12_named_1 ?_
  refine z_geti C zc_12 dX12_named_2 30 97 rfl (by decide) (by decide) q_1199 rfl ?_
  refine z_if_ne C 12 (by decide) dX12_named_5 (fun hc => ?_) (fun hc => ?_)
  · have h := zif_f hc h
    refine z_iload_n C rfl 1 rfl dX12_named_12 ?_
    refine z_if_lt C 24 (by decide) dX12_named_13 (fun hc => ?_) (fun hc => ?_)
    · have h := zif_t hc h
      exact l_X12_named_24 C L a1 I h
    · have h := zif_f hc h
      refine z_iload_n C rfl 1 rfl dX12_named_16 ?_
      refine z_aload_n C rfl 0 rfl dX12_named_17 ?_
      refine z_geti C zc_12 dX12_named_18 38 97 rfl (by decide) (by decide) q_1207 rfl ?_
      refine z_icmp_lt C 28 (by decide) dX12_named_21 (fun hc => ?_) (fun hc => ?_)
      · have h := zif_t hc h
        refine z_iconst C (v := 0) (by decide) dX12_named_28 ?_
        exact l_X12_named_29 C L a1 (0 : Int32) I h
      · have h := zif_f hc h
        exact l_X12_named_24 C L a1 I h
  · have h := zif_t hc h
    refine z_iconst C (v := 1) (by decide) dX12_named_8 ?_
    refine z_goto C 29 (by decide) dX12_named_9 ?_
    exact l_X12_named_29 C L a1 (1 : Int32) I h
theorem q_1540 : (Cond.code ({ cls := "DeviceFindModel", name := "twice", desc := "(I)I" } : Jvm.MethodName) prog_14_method_51_code (4 : Nat) (Option.some Jvm.ClassFile.FieldType.int)) ∈ lw_tbl := List.mem_of_getElem? (i := 1540) (by decide +kernel)
theorem yy_X12_twice : zY yX12_twice cX12_twice 4 (some .int) 1 := ⟨q_1540, q_88, by decide +kernel, by decide +kernel, by decide +kernel⟩
noncomputable def f_X12_twice_67 (k28 : Int32 → Int32 → zI → Option (Int32 × zI)) (v2 : Int32) (v3 : Int32) (I : zI) : Option (Int32 × zI) :=
  zlt (v3 + 1) (fun x7 => k28 v2 x7 I)
noncomputable def f_X12_twice_85 (w0 : Int32) (I : zI) : Option (Int32 × zI) :=
  some (w0, I)
noncomputable def f_X12_twice_73 (I : zI) : Option (Int32 × zI) :=
  if (I 97 0) ≤ 0 then (f_X12_twice_85 (-1 : Int32) I) else (f_X12_twice_85 (0 : Int32) I)
noncomputable def f_X12_twice_28 (k28 : Int32 → Int32 → zI → Option (Int32 × zI)) (v2 : Int32) (v3 : Int32) (I : zI) : Option (Int32 × zI) :=
  if (I 97 38) ≤ v3 then (f_X12_twice_73 I) else (if (I 97 0) = 0 then (zb1 (f_X12_nameOf v3 (0 : Int32) I) (fun x3 => zb1 (f_X12_nameOf v3 (1 : Int32) I) (fun x5 => if x3 = x5 then (f_X12_twice_67 k28 v2 v3 I) else (if v2 = 0 then (some (v3, I)) else (zlt (v2 + (-1)) (fun x6 => f_X12_twice_67 k28 x6 v3 I)))))) else (f_X12_twice_73 I))
noncomputable def f_X12_twice_21 (v1 : Int32) (w1 : Int32) (I : zI) : Option (Int32 × zI) :=
  zlt (zu I 97 0 w1) (fun I1 => zlp3 (f_X12_twice_28) zF v1 (0 : Int32) I1)
noncomputable def f_X12_twice (a1 : Int32) (I : zI) : Option (Int32 × zI) :=
  if 0 ≤ a1 then (if (I 97 30) = 0 then (f_X12_twice_21 a1 (2 : Int32) I) else (f_X12_twice_21 a1 (0 : Int32) I)) else (f_X12_twice_21 a1 (1 : Int32) I)
set_option maxHeartbeats 4000000 in
set_option maxRecDepth 100000 in
theorem l_X12_twice_67 {r : Int32 × zI} (C : zC p l e R s m args below meth c s0 a0 d cy B0 yX12_twice.cls cX12_twice 4 (some .int) bc bs bc bs 2 49 []) (L : zL) (k28 : Int32 → Int32 → zI → Option (Int32 × zI)) (hk28 : ∀ (v2 : Int32) (v3 : Int32) (I : zI), k28 v2 v3 I = some r → zG p l e R s m args below meth c d cy B0 4 bc bs (zQ below s args d cy B0 bc bs (.inl (some (.int r.1))) zSH zKn bc bs r.2 L) 28 [(0, .ref (B0 + 97)), (2, .int v2), (3, .int v3)] [] zSH zKn bc bs I L) (v2 : Int32) (v3 : Int32) (I : zI) (h : f_X12_twice_67 k28 v2 v3 I = some r) : zG p l e R s m args below meth c d cy B0 4 bc bs (zQ below s args d cy B0 bc bs (.inl (some (.int r.1))) zSH zKn bc bs r.2 L) 67 [(0, .ref (B0 + 97)), (2, .int v2), (3, .int v3)] [] zSH zKn bc bs I L := by
  unfold f_X12_twice_67 at h
  obtain ⟨x7, ex7, h⟩ := zlt_e h
  refine z_iinc C (j := 2) (v := x7) (lv' := [(3, .int x7), (0, .ref (B0 + 97)), (2, .int v2)]) rfl (by rw [ex7]; rfl) (by decide) rfl dX12_twice_67 ?_
  refine z_goto C 28 (by decide) dX12_twice_70 ?_
  refine z_lv [1, 2, 0] (lv' := [(0, .ref (B0 + 97)), (2, .int v2), (3, .int x7)]) rfl ?_
  exact hk28 v2 x7 I h
set_option maxHeartbeats 4000000 in
set_option maxRecDepth 100000 in
theorem l_X12_twice_85 {r : Int32 × zI} (C : zC p l e R s m args below meth c s0 a0 d cy B0 yX12_twice.cls cX12_twice 4 (some .int) bc bs bc bs 2 49 []) (L : zL) (w0 : Int32) (I : zI) (h : f_X12_twice_85 w0 I = some r) : zG p l e R s m args below meth c d cy B0 4 bc bs (zQ below s args d cy B0 bc bs (.inl (some (.int r.1))) zSH zKn bc bs r.2 L) 85 [] [.int w0] zSH zKn bc bs I L := by
  unfold f_X12_twice_85 at h
  obtain rfl := Option.some.inj h
  exact z_iret C dX12_twice_85 .int rfl rfl rfl
set_option maxHeartbeats 4000000 in
set_option maxRecDepth 100000 in
theorem l_X12_twice_73 {r : Int32 × zI} (C : zC p l e R s m args below meth c s0 a0 d cy B0 yX12_twice.cls cX12_twice 4 (some .int) bc bs bc bs 2 49 []) (L : zL) (I : zI) (h : f_X12_twice_73 I = some r) : zG p l e R s m args below meth c d cy B0 4 bc bs (zQ below s args d cy B0 bc bs (.inl (some (.int r.1))) zSH zKn bc bs r.2 L) 73 [(0, .ref (B0 + 97))] [] zSH zKn bc bs I L := by
  unfold f_X12_twice_73 at h
  refine z_aload_n C rfl 0 rfl dX12_twice_73 ?_
  refine z_geti C zc_12 dX12_twice_74 0 97 rfl (by decide) (by decide) q_1169 rfl ?_
  refine z_if_le C 84 (by decide) dX12_twice_77 (fun hc => ?_) (fun hc => ?_)
  · have h := zif_t hc h
    refine z_iconst C (v := -1) (by decide) dX12_twice_84 ?_
    refine z_lv [] (lv' := []) rfl ?_
    exact l_X12_twice_85 C L (-1 : Int32) I h
  · have h := zif_f hc h
    refine z_iconst C (v := 0) (by decide) dX12_twice_80 ?_
    refine z_goto C 85 (by decide) dX12_twice_81 ?_
    refine z_lv [] (lv' := []) rfl ?_
    exact l_X12_twice_85 C L (0 : Int32) I h
set_option maxHeartbeats 4000000 in
set_option maxRecDepth 100000 in
theorem l_X12_twice_28 {r : Int32 × zI} (C : zC p l e R s m args below meth c s0 a0 d cy B0 yX12_twice.cls cX12_twice 4 (some .int) bc bs bc bs 2 49 []) (L : zL) (k28 : Int32 → Int32 → zI → Option (Int32 × zI)) (hk28 : ∀ (v2 : Int32) (v3 : Int32) (I : zI), k28 v2 v3 I = some r → zG p l e R s m args below meth c d cy B0 4 bc bs (zQ below s args d cy B0 bc bs (.inl (some (.int r.1))) zSH zKn bc bs r.2 L) 28 [(0, .ref (B0 + 97)), (2, .int v2), (3, .int v3)] [] zSH zKn bc bs I L) (v2 : Int32) (v3 : Int32) (I : zI) (h : f_X12_twice_28 k28 v2 v3 I = some r) : zG p l e R s m args below meth c d cy B0 4 bc bs (zQ below s args d cy B0 bc bs (.inl (some (.int r.1))) zSH zKn bc bs r.2 L) 28 [(0, .ref (B0 + 97)), (2, .int v2), (3, .int v3)] [] zSH zKn bc bs I L := by
  unfold f_X12_twice_28 at h
  refine z_iload_n C rfl 2 rfl dX12_twice_28 ?_
  refine z_aload_n C rfl 0 rfl dX12_twice_29 ?_
  refine z_geti C zc_12 dX12_twice_30 38 97 rfl (by decide) (by decide) q_1207 rfl ?_
  refine z_icmp_ge C 73 (by decide) dX12_twice_33 (fun hc => ?_) (fun hc => ?_)
  · have h := zif_t hc h
    refine z_lv [0] (lv' := [(0, .ref (B0 + 97))]) rfl ?_
    exact l_X12_twice_73 C L I h
  · have h := zif_f hc h
    refine z_aload_n C rfl 0 rfl dX12_twice_36 ?_
    refine z_geti C zc_12 dX12_twice_37 0 97 rfl (by decide) (by decide) q_1169 rfl ?_
    refine z_if_ne C 73 (by decide) dX12_twice_40 (fun hc => ?_) (fun hc => ?_)
    · have h := zif_f hc h
      refine z_lv [0] (lv' := [(0, .ref (B0 + 97))]) rfl ?_
      exact l_X12_twice_73 C L I h
    · have h := zif_t hc h
      refine z_aload_n C rfl 0 rfl dX12_twice_43 ?_
      refine z_iload_n C rfl 2 rfl dX12_twice_44 ?_
      refine z_iconst C (v := 0) (by decide) dX12_twice_45 ?_
      obtain ⟨x3, hg2, h⟩ := zb1_e h
      refine z_callV C zc_12 rfl (by decide) dX12_twice_46 yy_X12_nameOf (c_X12_nameOf C.2.2.2.2.1  v3 (0 : Int32) I L hg2) q_1533 q_1535 q_73 (by decide) (by decide) rfl rfl (Nat.le_of_ble_eq_true rfl) ⟨Nat.le_refl _, Nat.le_refl _, Nat.le_refl _, Nat.le_refl _⟩ ?_
      refine z_aload_n C rfl 0 rfl dX12_twice_49 ?_
      refine z_iload_n C rfl 2 rfl dX12_twice_50 ?_
      refine z_iconst C (v := 1) (by decide) dX12_twice_51 ?_
      obtain ⟨x5, hg4, h⟩ := zb1_e h
      refine z_callV C zc_12 rfl (by decide) dX12_twice_52 yy_X12_nameOf (c_X12_nameOf C.2.2.2.2.1  v3 (1 : Int32) I L hg4) q_1533 q_1535 q_73 (by decide) (by decide) rfl rfl (Nat.le_of_ble_eq_true rfl) ⟨Nat.le_refl _, Nat.le_refl _, Nat.le_refl _, Nat.le_refl _⟩ ?_
      refine z_icmp_eq C 67 (by decide) dX12_twice_55 (fun hc => ?_) (fun hc => ?_)
      · have h := zif_t hc h
        exact l_X12_twice_67 C L k28 hk28 v2 v3 I h
      · have h := zif_f hc h
        refine z_iload_n C rfl 1 rfl dX12_twice_58 ?_
        refine z_if_ne C 64 (by decide) dX12_twice_59 (fun hc => ?_) (fun hc => ?_)
        · have h := zif_f hc h
          obtain ⟨x6, ex6, h⟩ := zlt_e h
          refine z_iinc C (j := 1) (v := x6) (lv' := [(2, .int x6), (0, .ref (B0 + 97)), (3, .int v3)]) rfl (by rw [ex6]; rfl) (by decide) rfl dX12_twice_64 ?_
          refine z_lv [1, 0, 2] (lv' := [(0, .ref (B0 + 97)), (2, .int x6), (3, .int v3)]) rfl ?_
          exact l_X12_twice_67 C L k28 hk28 x6 v3 I h
        · have h := zif_t hc h
          refine z_iload_n C rfl 2 rfl dX12_twice_62 ?_
          obtain rfl := Option.some.inj h
          exact z_iret C dX12_twice_63 .int rfl rfl rfl
set_option maxHeartbeats 4000000 in
set_option maxRecDepth 100000 in
theorem L_X12_twice_28 {r : Int32 × zI} (C : zC p l e R s m args below meth c s0 a0 d cy B0 yX12_twice.cls cX12_twice 4 (some .int) bc bs bc bs 2 49 []) (L : zL) (v2 : Int32) (v3 : Int32) (I : zI) (h : zlp3 (f_X12_twice_28) zF v2 v3 I = some r) : zG p l e R s m args below meth c d cy B0 4 bc bs (zQ below s args d cy B0 bc bs (.inl (some (.int r.1))) zSH zKn bc bs r.2 L) 28 [(0, .ref (B0 + 97)), (2, .int v2), (3, .int v3)] [] zSH zKn bc bs I L :=
 zlp3_e (fun (v2 : Int32) (v3 : Int32) (I : zI) => zG p l e R s m args below meth c d cy B0 4 bc bs (zQ below s args d cy B0 bc bs (.inl (some (.int r.1))) zSH zKn bc bs r.2 L) 28 [(0, .ref (B0 + 97)), (2, .int v2), (3, .int v3)] [] zSH zKn bc bs I L) (fun k9 hk9 v2 v3 I h => l_X12_twice_28 C L k9 hk9 v2 v3 I h) zF v2 v3 I h
set_option maxHeartbeats 4000000 in
set_option maxRecDepth 100000 in
theorem l_X12_twice_21 {r : Int32 × zI} (C : zC p l e R s m args below meth c s0 a0 d cy B0 yX12_twice.cls cX12_twice 4 (some .int) bc bs bc bs 2 49 []) (L : zL) (v1 : Int32) (w1 : Int32) (I : zI) (h : f_X12_twice_21 v1 w1 I = some r) : zG p l e R s m args below meth c d cy B0 4 bc bs (zQ below s args d cy B0 bc bs (.inl (some (.int r.1))) zSH zKn bc bs r.2 L) 21 [(0, .ref (B0 + 97)), (1, .int v1)] [.int w1, .ref (B0 + 97)] zSH zKn bc bs I L := by
  unfold f_X12_twice_21 at h
  refine z_puti C zc_12 dX12_twice_21 0 97 rfl (by decide) (by decide) rfl q_1169 rfl rfl rfl ?_
  obtain ⟨I1, eI1, h⟩ := zlt_e h
  refine z_eqI C eI1 ?_
  refine z_iload_n C rfl 1 rfl dX12_twice_24 ?_
  refine z_istore_n C (lv' := [(2, .int v1), (0, .ref (B0 + 97)), (1, .int v1)]) rfl (by decide) rfl dX12_twice_25 ?_
  refine z_iconst C (v := 0) (by decide) dX12_twice_26 ?_
  refine z_istore_n C (lv' := [(3, .int (0 : Int32)), (2, .int v1), (0, .ref (B0 + 97)), (1, .int v1)]) rfl (by decide) rfl dX12_twice_27 ?_
  refine z_lv [2, 1, 0] (lv' := [(0, .ref (B0 + 97)), (2, .int v1), (3, .int (0 : Int32))]) rfl ?_
  exact L_X12_twice_28 C L v1 (0 : Int32) I1 h
set_option maxHeartbeats 4000000 in
set_option maxRecDepth 100000 in
theorem c_X12_twice {r : Int32 × zI} (hE : zE0 l s0 a0 d cy B0) (a1 : Int32) (I : zI) (L : zL) (h : f_X12_twice a1 I = some r) : zM l s0 d cy B0 yX12_twice cX12_twice 4 (some .int) 2 49 [.ref (B0 + 97), .int a1] zSH zKn bc bs I L (.inl (some (.int r.1))) zSH zKn bc bs r.2 L := by
  refine z_meth yy_X12_twice hE (Nat.le_of_ble_eq_true rfl) (fun p e R s m args below meth c C => ?_)
  show zG p l e R s m args below meth c d cy B0 4 bc bs (zQ below s args d cy B0 bc bs (.inl (some (.int r.1))) zSH zKn bc bs r.2 L) 0 [(0, .ref (B0 + 97)), (1, .int a1)] [] zSH zKn bc bs I L
  unfold f_X12_twice at h
  refine z_aload_n C rfl 0 rfl dX12_twice_0 ?_
  refine z_iload_n C rfl 1 rfl dX12_twice_1 ?_
  refine z_if_ge C 9 (by decide) dX12_twice_2 (fun hc => ?_) (fun hc => ?_)
  · have h := zif_t hc h
    refine z_aload_n C rfl 0 rfl dX12_twice_9 ?_
    refine z_geti C zc_12 dX12_twice_10 30 97 rfl (by decide) (by decide) q_1199 rfl ?_
    refine z_if_ne C 20 (by decide) dX12_twice_13 (fun hc => ?_) (fun hc => ?_)
    · have h := zif_f hc h
      refine z_iconst C (v := 0) (by decide) dX12_twice_20 ?_
      exact l_X12_twice_21 C L a1 (0 : Int32) I h
    · have h := zif_t hc h
      refine z_iconst C (v := 2) (by decide) dX12_twice_16 ?_
      refine z_goto C 21 (by decide) dX12_twice_17 ?_
      exact l_X12_twice_21 C L a1 (2 : Int32) I h
  · have h := zif_f hc h
    refine z_iconst C (v := 1) (by decide) dX12_twice_5 ?_
    refine z_goto C 21 (by decide) dX12_twice_6 ?_
    exact l_X12_twice_21 C L a1 (1 : Int32) I h
theorem q_1544 : (Cond.code ({ cls := "DeviceFindModel", name := "bad", desc := "(I)I" } : Jvm.MethodName) prog_14_method_52_code (4 : Nat) (Option.some Jvm.ClassFile.FieldType.int)) ∈ lw_tbl := List.mem_of_getElem? (i := 1544) (by decide +kernel)
theorem yy_X12_bad : zY yX12_bad cX12_bad 4 (some .int) 1 := ⟨q_1544, q_88, by decide +kernel, by decide +kernel, by decide +kernel⟩
noncomputable def f_X12_bad_61 (k28 : Int32 → Int32 → zI → Option (Int32 × zI)) (v2 : Int32) (v3 : Int32) (I : zI) : Option (Int32 × zI) :=
  zlt (v3 + 1) (fun x4 => k28 v2 x4 I)
noncomputable def f_X12_bad_79 (w0 : Int32) (I : zI) : Option (Int32 × zI) :=
  some (w0, I)
noncomputable def f_X12_bad_67 (I : zI) : Option (Int32 × zI) :=
  if (I 97 0) ≤ 0 then (f_X12_bad_79 (-1 : Int32) I) else (f_X12_bad_79 (0 : Int32) I)
noncomputable def f_X12_bad_28 (k28 : Int32 → Int32 → zI → Option (Int32 × zI)) (v2 : Int32) (v3 : Int32) (I : zI) : Option (Int32 × zI) :=
  if (I 97 39) ≤ v3 then (f_X12_bad_67 I) else (if (I 97 0) = 0 then (zck (zbd v3 300) (if (I 127 v3.toNatClampNeg) = 0 then (f_X12_bad_61 k28 v2 v3 I) else (if v2 = 0 then (some (v3, I)) else (zlt (v2 + (-1)) (fun x3 => f_X12_bad_61 k28 x3 v3 I))))) else (f_X12_bad_67 I))
noncomputable def f_X12_bad_21 (v1 : Int32) (w1 : Int32) (I : zI) : Option (Int32 × zI) :=
  zlt (zu I 97 0 w1) (fun I1 => zlp3 (f_X12_bad_28) zF v1 (0 : Int32) I1)
noncomputable def f_X12_bad (a1 : Int32) (I : zI) : Option (Int32 × zI) :=
  if 0 ≤ a1 then (if (I 97 30) = 0 then (f_X12_bad_21 a1 (2 : Int32) I) else (f_X12_bad_21 a1 (0 : Int32) I)) else (f_X12_bad_21 a1 (1 : Int32) I)
set_option maxHeartbeats 4000000 in
set_option maxRecDepth 100000 in
theorem l_X12_bad_61 {r : Int32 × zI} (C : zC p l e R s m args below meth c s0 a0 d cy B0 yX12_bad.cls cX12_bad 4 (some .int) bc bs bc bs 0 0 []) (L : zL) (k28 : Int32 → Int32 → zI → Option (Int32 × zI)) (hk28 : ∀ (v2 : Int32) (v3 : Int32) (I : zI), k28 v2 v3 I = some r → zG p l e R s m args below meth c d cy B0 4 bc bs (zQ below s args d cy B0 bc bs (.inl (some (.int r.1))) zSH zKn bc bs r.2 L) 28 [(0, .ref (B0 + 97)), (2, .int v2), (3, .int v3)] [] zSH zKn bc bs I L) (v2 : Int32) (v3 : Int32) (I : zI) (h : f_X12_bad_61 k28 v2 v3 I = some r) : zG p l e R s m args below meth c d cy B0 4 bc bs (zQ below s args d cy B0 bc bs (.inl (some (.int r.1))) zSH zKn bc bs r.2 L) 61 [(0, .ref (B0 + 97)), (2, .int v2), (3, .int v3)] [] zSH zKn bc bs I L := by
  unfold f_X12_bad_61 at h
  obtain ⟨x4, ex4, h⟩ := zlt_e h
  refine z_iinc C (j := 2) (v := x4) (lv' := [(3, .int x4), (0, .ref (B0 + 97)), (2, .int v2)]) rfl (by rw [ex4]; rfl) (by decide) rfl dX12_bad_61 ?_
  refine z_goto C 28 (by decide) dX12_bad_64 ?_
  refine z_lv [1, 2, 0] (lv' := [(0, .ref (B0 + 97)), (2, .int v2), (3, .int x4)]) rfl ?_
  exact hk28 v2 x4 I h
set_option maxHeartbeats 4000000 in
set_option maxRecDepth 100000 in
theorem l_X12_bad_79 {r : Int32 × zI} (C : zC p l e R s m args below meth c s0 a0 d cy B0 yX12_bad.cls cX12_bad 4 (some .int) bc bs bc bs 0 0 []) (L : zL) (w0 : Int32) (I : zI) (h : f_X12_bad_79 w0 I = some r) : zG p l e R s m args below meth c d cy B0 4 bc bs (zQ below s args d cy B0 bc bs (.inl (some (.int r.1))) zSH zKn bc bs r.2 L) 79 [] [.int w0] zSH zKn bc bs I L := by
  unfold f_X12_bad_79 at h
  obtain rfl := Option.some.inj h
  exact z_iret C dX12_bad_79 .int rfl rfl rfl
set_option maxHeartbeats 4000000 in
set_option maxRecDepth 100000 in
theorem l_X12_bad_67 {r : Int32 × zI} (C : zC p l e R s m args below meth c s0 a0 d cy B0 yX12_bad.cls cX12_bad 4 (some .int) bc bs bc bs 0 0 []) (L : zL) (I : zI) (h : f_X12_bad_67 I = some r) : zG p l e R s m args below meth c d cy B0 4 bc bs (zQ below s args d cy B0 bc bs (.inl (some (.int r.1))) zSH zKn bc bs r.2 L) 67 [(0, .ref (B0 + 97))] [] zSH zKn bc bs I L := by
  unfold f_X12_bad_67 at h
  refine z_aload_n C rfl 0 rfl dX12_bad_67 ?_
  refine z_geti C zc_12 dX12_bad_68 0 97 rfl (by decide) (by decide) q_1169 rfl ?_
  refine z_if_le C 78 (by decide) dX12_bad_71 (fun hc => ?_) (fun hc => ?_)
  · have h := zif_t hc h
    refine z_iconst C (v := -1) (by decide) dX12_bad_78 ?_
    refine z_lv [] (lv' := []) rfl ?_
    exact l_X12_bad_79 C L (-1 : Int32) I h
  · have h := zif_f hc h
    refine z_iconst C (v := 0) (by decide) dX12_bad_74 ?_
    refine z_goto C 79 (by decide) dX12_bad_75 ?_
    refine z_lv [] (lv' := []) rfl ?_
    exact l_X12_bad_79 C L (0 : Int32) I h
set_option maxHeartbeats 4000000 in
set_option maxRecDepth 100000 in
theorem l_X12_bad_28 {r : Int32 × zI} (C : zC p l e R s m args below meth c s0 a0 d cy B0 yX12_bad.cls cX12_bad 4 (some .int) bc bs bc bs 0 0 []) (L : zL) (k28 : Int32 → Int32 → zI → Option (Int32 × zI)) (hk28 : ∀ (v2 : Int32) (v3 : Int32) (I : zI), k28 v2 v3 I = some r → zG p l e R s m args below meth c d cy B0 4 bc bs (zQ below s args d cy B0 bc bs (.inl (some (.int r.1))) zSH zKn bc bs r.2 L) 28 [(0, .ref (B0 + 97)), (2, .int v2), (3, .int v3)] [] zSH zKn bc bs I L) (v2 : Int32) (v3 : Int32) (I : zI) (h : f_X12_bad_28 k28 v2 v3 I = some r) : zG p l e R s m args below meth c d cy B0 4 bc bs (zQ below s args d cy B0 bc bs (.inl (some (.int r.1))) zSH zKn bc bs r.2 L) 28 [(0, .ref (B0 + 97)), (2, .int v2), (3, .int v3)] [] zSH zKn bc bs I L := by
  unfold f_X12_bad_28 at h
  refine z_iload_n C rfl 2 rfl dX12_bad_28 ?_
  refine z_aload_n C rfl 0 rfl dX12_bad_29 ?_
  refine z_geti C zc_12 dX12_bad_30 39 97 rfl (by decide) (by decide) q_1208 rfl ?_
  refine z_icmp_ge C 67 (by decide) dX12_bad_33 (fun hc => ?_) (fun hc => ?_)
  · have h := zif_t hc h
    refine z_lv [0] (lv' := [(0, .ref (B0 + 97))]) rfl ?_
    exact l_X12_bad_67 C L I h
  · have h := zif_f hc h
    refine z_aload_n C rfl 0 rfl dX12_bad_36 ?_
    refine z_geti C zc_12 dX12_bad_37 0 97 rfl (by decide) (by decide) q_1169 rfl ?_
    refine z_if_ne C 67 (by decide) dX12_bad_40 (fun hc => ?_) (fun hc => ?_)
    · have h := zif_f hc h
      refine z_lv [0] (lv' := [(0, .ref (B0 + 97))]) rfl ?_
      exact l_X12_bad_67 C L I h
    · have h := zif_t hc h
      refine z_aload_n C rfl 0 rfl dX12_bad_43 ?_
      refine z_getr C zc_12 dX12_bad_44 43 97 127 rfl (by decide) (by decide) q_1212 rfl rfl ?_
      refine z_iload_n C rfl 2 rfl dX12_bad_47 ?_
      obtain ⟨hb2, h⟩ := zck_e h
      refine z_zaload C dX12_bad_48 rfl rfl (by decide) (zbd_in hb2) ?_
      refine z_if_eq C 61 (by decide) dX12_bad_49 (fun hc => ?_) (fun hc => ?_)
      · have h := zif_t hc h
        exact l_X12_bad_61 C L k28 hk28 v2 v3 I h
      · have h := zif_f hc h
        refine z_iload_n C rfl 1 rfl dX12_bad_52 ?_
        refine z_if_ne C 58 (by decide) dX12_bad_53 (fun hc => ?_) (fun hc => ?_)
        · have h := zif_f hc h
          obtain ⟨x3, ex3, h⟩ := zlt_e h
          refine z_iinc C (j := 1) (v := x3) (lv' := [(2, .int x3), (0, .ref (B0 + 97)), (3, .int v3)]) rfl (by rw [ex3]; rfl) (by decide) rfl dX12_bad_58 ?_
          refine z_lv [1, 0, 2] (lv' := [(0, .ref (B0 + 97)), (2, .int x3), (3, .int v3)]) rfl ?_
          exact l_X12_bad_61 C L k28 hk28 x3 v3 I h
        · have h := zif_t hc h
          refine z_iload_n C rfl 2 rfl dX12_bad_56 ?_
          obtain rfl := Option.some.inj h
          exact z_iret C dX12_bad_57 .int rfl rfl rfl
set_option maxHeartbeats 4000000 in
set_option maxRecDepth 100000 in
theorem L_X12_bad_28 {r : Int32 × zI} (C : zC p l e R s m args below meth c s0 a0 d cy B0 yX12_bad.cls cX12_bad 4 (some .int) bc bs bc bs 0 0 []) (L : zL) (v2 : Int32) (v3 : Int32) (I : zI) (h : zlp3 (f_X12_bad_28) zF v2 v3 I = some r) : zG p l e R s m args below meth c d cy B0 4 bc bs (zQ below s args d cy B0 bc bs (.inl (some (.int r.1))) zSH zKn bc bs r.2 L) 28 [(0, .ref (B0 + 97)), (2, .int v2), (3, .int v3)] [] zSH zKn bc bs I L :=
 zlp3_e (fun (v2 : Int32) (v3 : Int32) (I : zI) => zG p l e R s m args below meth c d cy B0 4 bc bs (zQ below s args d cy B0 bc bs (.inl (some (.int r.1))) zSH zKn bc bs r.2 L) 28 [(0, .ref (B0 + 97)), (2, .int v2), (3, .int v3)] [] zSH zKn bc bs I L) (fun k9 hk9 v2 v3 I h => l_X12_bad_28 C L k9 hk9 v2 v3 I h) zF v2 v3 I h
set_option maxHeartbeats 4000000 in
set_option maxRecDepth 100000 in
theorem l_X12_bad_21 {r : Int32 × zI} (C : zC p l e R s m args below meth c s0 a0 d cy B0 yX12_bad.cls cX12_bad 4 (some .int) bc bs bc bs 0 0 []) (L : zL) (v1 : Int32) (w1 : Int32) (I : zI) (h : f_X12_bad_21 v1 w1 I = some r) : zG p l e R s m args below meth c d cy B0 4 bc bs (zQ below s args d cy B0 bc bs (.inl (some (.int r.1))) zSH zKn bc bs r.2 L) 21 [(0, .ref (B0 + 97)), (1, .int v1)] [.int w1, .ref (B0 + 97)] zSH zKn bc bs I L := by
  unfold f_X12_bad_21 at h
  refine z_puti C zc_12 dX12_bad_21 0 97 rfl (by decide) (by decide) rfl q_1169 rfl rfl rfl ?_
  obtain ⟨I1, eI1, h⟩ := zlt_e h
  refine z_eqI C eI1 ?_
  refine z_iload_n C rfl 1 rfl dX12_bad_24 ?_
  refine z_istore_n C (lv' := [(2, .int v1), (0, .ref (B0 + 97)), (1, .int v1)]) rfl (by decide) rfl dX12_bad_25 ?_
  refine z_iconst C (v := 0) (by decide) dX12_bad_26 ?_
  refine z_istore_n C (lv' := [(3, .int (0 : Int32)), (2, .int v1), (0, .ref (B0 + 97)), (1, .int v1)]) rfl (by decide) rfl dX12_bad_27 ?_
  refine z_lv [2, 1, 0] (lv' := [(0, .ref (B0 + 97)), (2, .int v1), (3, .int (0 : Int32))]) rfl ?_
  exact L_X12_bad_28 C L v1 (0 : Int32) I1 h
set_option maxHeartbeats 4000000 in
set_option maxRecDepth 100000 in
theorem c_X12_bad {r : Int32 × zI} (hE : zE0 l s0 a0 d cy B0) (a1 : Int32) (I : zI) (L : zL) (h : f_X12_bad a1 I = some r) : zM l s0 d cy B0 yX12_bad cX12_bad 4 (some .int) 0 0 [.ref (B0 + 97), .int a1] zSH zKn bc bs I L (.inl (some (.int r.1))) zSH zKn bc bs r.2 L := by
  refine z_meth yy_X12_bad hE (Nat.le_of_ble_eq_true rfl) (fun p e R s m args below meth c C => ?_)
  show zG p l e R s m args below meth c d cy B0 4 bc bs (zQ below s args d cy B0 bc bs (.inl (some (.int r.1))) zSH zKn bc bs r.2 L) 0 [(0, .ref (B0 + 97)), (1, .int a1)] [] zSH zKn bc bs I L
  unfold f_X12_bad at h
  refine z_aload_n C rfl 0 rfl dX12_bad_0 ?_
  refine z_iload_n C rfl 1 rfl dX12_bad_1 ?_
  refine z_if_ge C 9 (by decide) dX12_bad_2 (fun hc => ?_) (fun hc => ?_)
  · have h := zif_t hc h
    refine z_aload_n C rfl 0 rfl dX12_bad_9 ?_
    refine z_geti C zc_12 dX12_bad_10 30 97 rfl (by decide) (by decide) q_1199 rfl ?_
    refine z_if_ne C 20 (by decide) dX12_bad_13 (fun hc => ?_) (fun hc => ?_)
    · have h := zif_f hc h
      refine z_iconst C (v := 0) (by decide) dX12_bad_20 ?_
      exact l_X12_bad_21 C L a1 (0 : Int32) I h
    · have h := zif_t hc h
      refine z_iconst C (v := 2) (by decide) dX12_bad_16 ?_
      refine z_goto C 21 (by decide) dX12_bad_17 ?_
      exact l_X12_bad_21 C L a1 (2 : Int32) I h
  · have h := zif_f hc h
    refine z_iconst C (v := 1) (by decide) dX12_bad_5 ?_
    refine z_goto C 21 (by decide) dX12_bad_6 ?_
    exact l_X12_bad_21 C L a1 (1 : Int32) I h
theorem q_1548 : (Cond.code ({ cls := "DeviceFindModel", name := "joined", desc := "(I)I" } : Jvm.MethodName) prog_14_method_53_code (8 : Nat) (Option.some Jvm.ClassFile.FieldType.int)) ∈ lw_tbl := List.mem_of_getElem? (i := 1548) (by decide +kernel)
theorem yy_X12_joined : zY yX12_joined cX12_joined 8 (some .int) 1 := ⟨q_1548, q_88, by decide +kernel, by decide +kernel, by decide +kernel⟩
noncomputable def f_X12_joined_177 (k36 : Int32 → Int32 → Int32 → zI → Option (Int32 × zI)) (k80 : Int32 → Int32 → Int32 → Int32 → Int32 → zI → Option (Int32 × zI)) (k122 : Int32 → Int32 → Int32 → Int32 → Int32 → Int32 → zI → Option (Int32 × zI)) (v1 : Int32) (v2 : Int32) (v3 : Int32) (v5 : Int32) (v7 : Int32) (w0 : Int32) (I : zI) : Option (Int32 × zI) :=
  zlt (v7 + 1) (fun x17 => k122 v1 v2 v3 v5 w0 x17 I)
noncomputable def f_X12_joined_195 (k36 : Int32 → Int32 → Int32 → zI → Option (Int32 × zI)) (k80 : Int32 → Int32 → Int32 → Int32 → Int32 → zI → Option (Int32 × zI)) (v1 : Int32) (v2 : Int32) (v3 : Int32) (v5 : Int32) (w0 : Int32) (I : zI) : Option (Int32 × zI) :=
  zlt (v5 + 1) (fun x18 => k80 v1 v2 v3 w0 x18 I)
noncomputable def f_X12_joined_185 (k36 : Int32 → Int32 → Int32 → zI → Option (Int32 × zI)) (k80 : Int32 → Int32 → Int32 → Int32 → Int32 → zI → Option (Int32 × zI)) (v1 : Int32) (v2 : Int32) (v3 : Int32) (v5 : Int32) (v6 : Int32) (I : zI) : Option (Int32 × zI) :=
  if v6 = 0 then (f_X12_joined_195 k36 k80 v1 v2 v3 v5 (1 : Int32) I) else (f_X12_joined_195 k36 k80 v1 v2 v3 v5 (0 : Int32) I)
noncomputable def f_X12_joined_122 (k36 : Int32 → Int32 → Int32 → zI → Option (Int32 × zI)) (k80 : Int32 → Int32 → Int32 → Int32 → Int32 → zI → Option (Int32 × zI)) (k122 : Int32 → Int32 → Int32 → Int32 → Int32 → Int32 → zI → Option (Int32 × zI)) (v1 : Int32) (v2 : Int32) (v3 : Int32) (v5 : Int32) (v6 : Int32) (v7 : Int32) (I : zI) : Option (Int32 × zI) :=
  zck (zbd v1 16) (if (I 115 v1.toNatClampNeg) ≤ v7 then (f_X12_joined_185 k36 k80 v1 v2 v3 v5 v6 I) else (if v6 = 0 then (f_X12_joined_185 k36 k80 v1 v2 v3 v5 v6 I) else (zlt (((4 : Int32) * v3) + v7) (fun x9 => zck (zbd x9 1200) (zb1 (f_X12_netOf (I 128 x9.toNatClampNeg) I) (fun x12 => zlt (((4 : Int32) * v5) + v7) (fun x13 => zck (zbd x13 1200) (zb1 (f_X12_netOf (I 128 x13.toNatClampNeg) I) (fun x16 => if x12 = x16 then (f_X12_joined_177 k36 k80 k122 v1 v2 v3 v5 v7 (1 : Int32) I) else (f_X12_joined_177 k36 k80 k122 v1 v2 v3 v5 v7 (0 : Int32) I))))))))))
noncomputable def f_X12_joined_117 (k36 : Int32 → Int32 → Int32 → zI → Option (Int32 × zI)) (k80 : Int32 → Int32 → Int32 → Int32 → Int32 → zI → Option (Int32 × zI)) (v1 : Int32) (v2 : Int32) (v3 : Int32) (v5 : Int32) (w0 : Int32) (I : zI) : Option (Int32 × zI) :=
  zlp7 (f_X12_joined_122 k36 k80) zF v1 v2 v3 v5 w0 (0 : Int32) I
noncomputable def f_X12_joined_116 (k36 : Int32 → Int32 → Int32 → zI → Option (Int32 × zI)) (k80 : Int32 → Int32 → Int32 → Int32 → Int32 → zI → Option (Int32 × zI)) (v1 : Int32) (v2 : Int32) (v3 : Int32) (v5 : Int32) (I : zI) : Option (Int32 × zI) :=
  f_X12_joined_117 k36 k80 v1 v2 v3 v5 (0 : Int32) I
noncomputable def f_X12_joined_214 (k36 : Int32 → Int32 → Int32 → zI → Option (Int32 × zI)) (v1 : Int32) (v3 : Int32) (w0 : Int32) (w1 : Int32) (I : zI) : Option (Int32 × zI) :=
  zlt (w0 + w1) (fun x6 => zlt (v3 + 1) (fun x7 => k36 v1 x6 x7 I))
noncomputable def f_X12_joined_203 (k36 : Int32 → Int32 → Int32 → zI → Option (Int32 × zI)) (v1 : Int32) (v2 : Int32) (v3 : Int32) (v4 : Int32) (I : zI) : Option (Int32 × zI) :=
  if v4 = 0 then (f_X12_joined_214 k36 v1 v3 v2 (0 : Int32) I) else (f_X12_joined_214 k36 v1 v3 v2 (1 : Int32) I)
noncomputable def f_X12_joined_80 (k36 : Int32 → Int32 → Int32 → zI → Option (Int32 × zI)) (k80 : Int32 → Int32 → Int32 → Int32 → Int32 → zI → Option (Int32 × zI)) (v1 : Int32) (v2 : Int32) (v3 : Int32) (v4 : Int32) (v5 : Int32) (I : zI) : Option (Int32 × zI) :=
  if v3 ≤ v5 then (f_X12_joined_203 k36 v1 v2 v3 v4 I) else (if v4 = 0 then (f_X12_joined_203 k36 v1 v2 v3 v4 I) else (zck (zbd v5 300) (if (I 124 v5.toNatClampNeg) = v1 then (zck (zbd v5 300) (if (I 127 v5.toNatClampNeg) = 0 then (f_X12_joined_117 k36 k80 v1 v2 v3 v5 (1 : Int32) I) else (f_X12_joined_116 k36 k80 v1 v2 v3 v5 I))) else (f_X12_joined_116 k36 k80 v1 v2 v3 v5 I))))
noncomputable def f_X12_joined_75 (k36 : Int32 → Int32 → Int32 → zI → Option (Int32 × zI)) (v1 : Int32) (v2 : Int32) (v3 : Int32) (w0 : Int32) (I : zI) : Option (Int32 × zI) :=
  zlp6 (f_X12_joined_80 k36) zF v1 v2 v3 w0 (0 : Int32) I
noncomputable def f_X12_joined_74 (k36 : Int32 → Int32 → Int32 → zI → Option (Int32 × zI)) (v1 : Int32) (v2 : Int32) (v3 : Int32) (I : zI) : Option (Int32 × zI) :=
  f_X12_joined_75 k36 v1 v2 v3 (0 : Int32) I
noncomputable def f_X12_joined_222 (v2 : Int32) (I : zI) : Option (Int32 × zI) :=
  some (v2, I)
noncomputable def f_X12_joined_36 (k36 : Int32 → Int32 → Int32 → zI → Option (Int32 × zI)) (v1 : Int32) (v2 : Int32) (v3 : Int32) (I : zI) : Option (Int32 × zI) :=
  if (I 97 39) ≤ v3 then (f_X12_joined_222 v2 I) else (if (I 97 0) = 0 then (zck (zbd v3 300) (if (I 124 v3.toNatClampNeg) = v1 then (zck (zbd v3 300) (if (I 127 v3.toNatClampNeg) = 0 then (f_X12_joined_75 k36 v1 v2 v3 (1 : Int32) I) else (f_X12_joined_74 k36 v1 v2 v3 I))) else (f_X12_joined_74 k36 v1 v2 v3 I))) else (f_X12_joined_222 v2 I))
noncomputable def f_X12_joined_29 (v1 : Int32) (w1 : Int32) (I : zI) : Option (Int32 × zI) :=
  zlt (zu I 97 0 w1) (fun I1 => zlp4 (f_X12_joined_36) zF v1 (0 : Int32) (0 : Int32) I1)
noncomputable def f_X12_joined_24 (v1 : Int32) (I : zI) : Option (Int32 × zI) :=
  f_X12_joined_29 v1 (2 : Int32) I
noncomputable def f_X12_joined (a1 : Int32) (I : zI) : Option (Int32 × zI) :=
  if (I 97 30) = 0 then (f_X12_joined_29 a1 (1 : Int32) I) else (if a1 < 0 then (f_X12_joined_24 a1 I) else (if a1 < (I 97 15) then (f_X12_joined_29 a1 (0 : Int32) I) else (f_X12_joined_24 a1 I)))
set_option maxHeartbeats 4000000 in
set_option maxRecDepth 100000 in
theorem l_X12_joined_177 {r : Int32 × zI} (C : zC p l e R s m args below meth c s0 a0 d cy B0 yX12_joined.cls cX12_joined 8 (some .int) bc bs bc bs 1 21 []) (L : zL) (k36 : Int32 → Int32 → Int32 → zI → Option (Int32 × zI)) (hk36 : ∀ (v1 : Int32) (v2 : Int32) (v3 : Int32) (I : zI), k36 v1 v2 v3 I = some r → zG p l e R s m args below meth c d cy B0 8 bc bs (zQ below s args d cy B0 bc bs (.inl (some (.int r.1))) zSH zKn bc bs r.2 L) 36 [(0, .ref (B0 + 97)), (1, .int v1), (2, .int v2), (3, .int v3)] [] zSH zKn bc bs I L) (k80 : Int32 → Int32 → Int32 → Int32 → Int32 → zI → Option (Int32 × zI)) (hk80 : ∀ (v1 : Int32) (v2 : Int32) (v3 : Int32) (v4 : Int32) (v5 : Int32) (I : zI), k80 v1 v2 v3 v4 v5 I = some r → zG p l e R s m args below meth c d cy B0 8 bc bs (zQ below s args d cy B0 bc bs (.inl (some (.int r.1))) zSH zKn bc bs r.2 L) 80 [(0, .ref (B0 + 97)), (1, .int v1), (2, .int v2), (3, .int v3), (4, .int v4), (5, .int v5)] [] zSH zKn bc bs I L) (k122 : Int32 → Int32 → Int32 → Int32 → Int32 → Int32 → zI → Option (Int32 × zI)) (hk122 : ∀ (v1 : Int32) (v2 : Int32) (v3 : Int32) (v5 : Int32) (v6 : Int32) (v7 : Int32) (I : zI), k122 v1 v2 v3 v5 v6 v7 I = some r → zG p l e R s m args below meth c d cy B0 8 bc bs (zQ below s args d cy B0 bc bs (.inl (some (.int r.1))) zSH zKn bc bs r.2 L) 122 [(0, .ref (B0 + 97)), (1, .int v1), (2, .int v2), (3, .int v3), (5, .int v5), (6, .int v6), (7, .int v7)] [] zSH zKn bc bs I L) (v1 : Int32) (v2 : Int32) (v3 : Int32) (v5 : Int32) (v7 : Int32) (w0 : Int32) (I : zI) (h : f_X12_joined_177 k36 k80 k122 v1 v2 v3 v5 v7 w0 I = some r) : zG p l e R s m args below meth c d cy B0 8 bc bs (zQ below s args d cy B0 bc bs (.inl (some (.int r.1))) zSH zKn bc bs r.2 L) 177 [(0, .ref (B0 + 97)), (1, .int v1), (2, .int v2), (3, .int v3), (5, .int v5), (7, .int v7)] [.int w0] zSH zKn bc bs I L := by
  unfold f_X12_joined_177 at h
  refine z_istore C (lv' := [(6, .int w0), (0, .ref (B0 + 97)), (1, .int v1), (2, .int v2), (3, .int v3), (5, .int v5), (7, .int v7)]) (by decide) rfl dX12_joined_177 ?_
  obtain ⟨x17, ex17, h⟩ := zlt_e h
  refine z_iinc C (j := 6) (v := x17) (lv' := [(7, .int x17), (6, .int w0), (0, .ref (B0 + 97)), (1, .int v1), (2, .int v2), (3, .int v3), (5, .int v5)]) rfl (by rw [ex17]; rfl) (by decide) rfl dX12_joined_179 ?_
  refine z_goto C 122 (by decide) dX12_joined_182 ?_
  refine z_lv [2, 3, 4, 5, 6, 1, 0] (lv' := [(0, .ref (B0 + 97)), (1, .int v1), (2, .int v2), (3, .int v3), (5, .int v5), (6, .int w0), (7, .int x17)]) rfl ?_
  exact hk122 v1 v2 v3 v5 w0 x17 I h
set_option maxHeartbeats 4000000 in
set_option maxRecDepth 100000 in
theorem l_X12_joined_195 {r : Int32 × zI} (C : zC p l e R s m args below meth c s0 a0 d cy B0 yX12_joined.cls cX12_joined 8 (some .int) bc bs bc bs 1 21 []) (L : zL) (k36 : Int32 → Int32 → Int32 → zI → Option (Int32 × zI)) (hk36 : ∀ (v1 : Int32) (v2 : Int32) (v3 : Int32) (I : zI), k36 v1 v2 v3 I = some r → zG p l e R s m args below meth c d cy B0 8 bc bs (zQ below s args d cy B0 bc bs (.inl (some (.int r.1))) zSH zKn bc bs r.2 L) 36 [(0, .ref (B0 + 97)), (1, .int v1), (2, .int v2), (3, .int v3)] [] zSH zKn bc bs I L) (k80 : Int32 → Int32 → Int32 → Int32 → Int32 → zI → Option (Int32 × zI)) (hk80 : ∀ (v1 : Int32) (v2 : Int32) (v3 : Int32) (v4 : Int32) (v5 : Int32) (I : zI), k80 v1 v2 v3 v4 v5 I = some r → zG p l e R s m args below meth c d cy B0 8 bc bs (zQ below s args d cy B0 bc bs (.inl (some (.int r.1))) zSH zKn bc bs r.2 L) 80 [(0, .ref (B0 + 97)), (1, .int v1), (2, .int v2), (3, .int v3), (4, .int v4), (5, .int v5)] [] zSH zKn bc bs I L) (v1 : Int32) (v2 : Int32) (v3 : Int32) (v5 : Int32) (w0 : Int32) (I : zI) (h : f_X12_joined_195 k36 k80 v1 v2 v3 v5 w0 I = some r) : zG p l e R s m args below meth c d cy B0 8 bc bs (zQ below s args d cy B0 bc bs (.inl (some (.int r.1))) zSH zKn bc bs r.2 L) 195 [(0, .ref (B0 + 97)), (1, .int v1), (2, .int v2), (3, .int v3), (5, .int v5)] [.int w0] zSH zKn bc bs I L := by
  unfold f_X12_joined_195 at h
  refine z_istore C (lv' := [(4, .int w0), (0, .ref (B0 + 97)), (1, .int v1), (2, .int v2), (3, .int v3), (5, .int v5)]) (by decide) rfl dX12_joined_195 ?_
  obtain ⟨x18, ex18, h⟩ := zlt_e h
  refine z_iinc C (j := 5) (v := x18) (lv' := [(5, .int x18), (4, .int w0), (0, .ref (B0 + 97)), (1, .int v1), (2, .int v2), (3, .int v3)]) rfl (by rw [ex18]; rfl) (by decide) rfl dX12_joined_197 ?_
  refine z_goto C 80 (by decide) dX12_joined_200 ?_
  refine z_lv [2, 3, 4, 5, 1, 0] (lv' := [(0, .ref (B0 + 97)), (1, .int v1), (2, .int v2), (3, .int v3), (4, .int w0), (5, .int x18)]) rfl ?_
  exact hk80 v1 v2 v3 w0 x18 I h
set_option maxHeartbeats 4000000 in
set_option maxRecDepth 100000 in
theorem l_X12_joined_185 {r : Int32 × zI} (C : zC p l e R s m args below meth c s0 a0 d cy B0 yX12_joined.cls cX12_joined 8 (some .int) bc bs bc bs 1 21 []) (L : zL) (k36 : Int32 → Int32 → Int32 → zI → Option (Int32 × zI)) (hk36 : ∀ (v1 : Int32) (v2 : Int32) (v3 : Int32) (I : zI), k36 v1 v2 v3 I = some r → zG p l e R s m args below meth c d cy B0 8 bc bs (zQ below s args d cy B0 bc bs (.inl (some (.int r.1))) zSH zKn bc bs r.2 L) 36 [(0, .ref (B0 + 97)), (1, .int v1), (2, .int v2), (3, .int v3)] [] zSH zKn bc bs I L) (k80 : Int32 → Int32 → Int32 → Int32 → Int32 → zI → Option (Int32 × zI)) (hk80 : ∀ (v1 : Int32) (v2 : Int32) (v3 : Int32) (v4 : Int32) (v5 : Int32) (I : zI), k80 v1 v2 v3 v4 v5 I = some r → zG p l e R s m args below meth c d cy B0 8 bc bs (zQ below s args d cy B0 bc bs (.inl (some (.int r.1))) zSH zKn bc bs r.2 L) 80 [(0, .ref (B0 + 97)), (1, .int v1), (2, .int v2), (3, .int v3), (4, .int v4), (5, .int v5)] [] zSH zKn bc bs I L) (v1 : Int32) (v2 : Int32) (v3 : Int32) (v5 : Int32) (v6 : Int32) (I : zI) (h : f_X12_joined_185 k36 k80 v1 v2 v3 v5 v6 I = some r) : zG p l e R s m args below meth c d cy B0 8 bc bs (zQ below s args d cy B0 bc bs (.inl (some (.int r.1))) zSH zKn bc bs r.2 L) 185 [(0, .ref (B0 + 97)), (1, .int v1), (2, .int v2), (3, .int v3), (5, .int v5), (6, .int v6)] [] zSH zKn bc bs I L := by
  unfold f_X12_joined_185 at h
  refine z_iload C 5 rfl dX12_joined_185 ?_
  refine z_if_ne C 194 (by decide) dX12_joined_187 (fun hc => ?_) (fun hc => ?_)
  · have h := zif_f hc h
    refine z_iconst C (v := 0) (by decide) dX12_joined_194 ?_
    refine z_lv [0, 1, 2, 3, 4] (lv' := [(0, .ref (B0 + 97)), (1, .int v1), (2, .int v2), (3, .int v3), (5, .int v5)]) rfl ?_
    exact l_X12_joined_195 C L k36 hk36 k80 hk80 v1 v2 v3 v5 (0 : Int32) I h
  · have h := zif_t hc h
    refine z_iconst C (v := 1) (by decide) dX12_joined_190 ?_
    refine z_goto C 195 (by decide) dX12_joined_191 ?_
    refine z_lv [0, 1, 2, 3, 4] (lv' := [(0, .ref (B0 + 97)), (1, .int v1), (2, .int v2), (3, .int v3), (5, .int v5)]) rfl ?_
    exact l_X12_joined_195 C L k36 hk36 k80 hk80 v1 v2 v3 v5 (1 : Int32) I h
set_option maxHeartbeats 4000000 in
set_option maxRecDepth 100000 in
theorem l_X12_joined_122 {r : Int32 × zI} (C : zC p l e R s m args below meth c s0 a0 d cy B0 yX12_joined.cls cX12_joined 8 (some .int) bc bs bc bs 1 21 []) (L : zL) (k36 : Int32 → Int32 → Int32 → zI → Option (Int32 × zI)) (hk36 : ∀ (v1 : Int32) (v2 : Int32) (v3 : Int32) (I : zI), k36 v1 v2 v3 I = some r → zG p l e R s m args below meth c d cy B0 8 bc bs (zQ below s args d cy B0 bc bs (.inl (some (.int r.1))) zSH zKn bc bs r.2 L) 36 [(0, .ref (B0 + 97)), (1, .int v1), (2, .int v2), (3, .int v3)] [] zSH zKn bc bs I L) (k80 : Int32 → Int32 → Int32 → Int32 → Int32 → zI → Option (Int32 × zI)) (hk80 : ∀ (v1 : Int32) (v2 : Int32) (v3 : Int32) (v4 : Int32) (v5 : Int32) (I : zI), k80 v1 v2 v3 v4 v5 I = some r → zG p l e R s m args below meth c d cy B0 8 bc bs (zQ below s args d cy B0 bc bs (.inl (some (.int r.1))) zSH zKn bc bs r.2 L) 80 [(0, .ref (B0 + 97)), (1, .int v1), (2, .int v2), (3, .int v3), (4, .int v4), (5, .int v5)] [] zSH zKn bc bs I L) (k122 : Int32 → Int32 → Int32 → Int32 → Int32 → Int32 → zI → Option (Int32 × zI)) (hk122 : ∀ (v1 : Int32) (v2 : Int32) (v3 : Int32) (v5 : Int32) (v6 : Int32) (v7 : Int32) (I : zI), k122 v1 v2 v3 v5 v6 v7 I = some r → zG p l e R s m args below meth c d cy B0 8 bc bs (zQ below s args d cy B0 bc bs (.inl (some (.int r.1))) zSH zKn bc bs r.2 L) 122 [(0, .ref (B0 + 97)), (1, .int v1), (2, .int v2), (3, .int v3), (5, .int v5), (6, .int v6), (7, .int v7)] [] zSH zKn bc bs I L) (v1 : Int32) (v2 : Int32) (v3 : Int32) (v5 : Int32) (v6 : Int32) (v7 : Int32) (I : zI) (h : f_X12_joined_122 k36 k80 k122 v1 v2 v3 v5 v6 v7 I = some r) : zG p l e R s m args below meth c d cy B0 8 bc bs (zQ below s args d cy B0 bc bs (.inl (some (.int r.1))) zSH zKn bc bs r.2 L) 122 [(0, .ref (B0 + 97)), (1, .int v1), (2, .int v2), (3, .int v3), (5, .int v5), (6, .int v6), (7, .int v7)] [] zSH zKn bc bs I L := by
  unfold f_X12_joined_122 at h
  refine z_iload C 6 rfl dX12_joined_122 ?_
  refine z_aload_n C rfl 0 rfl dX12_joined_124 ?_
  refine z_getr C zc_12 dX12_joined_125 26 97 115 rfl (by decide) (by decide) q_1195 rfl rfl ?_
  refine z_iload_n C rfl 1 rfl dX12_joined_128 ?_
  obtain ⟨hb8, h⟩ := zck_e h
  refine z_iaload C dX12_joined_129 rfl rfl (by decide) (zbd_in hb8) ?_
  refine z_icmp_ge C 185 (by decide) dX12_joined_130 (fun hc => ?_) (fun hc => ?_)
  · have h := zif_t hc h
    refine z_lv [0, 1, 2, 3, 4, 5] (lv' := [(0, .ref (B0 + 97)), (1, .int v1), (2, .int v2), (3, .int v3), (5, .int v5), (6, .int v6)]) rfl ?_
    exact l_X12_joined_185 C L k36 hk36 k80 hk80 v1 v2 v3 v5 v6 I h
  · have h := zif_f hc h
    refine z_iload C 5 rfl dX12_joined_133 ?_
    refine z_if_eq C 185 (by decide) dX12_joined_135 (fun hc => ?_) (fun hc => ?_)
    · have h := zif_t hc h
      refine z_lv [0, 1, 2, 3, 4, 5] (lv' := [(0, .ref (B0 + 97)), (1, .int v1), (2, .int v2), (3, .int v3), (5, .int v5), (6, .int v6)]) rfl ?_
      exact l_X12_joined_185 C L k36 hk36 k80 hk80 v1 v2 v3 v5 v6 I h
    · have h := zif_f hc h
      refine z_aload_n C rfl 0 rfl dX12_joined_138 ?_
      refine z_aload_n C rfl 0 rfl dX12_joined_139 ?_
      refine z_getr C zc_12 dX12_joined_140 44 97 128 rfl (by decide) (by decide) q_1213 rfl rfl ?_
      refine z_iconst C (v := 4) (by decide) dX12_joined_143 ?_
      refine z_iload_n C rfl 3 rfl dX12_joined_144 ?_
      refine z_imul C dX12_joined_145 ?_
      refine z_iload C 6 rfl dX12_joined_146 ?_
      refine z_iadd C dX12_joined_148 ?_
      obtain ⟨x9, ex9, h⟩ := zlt_e h
      refine z_eqi C ex9 ?_
      obtain ⟨hb10, h⟩ := zck_e h
      refine z_iaload C dX12_joined_149 rfl rfl (by decide) (zbd_in hb10) ?_
      obtain ⟨x12, hg11, h⟩ := zb1_e h
      refine z_callV C zc_12 rfl (by decide) dX12_joined_150 yy_X12_netOf (c_X12_netOf C.2.2.2.2.1  (I 128 x9.toNatClampNeg) I L hg11) q_1521 q_1523 q_72 (by decide) (by decide) rfl rfl (Nat.le_of_ble_eq_true rfl) ⟨Nat.le_refl _, Nat.le_refl _, Nat.le_refl _, Nat.le_refl _⟩ ?_
      refine z_aload_n C rfl 0 rfl dX12_joined_153 ?_
      refine z_aload_n C rfl 0 rfl dX12_joined_154 ?_
      refine z_getr C zc_12 dX12_joined_155 44 97 128 rfl (by decide) (by decide) q_1213 rfl rfl ?_
      refine z_iconst C (v := 4) (by decide) dX12_joined_158 ?_
      refine z_iload C 4 rfl dX12_joined_159 ?_
      refine z_imul C dX12_joined_161 ?_
      refine z_iload C 6 rfl dX12_joined_162 ?_
      refine z_iadd C dX12_joined_164 ?_
      obtain ⟨x13, ex13, h⟩ := zlt_e h
      refine z_eqi C ex13 ?_
      obtain ⟨hb14, h⟩ := zck_e h
      refine z_iaload C dX12_joined_165 rfl rfl (by decide) (zbd_in hb14) ?_
      obtain ⟨x16, hg15, h⟩ := zb1_e h
      refine z_callV C zc_12 rfl (by decide) dX12_joined_166 yy_X12_netOf (c_X12_netOf C.2.2.2.2.1  (I 128 x13.toNatClampNeg) I L hg15) q_1521 q_1523 q_72 (by decide) (by decide) rfl rfl (Nat.le_of_ble_eq_true rfl) ⟨Nat.le_refl _, Nat.le_refl _, Nat.le_refl _, Nat.le_refl _⟩ ?_
      refine z_icmp_ne C 176 (by decide) dX12_joined_169 (fun hc => ?_) (fun hc => ?_)
      · have h := zif_f hc h
        refine z_iconst C (v := 0) (by decide) dX12_joined_176 ?_
        refine z_lv [0, 1, 2, 3, 4, 6] (lv' := [(0, .ref (B0 + 97)), (1, .int v1), (2, .int v2), (3, .int v3), (5, .int v5), (7, .int v7)]) rfl ?_
        exact l_X12_joined_177 C L k36 hk36 k80 hk80 k122 hk122 v1 v2 v3 v5 v7 (0 : Int32) I h
      · have h := zif_t hc h
        refine z_iconst C (v := 1) (by decide) dX12_joined_172 ?_
        refine z_goto C 177 (by decide) dX12_joined_173 ?_
        refine z_lv [0, 1, 2, 3, 4, 6] (lv' := [(0, .ref (B0 + 97)), (1, .int v1), (2, .int v2), (3, .int v3), (5, .int v5), (7, .int v7)]) rfl ?_
        exact l_X12_joined_177 C L k36 hk36 k80 hk80 k122 hk122 v1 v2 v3 v5 v7 (1 : Int32) I h
set_option maxHeartbeats 4000000 in
set_option maxRecDepth 100000 in
theorem L_X12_joined_122 {r : Int32 × zI} (C : zC p l e R s m args below meth c s0 a0 d cy B0 yX12_joined.cls cX12_joined 8 (some .int) bc bs bc bs 1 21 []) (L : zL) (k36 : Int32 → Int32 → Int32 → zI → Option (Int32 × zI)) (hk36 : ∀ (v1 : Int32) (v2 : Int32) (v3 : Int32) (I : zI), k36 v1 v2 v3 I = some r → zG p l e R s m args below meth c d cy B0 8 bc bs (zQ below s args d cy B0 bc bs (.inl (some (.int r.1))) zSH zKn bc bs r.2 L) 36 [(0, .ref (B0 + 97)), (1, .int v1), (2, .int v2), (3, .int v3)] [] zSH zKn bc bs I L) (k80 : Int32 → Int32 → Int32 → Int32 → Int32 → zI → Option (Int32 × zI)) (hk80 : ∀ (v1 : Int32) (v2 : Int32) (v3 : Int32) (v4 : Int32) (v5 : Int32) (I : zI), k80 v1 v2 v3 v4 v5 I = some r → zG p l e R s m args below meth c d cy B0 8 bc bs (zQ below s args d cy B0 bc bs (.inl (some (.int r.1))) zSH zKn bc bs r.2 L) 80 [(0, .ref (B0 + 97)), (1, .int v1), (2, .int v2), (3, .int v3), (4, .int v4), (5, .int v5)] [] zSH zKn bc bs I L) (v1 : Int32) (v2 : Int32) (v3 : Int32) (v5 : Int32) (v6 : Int32) (v7 : Int32) (I : zI) (h : zlp7 (f_X12_joined_122 k36 k80) zF v1 v2 v3 v5 v6 v7 I = some r) : zG p l e R s m args below meth c d cy B0 8 bc bs (zQ below s args d cy B0 bc bs (.inl (some (.int r.1))) zSH zKn bc bs r.2 L) 122 [(0, .ref (B0 + 97)), (1, .int v1), (2, .int v2), (3, .int v3), (5, .int v5), (6, .int v6), (7, .int v7)] [] zSH zKn bc bs I L :=
 zlp7_e (fun (v1 : Int32) (v2 : Int32) (v3 : Int32) (v5 : Int32) (v6 : Int32) (v7 : Int32) (I : zI) => zG p l e R s m args below meth c d cy B0 8 bc bs (zQ below s args d cy B0 bc bs (.inl (some (.int r.1))) zSH zKn bc bs r.2 L) 122 [(0, .ref (B0 + 97)), (1, .int v1), (2, .int v2), (3, .int v3), (5, .int v5), (6, .int v6), (7, .int v7)] [] zSH zKn bc bs I L) (fun k9 hk9 v1 v2 v3 v5 v6 v7 I h => l_X12_joined_122 C L k36 hk36 k80 hk80 k9 hk9 v1 v2 v3 v5 v6 v7 I h) zF v1 v2 v3 v5 v6 v7 I h
set_option maxHeartbeats 4000000 in
set_option maxRecDepth 100000 in
theorem l_X12_joined_117 {r : Int32 × zI} (C : zC p l e R s m args below meth c s0 a0 d cy B0 yX12_joined.cls cX12_joined 8 (some .int) bc bs bc bs 1 21 []) (L : zL) (k36 : Int32 → Int32 → Int32 → zI → Option (Int32 × zI)) (hk36 : ∀ (v1 : Int32) (v2 : Int32) (v3 : Int32) (I : zI), k36 v1 v2 v3 I = some r → zG p l e R s m args below meth c d cy B0 8 bc bs (zQ below s args d cy B0 bc bs (.inl (some (.int r.1))) zSH zKn bc bs r.2 L) 36 [(0, .ref (B0 + 97)), (1, .int v1), (2, .int v2), (3, .int v3)] [] zSH zKn bc bs I L) (k80 : Int32 → Int32 → Int32 → Int32 → Int32 → zI → Option (Int32 × zI)) (hk80 : ∀ (v1 : Int32) (v2 : Int32) (v3 : Int32) (v4 : Int32) (v5 : Int32) (I : zI), k80 v1 v2 v3 v4 v5 I = some r → zG p l e R s m args below meth c d cy B0 8 bc bs (zQ below s args d cy B0 bc bs (.inl (some (.int r.1))) zSH zKn bc bs r.2 L) 80 [(0, .ref (B0 + 97)), (1, .int v1), (2, .int v2), (3, .int v3), (4, .int v4), (5, .int v5)] [] zSH zKn bc bs I L) (v1 : Int32) (v2 : Int32) (v3 : Int32) (v5 : Int32) (w0 : Int32) (I : zI) (h : f_X12_joined_117 k36 k80 v1 v2 v3 v5 w0 I = some r) : zG p l e R s m args below meth c d cy B0 8 bc bs (zQ below s args d cy B0 bc bs (.inl (some (.int r.1))) zSH zKn bc bs r.2 L) 117 [(0, .ref (B0 + 97)), (1, .int v1), (2, .int v2), (3, .int v3), (5, .int v5)] [.int w0] zSH zKn bc bs I L := by
  unfold f_X12_joined_117 at h
  refine z_istore C (lv' := [(6, .int w0), (0, .ref (B0 + 97)), (1, .int v1), (2, .int v2), (3, .int v3), (5, .int v5)]) (by decide) rfl dX12_joined_117 ?_
  refine z_iconst C (v := 0) (by decide) dX12_joined_119 ?_
  refine z_istore C (lv' := [(7, .int (0 : Int32)), (6, .int w0), (0, .ref (B0 + 97)), (1, .int v1), (2, .int v2), (3, .int v3), (5, .int v5)]) (by decide) rfl dX12_joined_120 ?_
  refine z_lv [2, 3, 4, 5, 6, 1, 0] (lv' := [(0, .ref (B0 + 97)), (1, .int v1), (2, .int v2), (3, .int v3), (5, .int v5), (6, .int w0), (7, .int (0 : Int32))]) rfl ?_
  exact L_X12_joined_122 C L k36 hk36 k80 hk80 v1 v2 v3 v5 w0 (0 : Int32) I h
set_option maxHeartbeats 4000000 in
set_option maxRecDepth 100000 in
theorem l_X12_joined_116 {r : Int32 × zI} (C : zC p l e R s m args below meth c s0 a0 d cy B0 yX12_joined.cls cX12_joined 8 (some .int) bc bs bc bs 1 21 []) (L : zL) (k36 : Int32 → Int32 → Int32 → zI → Option (Int32 × zI)) (hk36 : ∀ (v1 : Int32) (v2 : Int32) (v3 : Int32) (I : zI), k36 v1 v2 v3 I = some r → zG p l e R s m args below meth c d cy B0 8 bc bs (zQ below s args d cy B0 bc bs (.inl (some (.int r.1))) zSH zKn bc bs r.2 L) 36 [(0, .ref (B0 + 97)), (1, .int v1), (2, .int v2), (3, .int v3)] [] zSH zKn bc bs I L) (k80 : Int32 → Int32 → Int32 → Int32 → Int32 → zI → Option (Int32 × zI)) (hk80 : ∀ (v1 : Int32) (v2 : Int32) (v3 : Int32) (v4 : Int32) (v5 : Int32) (I : zI), k80 v1 v2 v3 v4 v5 I = some r → zG p l e R s m args below meth c d cy B0 8 bc bs (zQ below s args d cy B0 bc bs (.inl (some (.int r.1))) zSH zKn bc bs r.2 L) 80 [(0, .ref (B0 + 97)), (1, .int v1), (2, .int v2), (3, .int v3), (4, .int v4), (5, .int v5)] [] zSH zKn bc bs I L) (v1 : Int32) (v2 : Int32) (v3 : Int32) (v5 : Int32) (I : zI) (h : f_X12_joined_116 k36 k80 v1 v2 v3 v5 I = some r) : zG p l e R s m args below meth c d cy B0 8 bc bs (zQ below s args d cy B0 bc bs (.inl (some (.int r.1))) zSH zKn bc bs r.2 L) 116 [(0, .ref (B0 + 97)), (1, .int v1), (2, .int v2), (3, .int v3), (5, .int v5)] [] zSH zKn bc bs I L := by
  unfold f_X12_joined_116 at h
  refine z_iconst C (v := 0) (by decide) dX12_joined_116 ?_
  exact l_X12_joined_117 C L k36 hk36 k80 hk80 v1 v2 v3 v5 (0 : Int32) I h
set_option maxHeartbeats 4000000 in
set_option maxRecDepth 100000 in
theorem l_X12_joined_214 {r : Int32 × zI} (C : zC p l e R s m args below meth c s0 a0 d cy B0 yX12_joined.cls cX12_joined 8 (some .int) bc bs bc bs 1 21 []) (L : zL) (k36 : Int32 → Int32 → Int32 → zI → Option (Int32 × zI)) (hk36 : ∀ (v1 : Int32) (v2 : Int32) (v3 : Int32) (I : zI), k36 v1 v2 v3 I = some r → zG p l e R s m args below meth c d cy B0 8 bc bs (zQ below s args d cy B0 bc bs (.inl (some (.int r.1))) zSH zKn bc bs r.2 L) 36 [(0, .ref (B0 + 97)), (1, .int v1), (2, .int v2), (3, .int v3)] [] zSH zKn bc bs I L) (v1 : Int32) (v3 : Int32) (w0 : Int32) (w1 : Int32) (I : zI) (h : f_X12_joined_214 k36 v1 v3 w0 w1 I = some r) : zG p l e R s m args below meth c d cy B0 8 bc bs (zQ below s args d cy B0 bc bs (.inl (some (.int r.1))) zSH zKn bc bs r.2 L) 214 [(0, .ref (B0 + 97)), (1, .int v1), (3, .int v3)] [.int w1, .int w0] zSH zKn bc bs I L := by
  unfold f_X12_joined_214 at h
  refine z_iadd C dX12_joined_214 ?_
  obtain ⟨x6, ex6, h⟩ := zlt_e h
  refine z_eqi C ex6 ?_
  refine z_istore_n C (lv' := [(2, .int x6), (0, .ref (B0 + 97)), (1, .int v1), (3, .int v3)]) rfl (by decide) rfl dX12_joined_215 ?_
  obtain ⟨x7, ex7, h⟩ := zlt_e h
  refine z_iinc C (j := 3) (v := x7) (lv' := [(3, .int x7), (2, .int x6), (0, .ref (B0 + 97)), (1, .int v1)]) rfl (by rw [ex7]; rfl) (by decide) rfl dX12_joined_216 ?_
  refine z_goto C 36 (by decide) dX12_joined_219 ?_
  refine z_lv [2, 3, 1, 0] (lv' := [(0, .ref (B0 + 97)), (1, .int v1), (2, .int x6), (3, .int x7)]) rfl ?_
  exact hk36 v1 x6 x7 I h
set_option maxHeartbeats 4000000 in
set_option maxRecDepth 100000 in
theorem l_X12_joined_203 {r : Int32 × zI} (C : zC p l e R s m args below meth c s0 a0 d cy B0 yX12_joined.cls cX12_joined 8 (some .int) bc bs bc bs 1 21 []) (L : zL) (k36 : Int32 → Int32 → Int32 → zI → Option (Int32 × zI)) (hk36 : ∀ (v1 : Int32) (v2 : Int32) (v3 : Int32) (I : zI), k36 v1 v2 v3 I = some r → zG p l e R s m args below meth c d cy B0 8 bc bs (zQ below s args d cy B0 bc bs (.inl (some (.int r.1))) zSH zKn bc bs r.2 L) 36 [(0, .ref (B0 + 97)), (1, .int v1), (2, .int v2), (3, .int v3)] [] zSH zKn bc bs I L) (v1 : Int32) (v2 : Int32) (v3 : Int32) (v4 : Int32) (I : zI) (h : f_X12_joined_203 k36 v1 v2 v3 v4 I = some r) : zG p l e R s m args below meth c d cy B0 8 bc bs (zQ below s args d cy B0 bc bs (.inl (some (.int r.1))) zSH zKn bc bs r.2 L) 203 [(0, .ref (B0 + 97)), (1, .int v1), (2, .int v2), (3, .int v3), (4, .int v4)] [] zSH zKn bc bs I L := by
  unfold f_X12_joined_203 at h
  refine z_iload_n C rfl 2 rfl dX12_joined_203 ?_
  refine z_iload C 4 rfl dX12_joined_204 ?_
  refine z_if_eq C 213 (by decide) dX12_joined_206 (fun hc => ?_) (fun hc => ?_)
  · have h := zif_t hc h
    refine z_iconst C (v := 0) (by decide) dX12_joined_213 ?_
    refine z_lv [0, 1, 3] (lv' := [(0, .ref (B0 + 97)), (1, .int v1), (3, .int v3)]) rfl ?_
    exact l_X12_joined_214 C L k36 hk36 v1 v3 v2 (0 : Int32) I h
  · have h := zif_f hc h
    refine z_iconst C (v := 1) (by decide) dX12_joined_209 ?_
    refine z_goto C 214 (by decide) dX12_joined_210 ?_
    refine z_lv [0, 1, 3] (lv' := [(0, .ref (B0 + 97)), (1, .int v1), (3, .int v3)]) rfl ?_
    exact l_X12_joined_214 C L k36 hk36 v1 v3 v2 (1 : Int32) I h
set_option maxHeartbeats 4000000 in
set_option maxRecDepth 100000 in
theorem l_X12_joined_80 {r : Int32 × zI} (C : zC p l e R s m args below meth c s0 a0 d cy B0 yX12_joined.cls cX12_joined 8 (some .int) bc bs bc bs 1 21 []) (L : zL) (k36 : Int32 → Int32 → Int32 → zI → Option (Int32 × zI)) (hk36 : ∀ (v1 : Int32) (v2 : Int32) (v3 : Int32) (I : zI), k36 v1 v2 v3 I = some r → zG p l e R s m args below meth c d cy B0 8 bc bs (zQ below s args d cy B0 bc bs (.inl (some (.int r.1))) zSH zKn bc bs r.2 L) 36 [(0, .ref (B0 + 97)), (1, .int v1), (2, .int v2), (3, .int v3)] [] zSH zKn bc bs I L) (k80 : Int32 → Int32 → Int32 → Int32 → Int32 → zI → Option (Int32 × zI)) (hk80 : ∀ (v1 : Int32) (v2 : Int32) (v3 : Int32) (v4 : Int32) (v5 : Int32) (I : zI), k80 v1 v2 v3 v4 v5 I = some r → zG p l e R s m args below meth c d cy B0 8 bc bs (zQ below s args d cy B0 bc bs (.inl (some (.int r.1))) zSH zKn bc bs r.2 L) 80 [(0, .ref (B0 + 97)), (1, .int v1), (2, .int v2), (3, .int v3), (4, .int v4), (5, .int v5)] [] zSH zKn bc bs I L) (v1 : Int32) (v2 : Int32) (v3 : Int32) (v4 : Int32) (v5 : Int32) (I : zI) (h : f_X12_joined_80 k36 k80 v1 v2 v3 v4 v5 I = some r) : zG p l e R s m args below meth c d cy B0 8 bc bs (zQ below s args d cy B0 bc bs (.inl (some (.int r.1))) zSH zKn bc bs r.2 L) 80 [(0, .ref (B0 + 97)), (1, .int v1), (2, .int v2), (3, .int v3), (4, .int v4), (5, .int v5)] [] zSH zKn bc bs I L := by
  unfold f_X12_joined_80 at h
  refine z_iload C 5 rfl dX12_joined_80 ?_
  refine z_iload_n C rfl 3 rfl dX12_joined_82 ?_
  refine z_icmp_ge C 203 (by decide) dX12_joined_83 (fun hc => ?_) (fun hc => ?_)
  · have h := zif_t hc h
    refine z_lv [0, 1, 2, 3, 4] (lv' := [(0, .ref (B0 + 97)), (1, .int v1), (2, .int v2), (3, .int v3), (4, .int v4)]) rfl ?_
    exact l_X12_joined_203 C L k36 hk36 v1 v2 v3 v4 I h
  · have h := zif_f hc h
    refine z_iload C 4 rfl dX12_joined_86 ?_
    refine z_if_eq C 203 (by decide) dX12_joined_88 (fun hc => ?_) (fun hc => ?_)
    · have h := zif_t hc h
      refine z_lv [0, 1, 2, 3, 4] (lv' := [(0, .ref (B0 + 97)), (1, .int v1), (2, .int v2), (3, .int v3), (4, .int v4)]) rfl ?_
      exact l_X12_joined_203 C L k36 hk36 v1 v2 v3 v4 I h
    · have h := zif_f hc h
      refine z_aload_n C rfl 0 rfl dX12_joined_91 ?_
      refine z_getr C zc_12 dX12_joined_92 40 97 124 rfl (by decide) (by decide) q_1209 rfl rfl ?_
      refine z_iload C 5 rfl dX12_joined_95 ?_
      obtain ⟨hb4, h⟩ := zck_e h
      refine z_iaload C dX12_joined_97 rfl rfl (by decide) (zbd_in hb4) ?_
      refine z_iload_n C rfl 1 rfl dX12_joined_98 ?_
      refine z_icmp_ne C 116 (by decide) dX12_joined_99 (fun hc => ?_) (fun hc => ?_)
      · have h := zif_f hc h
        refine z_lv [0, 1, 2, 3, 5] (lv' := [(0, .ref (B0 + 97)), (1, .int v1), (2, .int v2), (3, .int v3), (5, .int v5)]) rfl ?_
        exact l_X12_joined_116 C L k36 hk36 k80 hk80 v1 v2 v3 v5 I h
      · have h := zif_t hc h
        refine z_aload_n C rfl 0 rfl dX12_joined_102 ?_
        refine z_getr C zc_12 dX12_joined_103 43 97 127 rfl (by decide) (by decide) q_1212 rfl rfl ?_
        refine z_iload C 5 rfl dX12_joined_106 ?_
        obtain ⟨hb5, h⟩ := zck_e h
        refine z_zaload C dX12_joined_108 rfl rfl (by decide) (zbd_in hb5) ?_
        refine z_if_ne C 116 (by decide) dX12_joined_109 (fun hc => ?_) (fun hc => ?_)
        · have h := zif_f hc h
          refine z_lv [0, 1, 2, 3, 5] (lv' := [(0, .ref (B0 + 97)), (1, .int v1), (2, .int v2), (3, .int v3), (5, .int v5)]) rfl ?_
          exact l_X12_joined_116 C L k36 hk36 k80 hk80 v1 v2 v3 v5 I h
        · have h := zif_t hc h
          refine z_iconst C (v := 1) (by decide) dX12_joined_112 ?_
          refine z_goto C 117 (by decide) dX12_joined_113 ?_
          refine z_lv [0, 1, 2, 3, 5] (lv' := [(0, .ref (B0 + 97)), (1, .int v1), (2, .int v2), (3, .int v3), (5, .int v5)]) rfl ?_
          exact l_X12_joined_117 C L k36 hk36 k80 hk80 v1 v2 v3 v5 (1 : Int32) I h
set_option maxHeartbeats 4000000 in
set_option maxRecDepth 100000 in
theorem L_X12_joined_80 {r : Int32 × zI} (C : zC p l e R s m args below meth c s0 a0 d cy B0 yX12_joined.cls cX12_joined 8 (some .int) bc bs bc bs 1 21 []) (L : zL) (k36 : Int32 → Int32 → Int32 → zI → Option (Int32 × zI)) (hk36 : ∀ (v1 : Int32) (v2 : Int32) (v3 : Int32) (I : zI), k36 v1 v2 v3 I = some r → zG p l e R s m args below meth c d cy B0 8 bc bs (zQ below s args d cy B0 bc bs (.inl (some (.int r.1))) zSH zKn bc bs r.2 L) 36 [(0, .ref (B0 + 97)), (1, .int v1), (2, .int v2), (3, .int v3)] [] zSH zKn bc bs I L) (v1 : Int32) (v2 : Int32) (v3 : Int32) (v4 : Int32) (v5 : Int32) (I : zI) (h : zlp6 (f_X12_joined_80 k36) zF v1 v2 v3 v4 v5 I = some r) : zG p l e R s m args below meth c d cy B0 8 bc bs (zQ below s args d cy B0 bc bs (.inl (some (.int r.1))) zSH zKn bc bs r.2 L) 80 [(0, .ref (B0 + 97)), (1, .int v1), (2, .int v2), (3, .int v3), (4, .int v4), (5, .int v5)] [] zSH zKn bc bs I L :=
 zlp6_e (fun (v1 : Int32) (v2 : Int32) (v3 : Int32) (v4 : Int32) (v5 : Int32) (I : zI) => zG p l e R s m args below meth c d cy B0 8 bc bs (zQ below s args d cy B0 bc bs (.inl (some (.int r.1))) zSH zKn bc bs r.2 L) 80 [(0, .ref (B0 + 97)), (1, .int v1), (2, .int v2), (3, .int v3), (4, .int v4), (5, .int v5)] [] zSH zKn bc bs I L) (fun k9 hk9 v1 v2 v3 v4 v5 I h => l_X12_joined_80 C L k36 hk36 k9 hk9 v1 v2 v3 v4 v5 I h) zF v1 v2 v3 v4 v5 I h
set_option maxHeartbeats 4000000 in
set_option maxRecDepth 100000 in
theorem l_X12_joined_75 {r : Int32 × zI} (C : zC p l e R s m args below meth c s0 a0 d cy B0 yX12_joined.cls cX12_joined 8 (some .int) bc bs bc bs 1 21 []) (L : zL) (k36 : Int32 → Int32 → Int32 → zI → Option (Int32 × zI)) (hk36 : ∀ (v1 : Int32) (v2 : Int32) (v3 : Int32) (I : zI), k36 v1 v2 v3 I = some r → zG p l e R s m args below meth c d cy B0 8 bc bs (zQ below s args d cy B0 bc bs (.inl (some (.int r.1))) zSH zKn bc bs r.2 L) 36 [(0, .ref (B0 + 97)), (1, .int v1), (2, .int v2), (3, .int v3)] [] zSH zKn bc bs I L) (v1 : Int32) (v2 : Int32) (v3 : Int32) (w0 : Int32) (I : zI) (h : f_X12_joined_75 k36 v1 v2 v3 w0 I = some r) : zG p l e R s m args below meth c d cy B0 8 bc bs (zQ below s args d cy B0 bc bs (.inl (some (.int r.1))) zSH zKn bc bs r.2 L) 75 [(0, .ref (B0 + 97)), (1, .int v1), (2, .int v2), (3, .int v3)] [.int w0] zSH zKn bc bs I L := by
  unfold f_X12_joined_75 at h
  refine z_istore C (lv' := [(4, .int w0), (0, .ref (B0 + 97)), (1, .int v1), (2, .int v2), (3, .int v3)]) (by decide) rfl dX12_joined_75 ?_
  refine z_iconst C (v := 0) (by decide) dX12_joined_77 ?_
  refine z_istore C (lv' := [(5, .int (0 : Int32)), (4, .int w0), (0, .ref (B0 + 97)), (1, .int v1), (2, .int v2), (3, .int v3)]) (by decide) rfl dX12_joined_78 ?_
  refine z_lv [2, 3, 4, 5, 1, 0] (lv' := [(0, .ref (B0 + 97)), (1, .int v1), (2, .int v2), (3, .int v3), (4, .int w0), (5, .int (0 : Int32))]) rfl ?_
  exact L_X12_joined_80 C L k36 hk36 v1 v2 v3 w0 (0 : Int32) I h
set_option maxHeartbeats 4000000 in
set_option maxRecDepth 100000 in
theorem l_X12_joined_74 {r : Int32 × zI} (C : zC p l e R s m args below meth c s0 a0 d cy B0 yX12_joined.cls cX12_joined 8 (some .int) bc bs bc bs 1 21 []) (L : zL) (k36 : Int32 → Int32 → Int32 → zI → Option (Int32 × zI)) (hk36 : ∀ (v1 : Int32) (v2 : Int32) (v3 : Int32) (I : zI), k36 v1 v2 v3 I = some r → zG p l e R s m args below meth c d cy B0 8 bc bs (zQ below s args d cy B0 bc bs (.inl (some (.int r.1))) zSH zKn bc bs r.2 L) 36 [(0, .ref (B0 + 97)), (1, .int v1), (2, .int v2), (3, .int v3)] [] zSH zKn bc bs I L) (v1 : Int32) (v2 : Int32) (v3 : Int32) (I : zI) (h : f_X12_joined_74 k36 v1 v2 v3 I = some r) : zG p l e R s m args below meth c d cy B0 8 bc bs (zQ below s args d cy B0 bc bs (.inl (some (.int r.1))) zSH zKn bc bs r.2 L) 74 [(0, .ref (B0 + 97)), (1, .int v1), (2, .int v2), (3, .int v3)] [] zSH zKn bc bs I L := by
  unfold f_X12_joined_74 at h
  refine z_iconst C (v := 0) (by decide) dX12_joined_74 ?_
  exact l_X12_joined_75 C L k36 hk36 v1 v2 v3 (0 : Int32) I h
set_option maxHeartbeats 4000000 in
set_option maxRecDepth 100000 in
theorem l_X12_joined_222 {r : Int32 × zI} (C : zC p l e R s m args below meth c s0 a0 d cy B0 yX12_joined.cls cX12_joined 8 (some .int) bc bs bc bs 1 21 []) (L : zL) (v2 : Int32) (I : zI) (h : f_X12_joined_222 v2 I = some r) : zG p l e R s m args below meth c d cy B0 8 bc bs (zQ below s args d cy B0 bc bs (.inl (some (.int r.1))) zSH zKn bc bs r.2 L) 222 [(2, .int v2)] [] zSH zKn bc bs I L := by
  unfold f_X12_joined_222 at h
  refine z_iload_n C rfl 0 rfl dX12_joined_222 ?_
  obtain rfl := Option.some.inj h
  exact z_iret C dX12_joined_223 .int rfl rfl rfl
set_option maxHeartbeats 4000000 in
set_option maxRecDepth 100000 in
theorem l_X12_joined_36 {r : Int32 × zI} (C : zC p l e R s m args below meth c s0 a0 d cy B0 yX12_joined.cls cX12_joined 8 (some .int) bc bs bc bs 1 21 []) (L : zL) (k36 : Int32 → Int32 → Int32 → zI → Option (Int32 × zI)) (hk36 : ∀ (v1 : Int32) (v2 : Int32) (v3 : Int32) (I : zI), k36 v1 v2 v3 I = some r → zG p l e R s m args below meth c d cy B0 8 bc bs (zQ below s args d cy B0 bc bs (.inl (some (.int r.1))) zSH zKn bc bs r.2 L) 36 [(0, .ref (B0 + 97)), (1, .int v1), (2, .int v2), (3, .int v3)] [] zSH zKn bc bs I L) (v1 : Int32) (v2 : Int32) (v3 : Int32) (I : zI) (h : f_X12_joined_36 k36 v1 v2 v3 I = some r) : zG p l e R s m args below meth c d cy B0 8 bc bs (zQ below s args d cy B0 bc bs (.inl (some (.int r.1))) zSH zKn bc bs r.2 L) 36 [(0, .ref (B0 + 97)), (1, .int v1), (2, .int v2), (3, .int v3)] [] zSH zKn bc bs I L := by
  unfold f_X12_joined_36 at h
  refine z_iload_n C rfl 3 rfl dX12_joined_36 ?_
  refine z_aload_n C rfl 0 rfl dX12_joined_37 ?_
  refine z_geti C zc_12 dX12_joined_38 39 97 rfl (by decide) (by decide) q_1208 rfl ?_
  refine z_icmp_ge C 222 (by decide) dX12_joined_41 (fun hc => ?_) (fun hc => ?_)
  · have h := zif_t hc h
    refine z_lv [2] (lv' := [(2, .int v2)]) rfl ?_
    exact l_X12_joined_222 C L v2 I h
  · have h := zif_f hc h
    refine z_aload_n C rfl 0 rfl dX12_joined_44 ?_
    refine z_geti C zc_12 dX12_joined_45 0 97 rfl (by decide) (by decide) q_1169 rfl ?_
    refine z_if_ne C 222 (by decide) dX12_joined_48 (fun hc => ?_) (fun hc => ?_)
    · have h := zif_f hc h
      refine z_lv [2] (lv' := [(2, .int v2)]) rfl ?_
      exact l_X12_joined_222 C L v2 I h
    · have h := zif_t hc h
      refine z_aload_n C rfl 0 rfl dX12_joined_51 ?_
      refine z_getr C zc_12 dX12_joined_52 40 97 124 rfl (by decide) (by decide) q_1209 rfl rfl ?_
      refine z_iload_n C rfl 3 rfl dX12_joined_55 ?_
      obtain ⟨hb2, h⟩ := zck_e h
      refine z_iaload C dX12_joined_56 rfl rfl (by decide) (zbd_in hb2) ?_
      refine z_iload_n C rfl 1 rfl dX12_joined_57 ?_
      refine z_icmp_ne C 74 (by decide) dX12_joined_58 (fun hc => ?_) (fun hc => ?_)
      · have h := zif_f hc h
        exact l_X12_joined_74 C L k36 hk36 v1 v2 v3 I h
      · have h := zif_t hc h
        refine z_aload_n C rfl 0 rfl dX12_joined_61 ?_
        refine z_getr C zc_12 dX12_joined_62 43 97 127 rfl (by decide) (by decide) q_1212 rfl rfl ?_
        refine z_iload_n C rfl 3 rfl dX12_joined_65 ?_
        obtain ⟨hb3, h⟩ := zck_e h
        refine z_zaload C dX12_joined_66 rfl rfl (by decide) (zbd_in hb3) ?_
        refine z_if_ne C 74 (by decide) dX12_joined_67 (fun hc => ?_) (fun hc => ?_)
        · have h := zif_f hc h
          exact l_X12_joined_74 C L k36 hk36 v1 v2 v3 I h
        · have h := zif_t hc h
          refine z_iconst C (v := 1) (by decide) dX12_joined_70 ?_
          refine z_goto C 75 (by decide) dX12_joined_71 ?_
          exact l_X12_joined_75 C L k36 hk36 v1 v2 v3 (1 : Int32) I h
set_option maxHeartbeats 4000000 in
set_option maxRecDepth 100000 in
theorem L_X12_joined_36 {r : Int32 × zI} (C : zC p l e R s m args below meth c s0 a0 d cy B0 yX12_joined.cls cX12_joined 8 (some .int) bc bs bc bs 1 21 []) (L : zL) (v1 : Int32) (v2 : Int32) (v3 : Int32) (I : zI) (h : zlp4 (f_X12_joined_36) zF v1 v2 v3 I = some r) : zG p l e R s m args below meth c d cy B0 8 bc bs (zQ below s args d cy B0 bc bs (.inl (some (.int r.1))) zSH zKn bc bs r.2 L) 36 [(0, .ref (B0 + 97)), (1, .int v1), (2, .int v2), (3, .int v3)] [] zSH zKn bc bs I L :=
 zlp4_e (fun (v1 : Int32) (v2 : Int32) (v3 : Int32) (I : zI) => zG p l e R s m args below meth c d cy B0 8 bc bs (zQ below s args d cy B0 bc bs (.inl (some (.int r.1))) zSH zKn bc bs r.2 L) 36 [(0, .ref (B0 + 97)), (1, .int v1), (2, .int v2), (3, .int v3)] [] zSH zKn bc bs I L) (fun k9 hk9 v1 v2 v3 I h => l_X12_joined_36 C L k9 hk9 v1 v2 v3 I h) zF v1 v2 v3 I h
set_option maxHeartbeats 4000000 in
set_option maxRecDepth 100000 in
theorem l_X12_joined_29 {r : Int32 × zI} (C : zC p l e R s m args below meth c s0 a0 d cy B0 yX12_joined.cls cX12_joined 8 (some .int) bc bs bc bs 1 21 []) (L : zL) (v1 : Int32) (w1 : Int32) (I : zI) (h : f_X12_joined_29 v1 w1 I = some r) : zG p l e R s m args below meth c d cy B0 8 bc bs (zQ below s args d cy B0 bc bs (.inl (some (.int r.1))) zSH zKn bc bs r.2 L) 29 [(0, .ref (B0 + 97)), (1, .int v1)] [.int w1, .ref (B0 + 97)] zSH zKn bc bs I L := by
  unfold f_X12_joined_29 at h
  refine z_puti C zc_12 dX12_joined_29 0 97 rfl (by decide) (by decide) rfl q_1169 rfl rfl rfl ?_
  obtain ⟨I1, eI1, h⟩ := zlt_e h
  refine z_eqI C eI1 ?_
  refine z_iconst C (v := 0) (by decide) dX12_joined_32 ?_
  refine z_istore_n C (lv' := [(2, .int (0 : Int32)), (0, .ref (B0 + 97)), (1, .int v1)]) rfl (by decide) rfl dX12_joined_33 ?_
  refine z_iconst C (v := 0) (by decide) dX12_joined_34 ?_
  refine z_istore_n C (lv' := [(3, .int (0 : Int32)), (2, .int (0 : Int32)), (0, .ref (B0 + 97)), (1, .int v1)]) rfl (by decide) rfl dX12_joined_35 ?_
  refine z_lv [2, 3, 1, 0] (lv' := [(0, .ref (B0 + 97)), (1, .int v1), (2, .int (0 : Int32)), (3, .int (0 : Int32))]) rfl ?_
  exact L_X12_joined_36 C L v1 (0 : Int32) (0 : Int32) I1 h
set_option maxHeartbeats 4000000 in
set_option maxRecDepth 100000 in
theorem l_X12_joined_24 {r : Int32 × zI} (C : zC p l e R s m args below meth c s0 a0 d cy B0 yX12_joined.cls cX12_joined 8 (some .int) bc bs bc bs 1 21 []) (L : zL) (v1 : Int32) (I : zI) (h : f_X12_joined_24 v1 I = some r) : zG p l e R s m args below meth c d cy B0 8 bc bs (zQ below s args d cy B0 bc bs (.inl (some (.int r.1))) zSH zKn bc bs r.2 L) 24 [(0, .ref (B0 + 97)), (1, .int v1)] [.ref (B0 + 97)] zSH zKn bc bs I L := by
  unfold f_X12_joined_24 at h
  refine z_iconst C (v := 2) (by decide) dX12_joined_24 ?_
  refine z_goto C 29 (by decide) dX12_joined_25 ?_
  exact l_X12_joined_29 C L v1 (2 : Int32) I h
set_option maxHeartbeats 4000000 in
set_option maxRecDepth 100000 in
theorem c_X12_joined {r : Int32 × zI} (hE : zE0 l s0 a0 d cy B0) (a1 : Int32) (I : zI) (L : zL) (h : f_X12_joined a1 I = some r) : zM l s0 d cy B0 yX12_joined cX12_joined 8 (some .int) 1 21 [.ref (B0 + 97), .int a1] zSH zKn bc bs I L (.inl (some (.int r.1))) zSH zKn bc bs r.2 L := by
  refine z_meth yy_X12_joined hE (Nat.le_of_ble_eq_true rfl) (fun p e R s m args below meth c C => ?_)
  show zG p l e R s m args below meth c d cy B0 8 bc bs (zQ below s args d cy B0 bc bs (.inl (some (.int r.1))) zSH zKn bc bs r.2 L) 0 [(0, .ref (B0 + 97)), (1, .int a1)] [] zSH zKn bc bs I L
  unfold f_X12_joined at h
  refine z_aload_n C rfl 0 rfl dX12_joined_0 ?_
  refine z_aload_n C rfl 0 rfl dX12_joined_1 ?_
  refine z_geti C zc_12 dX12_joined_2 30 97 rfl (by decide) (by decide) q_1199 rfl ?_
  refine z_if_ne C 12 (by decide) dX12_joined_5 (fun hc => ?_) (fun hc => ?_)
  · have h := zif_f hc h
    refine z_iload_n C rfl 1 rfl dX12_joined_12 ?_
    refine z_if_lt C 24 (by decide) dX12_joined_13 (fun hc => ?_) (fun hc => ?_)
    · have h := zif_t hc h
      exact l_X12_joined_24 C L a1 I h
    · have h := zif_f hc h
      refine z_iload_n C rfl 1 rfl dX12_joined_16 ?_
      refine z_aload_n C rfl 0 rfl dX12_joined_17 ?_
      refine z_geti C zc_12 dX12_joined_18 15 97 rfl (by decide) (by decide) q_1184 rfl ?_
      refine z_icmp_lt C 28 (by decide) dX12_joined_21 (fun hc => ?_) (fun hc => ?_)
      · have h := zif_t hc h
        refine z_iconst C (v := 0) (by decide) dX12_joined_28 ?_
        exact l_X12_joined_29 C L a1 (0 : Int32) I h
      · have h := zif_f hc h
        exact l_X12_joined_24 C L a1 I h
  · have h := zif_t hc h
    refine z_iconst C (v := 1) (by decide) dX12_joined_8 ?_
    refine z_goto C 29 (by decide) dX12_joined_9 ?_
    exact l_X12_joined_29 C L a1 (1 : Int32) I h
theorem q_1552 : (Cond.code ({ cls := "DeviceFindModel", name := "count", desc := "(I)I" } : Jvm.MethodName) prog_14_method_54_code (2 : Nat) (Option.some Jvm.ClassFile.FieldType.int)) ∈ lw_tbl := List.mem_of_getElem? (i := 1552) (by decide +kernel)
theorem yy_X12_count : zY yX12_count cX12_count 2 (some .int) 1 := ⟨q_1552, q_88, by decide +kernel, by decide +kernel, by decide +kernel⟩
noncomputable def f_X12_count_111 (w0 : Int32) (I : zI) : Option (Int32 × zI) :=
  some (w0, I)
noncomputable def f_X12_count_127 (w0 : Int32) (I : zI) : Option (Int32 × zI) :=
  some (w0, I)
noncomputable def f_X12_count_16 (v1 : Int32) (w1 : Int32) (I : zI) : Option (Int32 × zI) :=
  zlt (zu I 97 0 w1) (fun I1 => if (I1 97 0) ≤ 0 then (if v1 = (0 : Int32) then (zlt (I1 97 12) (fun x2 => some (x2, I1))) else (if v1 = (1 : Int32) then (zlt (I1 97 13) (fun x3 => some (x3, I1))) else (if v1 = (2 : Int32) then (zlt (I1 97 14) (fun x4 => some (x4, I1))) else (if v1 = (3 : Int32) then (zlt (I1 97 15) (fun x5 => some (x5, I1))) else (if v1 = (4 : Int32) then (if (I1 97 30) = 0 then (f_X12_count_111 (0 : Int32) I1) else (f_X12_count_111 (I1 97 39) I1)) else (if v1 = (5 : Int32) then (if (I1 97 30) = 0 then (f_X12_count_127 (0 : Int32) I1) else (f_X12_count_127 (I1 97 38) I1)) else (if v1 = (6 : Int32) then (zlt (I1 97 2) (fun x6 => some (x6, I1))) else (if v1 = (7 : Int32) then (zlt (I1 97 7) (fun x7 => some (x7, I1))) else (zlt (I1 97 29) (fun x8 => some (x8, I1))))))))))) else (some ((0 : Int32), I1)))
noncomputable def f_X12_count_11 (v1 : Int32) (I : zI) : Option (Int32 × zI) :=
  f_X12_count_16 v1 (1 : Int32) I
noncomputable def f_X12_count (a1 : Int32) (I : zI) : Option (Int32 × zI) :=
  if a1 < 0 then (f_X12_count_11 a1 I) else (if a1 ≤ (8 : Int32) then (f_X12_count_16 a1 (0 : Int32) I) else (f_X12_count_11 a1 I))
set_option maxHeartbeats 4000000 in
set_option maxRecDepth 100000 in
theorem l_X12_count_111 {r : Int32 × zI} (C : zC p l e R s m args below meth c s0 a0 d cy B0 yX12_count.cls cX12_count 2 (some .int) bc bs bc bs 0 0 []) (L : zL) (w0 : Int32) (I : zI) (h : f_X12_count_111 w0 I = some r) : zG p l e R s m args below meth c d cy B0 2 bc bs (zQ below s args d cy B0 bc bs (.inl (some (.int r.1))) zSH zKn bc bs r.2 L) 111 [] [.int w0] zSH zKn bc bs I L := by
  unfold f_X12_count_111 at h
  obtain rfl := Option.some.inj h
  exact z_iret C dX12_count_111 .int rfl rfl rfl
set_option maxHeartbeats 4000000 in
set_option maxRecDepth 100000 in
theorem l_X12_count_127 {r : Int32 × zI} (C : zC p l e R s m args below meth c s0 a0 d cy B0 yX12_count.cls cX12_count 2 (some .int) bc bs bc bs 0 0 []) (L : zL) (w0 : Int32) (I : zI) (h : f_X12_count_127 w0 I = some r) : zG p l e R s m args below meth c d cy B0 2 bc bs (zQ below s args d cy B0 bc bs (.inl (some (.int r.1))) zSH zKn bc bs r.2 L) 127 [] [.int w0] zSH zKn bc bs I L := by
  unfold f_X12_count_127 at h
  obtain rfl := Option.some.inj h
  exact z_iret C dX12_count_127 .int rfl rfl rfl
set_option maxHeartbeats 4000000 in
set_option maxRecDepth 100000 in
theorem l_X12_count_16 {r : Int32 × zI} (C : zC p l e R s m args below meth c s0 a0 d cy B0 yX12_count.cls cX12_count 2 (some .int) bc bs bc bs 0 0 []) (L : zL) (v1 : Int32) (w1 : Int32) (I : zI) (h : f_X12_count_16 v1 w1 I = some r) : zG p l e R s m args below meth c d cy B0 2 bc bs (zQ below s args d cy B0 bc bs (.inl (some (.int r.1))) zSH zKn bc bs r.2 L) 16 [(0, .ref (B0 + 97)), (1, .int v1)] [.int w1, .ref (B0 + 97)] zSH zKn bc bs I L := by
  unfold f_X12_count_16 at h
  refine z_puti C zc_12 dX12_count_16 0 97 rfl (by decide) (by decide) rfl q_1169 rfl rfl rfl ?_
  obtain ⟨I1, eI1, h⟩ := zlt_e h
  refine z_eqI C eI1 ?_
  refine z_aload_n C rfl 0 rfl dX12_count_19 ?_
  refine z_geti C zc_12 dX12_count_20 0 97 rfl (by decide) (by decide) q_1169 rfl ?_
  refine z_if_le C 28 (by decide) dX12_count_23 (fun hc => ?_) (fun hc => ?_)
  · have h := zif_t hc h
    refine z_iload_n C rfl 1 rfl dX12_count_28 ?_
    by_cases hc0 : v1 = (0 : Int32)
    · have h := zif_t hc0 h
      refine z_tableIn C 76 (by rw [hc0]; decide) (by rw [hc0]; decide) (by rw [hc0]; rfl) (by decide) dX12_count_29 ?_
      refine z_aload_n C rfl 0 rfl dX12_count_76 ?_
      refine z_geti C zc_12 dX12_count_77 12 97 rfl (by decide) (by decide) q_1181 rfl ?_
      obtain ⟨x2, ex2, h⟩ := zlt_e h
      refine z_eqi C ex2 ?_
      obtain rfl := Option.some.inj h
      exact z_iret C dX12_count_80 .int rfl rfl rfl
    · have h := zif_f hc0 h
      by_cases hc1 : v1 = (1 : Int32)
      · have h := zif_t hc1 h
        refine z_tableIn C 81 (by rw [hc1]; decide) (by rw [hc1]; decide) (by rw [hc1]; rfl) (by decide) dX12_count_29 ?_
        refine z_aload_n C rfl 0 rfl dX12_count_81 ?_
        refine z_geti C zc_12 dX12_count_82 13 97 rfl (by decide) (by decide) q_1182 rfl ?_
        obtain ⟨x3, ex3, h⟩ := zlt_e h
        refine z_eqi C ex3 ?_
        obtain rfl := Option.some.inj h
        exact z_iret C dX12_count_85 .int rfl rfl rfl
      · have h := zif_f hc1 h
        by_cases hc2 : v1 = (2 : Int32)
        · have h := zif_t hc2 h
          refine z_tableIn C 86 (by rw [hc2]; decide) (by rw [hc2]; decide) (by rw [hc2]; rfl) (by decide) dX12_count_29 ?_
          refine z_aload_n C rfl 0 rfl dX12_count_86 ?_
          refine z_geti C zc_12 dX12_count_87 14 97 rfl (by decide) (by decide) q_1183 rfl ?_
          obtain ⟨x4, ex4, h⟩ := zlt_e h
          refine z_eqi C ex4 ?_
          obtain rfl := Option.some.inj h
          exact z_iret C dX12_count_90 .int rfl rfl rfl
        · have h := zif_f hc2 h
          by_cases hc3 : v1 = (3 : Int32)
          · have h := zif_t hc3 h
            refine z_tableIn C 91 (by rw [hc3]; decide) (by rw [hc3]; decide) (by rw [hc3]; rfl) (by decide) dX12_count_29 ?_
            refine z_aload_n C rfl 0 rfl dX12_count_91 ?_
            refine z_geti C zc_12 dX12_count_92 15 97 rfl (by decide) (by decide) q_1184 rfl ?_
            obtain ⟨x5, ex5, h⟩ := zlt_e h
            refine z_eqi C ex5 ?_
            obtain rfl := Option.some.inj h
            exact z_iret C dX12_count_95 .int rfl rfl rfl
          · have h := zif_f hc3 h
            by_cases hc4 : v1 = (4 : Int32)
            · have h := zif_t hc4 h
              refine z_tableIn C 96 (by rw [hc4]; decide) (by rw [hc4]; decide) (by rw [hc4]; rfl) (by decide) dX12_count_29 ?_
              refine z_aload_n C rfl 0 rfl dX12_count_96 ?_
              refine z_geti C zc_12 dX12_count_97 30 97 rfl (by decide) (by decide) q_1199 rfl ?_
              refine z_if_eq C 110 (by decide) dX12_count_100 (fun hc => ?_) (fun hc => ?_)
              · have h := zif_t hc h
                refine z_iconst C (v := 0) (by decide) dX12_count_110 ?_
                refine z_lv [] (lv' := []) rfl ?_
                exact l_X12_count_111 C L (0 : Int32) I1 h
              · have h := zif_f hc h
                refine z_aload_n C rfl 0 rfl dX12_count_103 ?_
                refine z_geti C zc_12 dX12_count_104 39 97 rfl (by decide) (by decide) q_1208 rfl ?_
                refine z_goto C 111 (by decide) dX12_count_107 ?_
                refine z_lv [] (lv' := []) rfl ?_
                exact l_X12_count_111 C L (I1 97 39) I1 h
            · have h := zif_f hc4 h
              by_cases hc5 : v1 = (5 : Int32)
              · have h := zif_t hc5 h
                refine z_tableIn C 112 (by rw [hc5]; decide) (by rw [hc5]; decide) (by rw [hc5]; rfl) (by decide) dX12_count_29 ?_
                refine z_aload_n C rfl 0 rfl dX12_count_112 ?_
                refine z_geti C zc_12 dX12_count_113 30 97 rfl (by decide) (by decide) q_1199 rfl ?_
                refine z_if_eq C 126 (by decide) dX12_count_116 (fun hc => ?_) (fun hc => ?_)
                · have h := zif_t hc h
                  refine z_iconst C (v := 0) (by decide) dX12_count_126 ?_
                  refine z_lv [] (lv' := []) rfl ?_
                  exact l_X12_count_127 C L (0 : Int32) I1 h
                · have h := zif_f hc h
                  refine z_aload_n C rfl 0 rfl dX12_count_119 ?_
                  refine z_geti C zc_12 dX12_count_120 38 97 rfl (by decide) (by decide) q_1207 rfl ?_
                  refine z_goto C 127 (by decide) dX12_count_123 ?_
                  refine z_lv [] (lv' := []) rfl ?_
                  exact l_X12_count_127 C L (I1 97 38) I1 h
              · have h := zif_f hc5 h
                by_cases hc6 : v1 = (6 : Int32)
                · have h := zif_t hc6 h
                  refine z_tableIn C 128 (by rw [hc6]; decide) (by rw [hc6]; decide) (by rw [hc6]; rfl) (by decide) dX12_count_29 ?_
                  refine z_aload_n C rfl 0 rfl dX12_count_128 ?_
                  refine z_geti C zc_12 dX12_count_129 2 97 rfl (by decide) (by decide) q_1171 rfl ?_
                  obtain ⟨x6, ex6, h⟩ := zlt_e h
                  refine z_eqi C ex6 ?_
                  obtain rfl := Option.some.inj h
                  exact z_iret C dX12_count_132 .int rfl rfl rfl
                · have h := zif_f hc6 h
                  by_cases hc7 : v1 = (7 : Int32)
                  · have h := zif_t hc7 h
                    refine z_tableIn C 133 (by rw [hc7]; decide) (by rw [hc7]; decide) (by rw [hc7]; rfl) (by decide) dX12_count_29 ?_
                    refine z_aload_n C rfl 0 rfl dX12_count_133 ?_
                    refine z_geti C zc_12 dX12_count_134 7 97 rfl (by decide) (by decide) q_1176 rfl ?_
                    obtain ⟨x7, ex7, h⟩ := zlt_e h
                    refine z_eqi C ex7 ?_
                    obtain rfl := Option.some.inj h
                    exact z_iret C dX12_count_137 .int rfl rfl rfl
                  · have h := zif_f hc7 h
                    refine z_tableOut C 138 (z_sw (n := 8) (by decide) (fun k hk => by match k, hk with | 0, _ => exact hc0 | 1, _ => exact hc1 | 2, _ => exact hc2 | 3, _ => exact hc3 | 4, _ => exact hc4 | 5, _ => exact hc5 | 6, _ => exact hc6 | 7, _ => exact hc7)) (by decide) dX12_count_29 ?_
                    refine z_aload_n C rfl 0 rfl dX12_count_138 ?_
                    refine z_geti C zc_12 dX12_count_139 29 97 rfl (by decide) (by decide) q_1198 rfl ?_
                    obtain ⟨x8, ex8, h⟩ := zlt_e h
                    refine z_eqi C ex8 ?_
                    obtain rfl := Option.some.inj h
                    exact z_iret C dX12_count_142 .int rfl rfl rfl
  · have h := zif_f hc h
    refine z_iconst C (v := 0) (by decide) dX12_count_26 ?_
    obtain rfl := Option.some.inj h
    exact z_iret C dX12_count_27 .int rfl rfl rfl
set_option maxHeartbeats 4000000 in
set_option maxRecDepth 100000 in
theorem l_X12_count_11 {r : Int32 × zI} (C : zC p l e R s m args below meth c s0 a0 d cy B0 yX12_count.cls cX12_count 2 (some .int) bc bs bc bs 0 0 []) (L : zL) (v1 : Int32) (I : zI) (h : f_X12_count_11 v1 I = some r) : zG p l e R s m args below meth c d cy B0 2 bc bs (zQ below s args d cy B0 bc bs (.inl (some (.int r.1))) zSH zKn bc bs r.2 L) 11 [(0, .ref (B0 + 97)), (1, .int v1)] [.ref (B0 + 97)] zSH zKn bc bs I L := by
  unfold f_X12_count_11 at h
  refine z_iconst C (v := 1) (by decide) dX12_count_11 ?_
  refine z_goto C 16 (by decide) dX12_count_12 ?_
  exact l_X12_count_16 C L v1 (1 : Int32) I h
set_option maxHeartbeats 4000000 in
set_option maxRecDepth 100000 in
theorem c_X12_count {r : Int32 × zI} (hE : zE0 l s0 a0 d cy B0) (a1 : Int32) (I : zI) (L : zL) (h : f_X12_count a1 I = some r) : zM l s0 d cy B0 yX12_count cX12_count 2 (some .int) 0 0 [.ref (B0 + 97), .int a1] zSH zKn bc bs I L (.inl (some (.int r.1))) zSH zKn bc bs r.2 L := by
  refine z_meth yy_X12_count hE (Nat.le_of_ble_eq_true rfl) (fun p e R s m args below meth c C => ?_)
  show zG p l e R s m args below meth c d cy B0 2 bc bs (zQ below s args d cy B0 bc bs (.inl (some (.int r.1))) zSH zKn bc bs r.2 L) 0 [(0, .ref (B0 + 97)), (1, .int a1)] [] zSH zKn bc bs I L
  unfold f_X12_count at h
  refine z_aload_n C rfl 0 rfl dX12_count_0 ?_
  refine z_iload_n C rfl 1 rfl dX12_count_1 ?_
  refine z_if_lt C 11 (by decide) dX12_count_2 (fun hc => ?_) (fun hc => ?_)
  · have h := zif_t hc h
    exact l_X12_count_11 C L a1 I h
  · have h := zif_f hc h
    refine z_iload_n C rfl 1 rfl dX12_count_5 ?_
    refine z_bipush C (v := 8) (by decide) dX12_count_6 ?_
    refine z_icmp_le C 15 (by decide) dX12_count_8 (fun hc => ?_) (fun hc => ?_)
    · have h := zif_t hc h
      refine z_iconst C (v := 0) (by decide) dX12_count_15 ?_
      exact l_X12_count_16 C L a1 (0 : Int32) I h
    · have h := zif_f hc h
      exact l_X12_count_11 C L a1 I h
end Zp05_22_walk
