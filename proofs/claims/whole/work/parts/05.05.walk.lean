section Zp05_05_walk
variable {p : Program} {l : Launch} {e : Env} {R : Room} {s : State} {m : MethodId} {args : Array Value} {below : List Frame} {meth : Method} {c : Code} {s0 : State} {a0 : Array Value} {d : va_G} {cy : Nat → ClassId} {B0 : Nat} {bc bs : Nat}
theorem q_22 : Cond.selects "DeviceFind$Drawing" ⟨"DeviceFind$Drawing", "isOpen", "(I)Z"⟩ ⟨"DeviceFind$Drawing", "isOpen", "(I)Z"⟩ ∈ lw_tbl := List.mem_of_getElem? (i := 22) (by decide +kernel)
theorem q_23 : Cond.selects "DeviceFind$Drawing" ⟨"DeviceFind$Drawing", "meetSide", "(II)V"⟩ ⟨"DeviceFind$Drawing", "meetSide", "(II)V"⟩ ∈ lw_tbl := List.mem_of_getElem? (i := 23) (by decide +kernel)
theorem q_881 : (Cond.static ({ cls := "java/util/Arrays", name := "fill", desc := "([JJ)V" } : Jvm.MethodName)) ∈ lw_tbl := List.mem_of_getElem? (i := 881) (by decide +kernel)
theorem q_886 : (Cond.code ({ cls := "DeviceFind$Drawing", name := "fill", desc := "(I)V" } : Jvm.MethodName) prog_3_method_4_code (5 : Nat) (Option.none : Option Jvm.ClassFile.FieldType)) ∈ lw_tbl := List.mem_of_getElem? (i := 886) (by decide +kernel)
theorem q_887 : (Cond.methodLink "DeviceFind$Drawing" (36 : Nat) ({ cls := "java/util/Arrays", name := "fill", desc := "([JJ)V" } : Jvm.MethodName)) ∈ lw_tbl := List.mem_of_getElem? (i := 887) (by decide +kernel)
theorem q_888 : (Cond.methodLink "DeviceFind$Drawing" (42 : Nat) ({ cls := "DeviceFind$Drawing", name := "isOpen", desc := "(I)Z" } : Jvm.MethodName)) ∈ lw_tbl := List.mem_of_getElem? (i := 888) (by decide +kernel)
theorem q_890 : (Cond.instanceMethod ({ cls := "DeviceFind$Drawing", name := "isOpen", desc := "(I)Z" } : Jvm.MethodName)) ∈ lw_tbl := List.mem_of_getElem? (i := 890) (by decide +kernel)
theorem q_892 : (Cond.methodLink "DeviceFind$Drawing" (46 : Nat) ({ cls := "DeviceFind$Drawing", name := "meetSide", desc := "(II)V" } : Jvm.MethodName)) ∈ lw_tbl := List.mem_of_getElem? (i := 892) (by decide +kernel)
theorem q_894 : (Cond.instanceMethod ({ cls := "DeviceFind$Drawing", name := "meetSide", desc := "(II)V" } : Jvm.MethodName)) ∈ lw_tbl := List.mem_of_getElem? (i := 894) (by decide +kernel)
theorem yy_X1_fill : zY yX1_fill cX1_fill 5 none 1 := ⟨q_886, q_81, by decide +kernel, by decide +kernel, by decide +kernel⟩
noncomputable def f_X1_fill_36 (k36 : Int32 → Int32 → Int32 → Int32 → zI → zL → Option zL) (v1 : Int32) (v2 : Int32) (v3 : Int32) (v4 : Int32) (I : zI) (L : zL) : Option zL :=
  zck (zbd v1 60) (if (I 22 v1.toNatClampNeg) ≤ v4 then (some L) else (zb1 (f_X1_meetSide v3 (v2 + v4) I L) (fun L11 => zlt (v2 + v4) (fun x12 => zlt (v4 + 1) (fun x13 => k36 v1 v2 x12 x13 I L11)))))
noncomputable def f_X1_fill (a1 : Int32) (I : zI) (L : zL) : Option zL :=
  zb1 (f_J7_fill_d0a16 25 (0 : Int64) L) (fun L2 => zb1 (f_X1_isOpen a1 I) (fun x4 => if x4 = 0 then (zlt (a1 * (16 : Int32)) (fun x5 => zck (zbd a1 60) (zlt (x5 + (I 22 a1.toNatClampNeg)) (fun x7 => zlt (x7 - (1 : Int32)) (fun x8 => zlp6 (f_X1_fill_36) zF a1 x5 x8 (0 : Int32) I L2))))) else (some L2)))
set_option maxHeartbeats 4000000 in
set_option maxRecDepth 100000 in
theorem l_X1_fill_36 {r : zL} (C : zC p l e R s m args below meth c s0 a0 d cy B0 yX1_fill.cls cX1_fill 5 none bc bs bc bs 2 66 []) (k36 : Int32 → Int32 → Int32 → Int32 → zI → zL → Option zL) (hk36 : ∀ (v1 : Int32) (v2 : Int32) (v3 : Int32) (v4 : Int32) (I : zI) (L : zL), k36 v1 v2 v3 v4 I L = some r → zG p l e R s m args below meth c d cy B0 5 bc bs (zQ below s args d cy B0 bc bs (.inl none) zSH zKn bc bs I r) 36 [(0, .ref (B0 + 20)), (1, .int v1), (2, .int v2), (3, .int v3), (4, .int v4)] [] zSH zKn bc bs I L) (v1 : Int32) (v2 : Int32) (v3 : Int32) (v4 : Int32) (I : zI) (L : zL) (h : f_X1_fill_36 k36 v1 v2 v3 v4 I L = some r) : zG p l e R s m args below meth c d cy B0 5 bc bs (zQ below s args d cy B0 bc bs (.inl none) zSH zKn bc bs I r) 36 [(0, .ref (B0 + 20)), (1, .int v1), (2, .int v2), (3, .int v3), (4, .int v4)] [] zSH zKn bc bs I L := by
  unfold f_X1_fill_36 at h
  refine z_iload C 4 rfl dX1_fill_36 ?_
  refine z_aload_n C rfl 0 rfl dX1_fill_38 ?_
  refine z_getr C zc_1 dX1_fill_39 1 20 22 rfl (by decide) (by decide) q_270 rfl rfl ?_
  refine z_iload_n C rfl 1 rfl dX1_fill_42 ?_
  obtain ⟨hb9, h⟩ := zck_e h
  refine z_iaload C dX1_fill_43 rfl rfl (by decide) (zbd_in hb9) ?_
  refine z_icmp_ge C 67 (by decide) dX1_fill_44 (fun hc => ?_) (fun hc => ?_)
  · have h := zif_t hc h
    obtain rfl := Option.some.inj h
    exact z_vret C dX1_fill_67 rfl rfl
  · have h := zif_f hc h
    refine z_aload_n C rfl 0 rfl dX1_fill_47 ?_
    refine z_iload_n C rfl 3 rfl dX1_fill_48 ?_
    refine z_iload_n C rfl 2 rfl dX1_fill_49 ?_
    refine z_iload C 4 rfl dX1_fill_50 ?_
    refine z_iadd C dX1_fill_52 ?_
    obtain ⟨L11, hg10, h⟩ := zb1_e h
    refine z_callV C zc_1 rfl (by decide) dX1_fill_53 yy_X1_meetSide (c_X1_meetSide C.2.2.2.2.1  v3 (v2 + v4) I L hg10) q_892 q_894 q_23 (by decide) (by decide) rfl rfl (Nat.le_of_ble_eq_true rfl) ⟨Nat.le_refl _, Nat.le_refl _, Nat.le_refl _, Nat.le_refl _⟩ ?_
    refine z_iload_n C rfl 2 rfl dX1_fill_56 ?_
    refine z_iload C 4 rfl dX1_fill_57 ?_
    refine z_iadd C dX1_fill_59 ?_
    obtain ⟨x12, ex12, h⟩ := zlt_e h
    refine z_eqi C ex12 ?_
    refine z_istore_n C (lv' := [(3, .int x12), (0, .ref (B0 + 20)), (1, .int v1), (2, .int v2), (4, .int v4)]) rfl (by decide) rfl dX1_fill_60 ?_
    obtain ⟨x13, ex13, h⟩ := zlt_e h
    refine z_iinc C (j := 4) (v := x13) (lv' := [(4, .int x13), (3, .int x12), (0, .ref (B0 + 20)), (1, .int v1), (2, .int v2)]) rfl (by rw [ex13]; rfl) (by decide) rfl dX1_fill_61 ?_
    refine z_goto C 36 (by decide) dX1_fill_64 ?_
    refine z_lv [2, 3, 4, 1, 0] (lv' := [(0, .ref (B0 + 20)), (1, .int v1), (2, .int v2), (3, .int x12), (4, .int x13)]) rfl ?_
    exact hk36 v1 v2 x12 x13 I L11 h
set_option maxHeartbeats 4000000 in
set_option maxRecDepth 100000 in
theorem L_X1_fill_36 {r : zL} (C : zC p l e R s m args below meth c s0 a0 d cy B0 yX1_fill.cls cX1_fill 5 none bc bs bc bs 2 66 []) (v1 : Int32) (v2 : Int32) (v3 : Int32) (v4 : Int32) (I : zI) (L : zL) (h : zlp6 (f_X1_fill_36) zF v1 v2 v3 v4 I L = some r) : zG p l e R s m args below meth c d cy B0 5 bc bs (zQ below s args d cy B0 bc bs (.inl none) zSH zKn bc bs I r) 36 [(0, .ref (B0 + 20)), (1, .int v1), (2, .int v2), (3, .int v3), (4, .int v4)] [] zSH zKn bc bs I L :=
 zlp6_e (fun (v1 : Int32) (v2 : Int32) (v3 : Int32) (v4 : Int32) (I : zI) (L : zL) => zG p l e R s m args below meth c d cy B0 5 bc bs (zQ below s args d cy B0 bc bs (.inl none) zSH zKn bc bs I r) 36 [(0, .ref (B0 + 20)), (1, .int v1), (2, .int v2), (3, .int v3), (4, .int v4)] [] zSH zKn bc bs I L) (fun k9 hk9 v1 v2 v3 v4 I L h => l_X1_fill_36 C k9 hk9 v1 v2 v3 v4 I L h) zF v1 v2 v3 v4 I L h
set_option maxHeartbeats 4000000 in
set_option maxRecDepth 100000 in
theorem c_X1_fill {r : zL} (hE : zE0 l s0 a0 d cy B0) (a1 : Int32) (I : zI) (L : zL) (h : f_X1_fill a1 I L = some r) : zM l s0 d cy B0 yX1_fill cX1_fill 5 none 2 66 [.ref (B0 + 20), .int a1] zSH zKn bc bs I L (.inl none) zSH zKn bc bs I r := by
  refine z_meth yy_X1_fill hE (Nat.le_of_ble_eq_true rfl) (fun p e R s m args below meth c C => ?_)
  show zG p l e R s m args below meth c d cy B0 5 bc bs (zQ below s args d cy B0 bc bs (.inl none) zSH zKn bc bs I r) 0 [(0, .ref (B0 + 20)), (1, .int a1)] [] zSH zKn bc bs I L
  unfold f_X1_fill at h
  refine z_aload_n C rfl 0 rfl dX1_fill_0 ?_
  refine z_getr C zc_1 dX1_fill_1 4 20 25 rfl (by decide) (by decide) q_274 rfl rfl ?_
  refine z_lconst C (v := 0) (by decide) dX1_fill_4 ?_
  obtain ⟨L2, hg1, h⟩ := zb1_e h
  refine z_callS C dX1_fill_5 yy_J7_fill_d0a16 (c_J7_fill_d0a16 C.2.2.2.2.1 ⟨rfl, rfl, by decide⟩ (0 : Int64) I L hg1) q_887 q_881 (by decide) (by decide) rfl rfl (Nat.le_of_ble_eq_true rfl) ⟨Nat.le_refl _, Nat.le_refl _, Nat.le_refl _, Nat.le_refl _⟩ ?_
  refine z_aload_n C rfl 0 rfl dX1_fill_8 ?_
  refine z_iload_n C rfl 1 rfl dX1_fill_9 ?_
  obtain ⟨x4, hg3, h⟩ := zb1_e h
  refine z_callV C zc_1 rfl (by decide) dX1_fill_10 yy_X1_isOpen (c_X1_isOpen C.2.2.2.2.1  a1 I L2 hg3) q_888 q_890 q_22 (by decide) (by decide) rfl rfl (Nat.le_of_ble_eq_true rfl) ⟨Nat.le_refl _, Nat.le_refl _, Nat.le_refl _, Nat.le_refl _⟩ ?_
  refine z_if_eq C 17 (by decide) dX1_fill_13 (fun hc => ?_) (fun hc => ?_)
  · have h := zif_t hc h
    refine z_iload_n C rfl 1 rfl dX1_fill_17 ?_
    refine z_bipush C (v := 16) (by decide) dX1_fill_18 ?_
    refine z_imul C dX1_fill_20 ?_
    obtain ⟨x5, ex5, h⟩ := zlt_e h
    refine z_eqi C ex5 ?_
    refine z_istore_n C (lv' := [(2, .int x5), (0, .ref (B0 + 20)), (1, .int a1)]) rfl (by decide) rfl dX1_fill_21 ?_
    refine z_iload_n C rfl 0 rfl dX1_fill_22 ?_
    refine z_aload_n C rfl 1 rfl dX1_fill_23 ?_
    refine z_getr C zc_1 dX1_fill_24 1 20 22 rfl (by decide) (by decide) q_270 rfl rfl ?_
    refine z_iload_n C rfl 2 rfl dX1_fill_27 ?_
    obtain ⟨hb6, h⟩ := zck_e h
    refine z_iaload C dX1_fill_28 rfl rfl (by decide) (zbd_in hb6) ?_
    refine z_iadd C dX1_fill_29 ?_
    obtain ⟨x7, ex7, h⟩ := zlt_e h
    refine z_eqi C ex7 ?_
    refine z_iconst C (v := 1) (by decide) dX1_fill_30 ?_
    refine z_isub C dX1_fill_31 ?_
    obtain ⟨x8, ex8, h⟩ := zlt_e h
    refine z_eqi C ex8 ?_
    refine z_istore_n C (lv' := [(3, .int x8), (2, .int x5), (0, .ref (B0 + 20)), (1, .int a1)]) rfl (by decide) rfl dX1_fill_32 ?_
    refine z_iconst C (v := 0) (by decide) dX1_fill_33 ?_
    refine z_istore C (lv' := [(4, .int (0 : Int32)), (3, .int x8), (2, .int x5), (0, .ref (B0 + 20)), (1, .int a1)]) (by decide) rfl dX1_fill_34 ?_
    refine z_lv [3, 4, 2, 1, 0] (lv' := [(0, .ref (B0 + 20)), (1, .int a1), (2, .int x5), (3, .int x8), (4, .int (0 : Int32))]) rfl ?_
    exact L_X1_fill_36 C  a1 x5 x8 (0 : Int32) I L2 h
  · have h := zif_f hc h
    obtain rfl := Option.some.inj h
    exact z_vret C dX1_fill_16 rfl rfl
theorem q_83 : (Cond.initialized "DeviceFind$Layers") ∈ lw_tbl := List.mem_of_getElem? (i := 83) (by decide +kernel)
theorem q_905 : (Cond.code ({ cls := "DeviceFind$Layers", name := "make", desc := "([JI[J[J)V" } : Jvm.MethodName) prog_4_method_4_code (5 : Nat) (Option.none : Option Jvm.ClassFile.FieldType)) ∈ lw_tbl := List.mem_of_getElem? (i := 905) (by decide +kernel)
theorem q_906 : (Cond.constantLong "DeviceFind$Layers" (60 : Nat) (-1 : Int64)) ∈ lw_tbl := List.mem_of_getElem? (i := 906) (by decide +kernel)
theorem yy_X2_make : zY yX2_make cX2_make 5 none 4 := ⟨q_905, q_83, by decide +kernel, by decide +kernel, by decide +kernel⟩
noncomputable def f_X2_make_69 (k3 : Int32 → Int32 → zL → Option zL) (r0 : Nat) (r2 : Nat) (r3 : Nat) (v1 : Int32) (v4 : Int32) (L : zL) : Option zL :=
  zlt (v4 + 1) (fun x17 => k3 v1 x17 L)
noncomputable def f_X2_make_3 (r0 : Nat) (r2 : Nat) (r3 : Nat) (k3 : Int32 → Int32 → zL → Option zL) (v1 : Int32) (v4 : Int32) (L : zL) : Option zL :=
  if (64 : Int32) ≤ v4 then (some L) else (if v1 = (1 : Int32) then (zck (zbd v4 64) (zck (zbd v4 64) (zlt ((L r2 v4.toNatClampNeg) &&& (L r3 v4.toNatClampNeg)) (fun x14 => zck (zbd v4 64) (zlt (zul L r0 v4.toNatClampNeg x14) (fun L16 => f_X2_make_69 k3 r0 r2 r3 v1 v4 L16)))))) else (if v1 = (2 : Int32) then (zck (zbd v4 64) (zck (zbd v4 64) (zlt ((L r2 v4.toNatClampNeg) ||| (L r3 v4.toNatClampNeg)) (fun x9 => zck (zbd v4 64) (zlt (zul L r0 v4.toNatClampNeg x9) (fun L11 => f_X2_make_69 k3 r0 r2 r3 v1 v4 L11)))))) else (zck (zbd v4 64) (zck (zbd v4 64) (zlt ((L r3 v4.toNatClampNeg) ^^^ (-1 : Int64)) (fun x3 => zlt ((L r2 v4.toNatClampNeg) &&& x3) (fun x4 => zck (zbd v4 64) (zlt (zul L r0 v4.toNatClampNeg x4) (fun L6 => f_X2_make_69 k3 r0 r2 r3 v1 v4 L6)))))))))
noncomputable def f_X2_make (r0 : Nat) (r2 : Nat) (r3 : Nat) (a1 : Int32) (L : zL) : Option zL :=
  zlp3 (f_X2_make_3 r0 r2 r3) zF a1 (0 : Int32) L
set_option maxHeartbeats 4000000 in
set_option maxRecDepth 100000 in
theorem l_X2_make_69 {r : zL} (C : zC p l e R s m args below meth c s0 a0 d cy B0 yX2_make.cls cX2_make 5 none bc bs bc bs 0 0 []) {r0 : Nat} (hr0 : zar 15 64 r0) {r2 : Nat} (hr2 : zar 15 64 r2) {r3 : Nat} (hr3 : zar 15 64 r3) (I : zI) (k3 : Int32 → Int32 → zL → Option zL) (hk3 : ∀ (v1 : Int32) (v4 : Int32) (L : zL), k3 v1 v4 L = some r → zG p l e R s m args below meth c d cy B0 5 bc bs (zQ below s args d cy B0 bc bs (.inl none) zSH zKn bc bs I r) 3 [(0, .ref (B0 + r0)), (1, .int v1), (2, .ref (B0 + r2)), (3, .ref (B0 + r3)), (4, .int v4)] [] zSH zKn bc bs I L) (v1 : Int32) (v4 : Int32) (L : zL) (h : f_X2_make_69 k3 r0 r2 r3 v1 v4 L = some r) : zG p l e R s m args below meth c d cy B0 5 bc bs (zQ below s args d cy B0 bc bs (.inl none) zSH zKn bc bs I r) 69 [(0, .ref (B0 + r0)), (1, .int v1), (2, .ref (B0 + r2)), (3, .ref (B0 + r3)), (4, .int v4)] [] zSH zKn bc bs I L := by
  unfold f_X2_make_69 at h
  obtain ⟨x17, ex17, h⟩ := zlt_e h
  refine z_iinc C (j := 4) (v := x17) (lv' := [(4, .int x17), (0, .ref (B0 + r0)), (1, .int v1), (2, .ref (B0 + r2)), (3, .ref (B0 + r3))]) rfl (by rw [ex17]; rfl) (by decide) rfl dX2_make_69 ?_
  refine z_goto C 3 (by decide) dX2_make_72 ?_
  refine z_lv [1, 2, 3, 4, 0] (lv' := [(0, .ref (B0 + r0)), (1, .int v1), (2, .ref (B0 + r2)), (3, .ref (B0 + r3)), (4, .int x17)]) rfl ?_
  exact hk3 v1 x17 L h
set_option maxHeartbeats 4000000 in
set_option maxRecDepth 100000 in
theorem l_X2_make_3 {r : zL} (C : zC p l e R s m args below meth c s0 a0 d cy B0 yX2_make.cls cX2_make 5 none bc bs bc bs 0 0 []) {r0 : Nat} (hr0 : zar 15 64 r0) {r2 : Nat} (hr2 : zar 15 64 r2) {r3 : Nat} (hr3 : zar 15 64 r3) (I : zI) (k3 : Int32 → Int32 → zL → Option zL) (hk3 : ∀ (v1 : Int32) (v4 : Int32) (L : zL), k3 v1 v4 L = some r → zG p l e R s m args below meth c d cy B0 5 bc bs (zQ below s args d cy B0 bc bs (.inl none) zSH zKn bc bs I r) 3 [(0, .ref (B0 + r0)), (1, .int v1), (2, .ref (B0 + r2)), (3, .ref (B0 + r3)), (4, .int v4)] [] zSH zKn bc bs I L) (v1 : Int32) (v4 : Int32) (L : zL) (h : f_X2_make_3 r0 r2 r3 k3 v1 v4 L = some r) : zG p l e R s m args below meth c d cy B0 5 bc bs (zQ below s args d cy B0 bc bs (.inl none) zSH zKn bc bs I r) 3 [(0, .ref (B0 + r0)), (1, .int v1), (2, .ref (B0 + r2)), (3, .ref (B0 + r3)), (4, .int v4)] [] zSH zKn bc bs I L := by
  unfold f_X2_make_3 at h
  refine z_iload C 4 rfl dX2_make_3 ?_
  refine z_bipush C (v := 64) (by decide) dX2_make_5 ?_
  refine z_icmp_ge C 75 (by decide) dX2_make_7 (fun hc => ?_) (fun hc => ?_)
  · have h := zif_t hc h
    obtain rfl := Option.some.inj h
    exact z_vret C dX2_make_75 rfl rfl
  · have h := zif_f hc h
    refine z_iload_n C rfl 1 rfl dX2_make_10 ?_
    refine z_iconst C (v := 1) (by decide) dX2_make_11 ?_
    refine z_icmp_ne C 31 (by decide) dX2_make_12 (fun hc => ?_) (fun hc => ?_)
    · have h := zif_f hc h
      refine z_iload_n C rfl 1 rfl dX2_make_31 ?_
      refine z_iconst C (v := 2) (by decide) dX2_make_32 ?_
      refine z_icmp_ne C 52 (by decide) dX2_make_33 (fun hc => ?_) (fun hc => ?_)
      · have h := zif_f hc h
        refine z_aload_n C rfl 0 rfl dX2_make_52 ?_
        refine z_iload C 4 rfl dX2_make_53 ?_
        refine z_aload_n C rfl 2 rfl dX2_make_55 ?_
        refine z_iload C 4 rfl dX2_make_56 ?_
        obtain ⟨hb1, h⟩ := zck_e h
        refine z_laload C dX2_make_58 hr2.1 hr2.2.1 hr2.2.2 (zbd_in hb1) ?_
        refine z_aload_n C rfl 3 rfl dX2_make_59 ?_
        refine z_iload C 4 rfl dX2_make_60 ?_
        obtain ⟨hb2, h⟩ := zck_e h
        refine z_laload C dX2_make_62 hr3.1 hr3.2.1 hr3.2.2 (zbd_in hb2) ?_
        refine z_ldc2 C dX2_make_63 q_906 ?_
        refine z_lxor C dX2_make_66 ?_
        obtain ⟨x3, ex3, h⟩ := zlt_e h
        refine z_eql C ex3 ?_
        refine z_land C dX2_make_67 ?_
        obtain ⟨x4, ex4, h⟩ := zlt_e h
        refine z_eql C ex4 ?_
        obtain ⟨hb5, h⟩ := zck_e h
        refine z_lastore C dX2_make_68 hr0.1 hr0.2.1 hr0.2.2 (zbd_in hb5) ?_
        obtain ⟨L6, eL6, h⟩ := zlt_e h
        refine z_eqL C eL6 ?_
        exact l_X2_make_69 C hr0 hr2 hr3 I k3 hk3 v1 v4 L6 h
      · have h := zif_t hc h
        refine z_aload_n C rfl 0 rfl dX2_make_36 ?_
        refine z_iload C 4 rfl dX2_make_37 ?_
        refine z_aload_n C rfl 2 rfl dX2_make_39 ?_
        refine z_iload C 4 rfl dX2_make_40 ?_
        obtain ⟨hb7, h⟩ := zck_e h
        refine z_laload C dX2_make_42 hr2.1 hr2.2.1 hr2.2.2 (zbd_in hb7) ?_
        refine z_aload_n C rfl 3 rfl dX2_make_43 ?_
        refine z_iload C 4 rfl dX2_make_44 ?_
        obtain ⟨hb8, h⟩ := zck_e h
        refine z_laload C dX2_make_46 hr3.1 hr3.2.1 hr3.2.2 (zbd_in hb8) ?_
        refine z_lor C dX2_make_47 ?_
        obtain ⟨x9, ex9, h⟩ := zlt_e h
        refine z_eql C ex9 ?_
        obtain ⟨hb10, h⟩ := zck_e h
        refine z_lastore C dX2_make_48 hr0.1 hr0.2.1 hr0.2.2 (zbd_in hb10) ?_
        obtain ⟨L11, eL11, h⟩ := zlt_e h
        refine z_eqL C eL11 ?_
        refine z_goto C 69 (by decide) dX2_make_49 ?_
        exact l_X2_make_69 C hr0 hr2 hr3 I k3 hk3 v1 v4 L11 h
    · have h := zif_t hc h
      refine z_aload_n C rfl 0 rfl dX2_make_15 ?_
      refine z_iload C 4 rfl dX2_make_16 ?_
      refine z_aload_n C rfl 2 rfl dX2_make_18 ?_
      refine z_iload C 4 rfl dX2_make_19 ?_
      obtain ⟨hb12, h⟩ := zck_e h
      refine z_laload C dX2_make_21 hr2.1 hr2.2.1 hr2.2.2 (zbd_in hb12) ?_
      refine z_aload_n C rfl 3 rfl dX2_make_22 ?_
      refine z_iload C 4 rfl dX2_make_23 ?_
      obtain ⟨hb13, h⟩ := zck_e h
      refine z_laload C dX2_make_25 hr3.1 hr3.2.1 hr3.2.2 (zbd_in hb13) ?_
      refine z_land C dX2_make_26 ?_
      obtain ⟨x14, ex14, h⟩ := zlt_e h
      refine z_eql C ex14 ?_
      obtain ⟨hb15, h⟩ := zck_e h
      refine z_lastore C dX2_make_27 hr0.1 hr0.2.1 hr0.2.2 (zbd_in hb15) ?_
      obtain ⟨L16, eL16, h⟩ := zlt_e h
      refine z_eqL C eL16 ?_
      refine z_goto C 69 (by decide) dX2_make_28 ?_
      exact l_X2_make_69 C hr0 hr2 hr3 I k3 hk3 v1 v4 L16 h
set_option maxHeartbeats 4000000 in
set_option maxRecDepth 100000 in
theorem L_X2_make_3 {r : zL} (C : zC p l e R s m args below meth c s0 a0 d cy B0 yX2_make.cls cX2_make 5 none bc bs bc bs 0 0 []) {r0 : Nat} (hr0 : zar 15 64 r0) {r2 : Nat} (hr2 : zar 15 64 r2) {r3 : Nat} (hr3 : zar 15 64 r3) (I : zI) (v1 : Int32) (v4 : Int32) (L : zL) (h : zlp3 (f_X2_make_3 r0 r2 r3) zF v1 v4 L = some r) : zG p l e R s m args below meth c d cy B0 5 bc bs (zQ below s args d cy B0 bc bs (.inl none) zSH zKn bc bs I r) 3 [(0, .ref (B0 + r0)), (1, .int v1), (2, .ref (B0 + r2)), (3, .ref (B0 + r3)), (4, .int v4)] [] zSH zKn bc bs I L :=
 zlp3_e (fun (v1 : Int32) (v4 : Int32) (L : zL) => zG p l e R s m args below meth c d cy B0 5 bc bs (zQ below s args d cy B0 bc bs (.inl none) zSH zKn bc bs I r) 3 [(0, .ref (B0 + r0)), (1, .int v1), (2, .ref (B0 + r2)), (3, .ref (B0 + r3)), (4, .int v4)] [] zSH zKn bc bs I L) (fun k9 hk9 v1 v4 L h => l_X2_make_3 C hr0 hr2 hr3 I k9 hk9 v1 v4 L h) zF v1 v4 L h
set_option maxHeartbeats 4000000 in
set_option maxRecDepth 100000 in
theorem c_X2_make {r : zL} (hE : zE0 l s0 a0 d cy B0) {r0 : Nat} (hr0 : zar 15 64 r0) {r2 : Nat} (hr2 : zar 15 64 r2) {r3 : Nat} (hr3 : zar 15 64 r3) (a1 : Int32) (I : zI) (L : zL) (h : f_X2_make r0 r2 r3 a1 L = some r) : zM l s0 d cy B0 yX2_make cX2_make 5 none 0 0 [.ref (B0 + r0), .int a1, .ref (B0 + r2), .ref (B0 + r3)] zSH zKn bc bs I L (.inl none) zSH zKn bc bs I r := by
  refine z_meth yy_X2_make hE (Nat.le_of_ble_eq_true rfl) (fun p e R s m args below meth c C => ?_)
  show zG p l e R s m args below meth c d cy B0 5 bc bs (zQ below s args d cy B0 bc bs (.inl none) zSH zKn bc bs I r) 0 [(0, .ref (B0 + r0)), (1, .int a1), (2, .ref (B0 + r2)), (3, .ref (B0 + r3))] [] zSH zKn bc bs I L
  unfold f_X2_make at h
  refine z_iconst C (v := 0) (by decide) dX2_make_0 ?_
  refine z_istore C (lv' := [(4, .int (0 : Int32)), (0, .ref (B0 + r0)), (1, .int a1), (2, .ref (B0 + r2)), (3, .ref (B0 + r3))]) (by decide) rfl dX2_make_1 ?_
  refine z_lv [1, 2, 3, 4, 0] (lv' := [(0, .ref (B0 + r0)), (1, .int a1), (2, .ref (B0 + r2)), (3, .ref (B0 + r3)), (4, .int (0 : Int32))]) rfl ?_
  exact L_X2_make_3 C hr0 hr2 hr3 I a1 (0 : Int32) L h
theorem q_172 : (Cond.fieldLink "DeviceFind$Layers" (44 : Nat) "DeviceFind$Plan" "layerWays" "[I") ∈ lw_tbl := List.mem_of_getElem? (i := 172) (by decide +kernel)
theorem q_174 : (Cond.fieldLink "DeviceFind$Layers" (47 : Nat) "DeviceFind$Plan" "layerSources" "[I") ∈ lw_tbl := List.mem_of_getElem? (i := 174) (by decide +kernel)
theorem q_197 : (Cond.fieldLink "DeviceFind$Layers" (16 : Nat) "DeviceFind$Plan" "layers" "I") ∈ lw_tbl := List.mem_of_getElem? (i := 197) (by decide +kernel)
theorem q_275 : (Cond.fieldLink "DeviceFind$Layers" (57 : Nat) "DeviceFind$Drawing" "rows" "[J") ∈ lw_tbl := List.mem_of_getElem? (i := 275) (by decide +kernel)
theorem q_323 : (Cond.fieldLink "DeviceFind$Layers" (11 : Nat) "DeviceFind$Layers" "rows" "[[J") ∈ lw_tbl := List.mem_of_getElem? (i := 323) (by decide +kernel)
theorem q_902 : (Cond.code ({ cls := "DeviceFind$Layers", name := "addPolygon", desc := "(LDeviceFind$Plan;LDeviceFind$Drawing;I)V" } : Jvm.MethodName) prog_4_method_3_code (5 : Nat) (Option.none : Option Jvm.ClassFile.FieldType)) ∈ lw_tbl := List.mem_of_getElem? (i := 902) (by decide +kernel)
theorem q_903 : (Cond.methodLink "DeviceFind$Layers" (53 : Nat) ({ cls := "DeviceFind$Layers", name := "make", desc := "([JI[J[J)V" } : Jvm.MethodName)) ∈ lw_tbl := List.mem_of_getElem? (i := 903) (by decide +kernel)
theorem q_904 : (Cond.static ({ cls := "DeviceFind$Layers", name := "make", desc := "([JI[J[J)V" } : Jvm.MethodName)) ∈ lw_tbl := List.mem_of_getElem? (i := 904) (by decide +kernel)
theorem yy_X2_addPolygon : zY yX2_addPolygon cX2_addPolygon 5 none 3 := ⟨q_902, q_83, by decide +kernel, by decide +kernel, by decide +kernel⟩
noncomputable def f_X2_addPolygon_55 (k3 : Int32 → Int32 → zI → zL → Option zL) (P : Nat) (v3 : Int32) (v4 : Int32) (I : zI) (L : zL) : Option zL :=
  zlt (v4 + 1) (fun x7 => k3 v3 x7 I L)
noncomputable def f_X2_addPolygon_3 (P : Nat) (k3 : Int32 → Int32 → zI → zL → Option zL) (v3 : Int32) (v4 : Int32) (I : zI) (L : zL) : Option zL :=
  if (I P 12) ≤ v4 then (some L) else (zck (zbd v4 24) (if (I ((P + 1 + 1)) v4.toNatClampNeg) = 0 then (zck (zbd v4 24) (if (I ((P + 1 + 2)) v4.toNatClampNeg) = v3 then (zck (zbd v4 24) (zck (zbd v4 24) (zb1 (f_X2_make ((33 + v4.toNatClampNeg)) ((33 + v4.toNatClampNeg)) 25 (2 : Int32) L) (fun L6 => f_X2_addPolygon_55 k3 P v3 v4 I L6)))) else (f_X2_addPolygon_55 k3 P v3 v4 I L))) else (f_X2_addPolygon_55 k3 P v3 v4 I L)))
noncomputable def f_X2_addPolygon (P : Nat) (a3 : Int32) (I : zI) (L : zL) : Option zL :=
  zlp4 (f_X2_addPolygon_3 P) zF a3 (0 : Int32) I L
set_option maxHeartbeats 4000000 in
set_option maxRecDepth 100000 in
theorem l_X2_addPolygon_55 {r : zL} (C : zC p l e R s m args below meth c s0 a0 d cy B0 yX2_addPolygon.cls cX2_addPolygon 5 none bc bs bc bs 1 24 []) {P : Nat} (hP : zpl P) (k3 : Int32 → Int32 → zI → zL → Option zL) (hk3 : ∀ (v3 : Int32) (v4 : Int32) (I : zI) (L : zL), k3 v3 v4 I L = some r → zG p l e R s m args below meth c d cy B0 5 bc bs (zQ below s args d cy B0 bc bs (.inl none) zSH zKn bc bs I r) 3 [(0, .ref (B0 + 31)), (1, .ref (B0 + P)), (2, .ref (B0 + 20)), (3, .int v3), (4, .int v4)] [] zSH zKn bc bs I L) (v3 : Int32) (v4 : Int32) (I : zI) (L : zL) (h : f_X2_addPolygon_55 k3 P v3 v4 I L = some r) : zG p l e R s m args below meth c d cy B0 5 bc bs (zQ below s args d cy B0 bc bs (.inl none) zSH zKn bc bs I r) 55 [(0, .ref (B0 + 31)), (1, .ref (B0 + P)), (2, .ref (B0 + 20)), (3, .int v3), (4, .int v4)] [] zSH zKn bc bs I L := by
  unfold f_X2_addPolygon_55 at h
  obtain ⟨x7, ex7, h⟩ := zlt_e h
  refine z_iinc C (j := 4) (v := x7) (lv' := [(4, .int x7), (0, .ref (B0 + 31)), (1, .ref (B0 + P)), (2, .ref (B0 + 20)), (3, .int v3)]) rfl (by rw [ex7]; rfl) (by decide) rfl dX2_addPolygon_55 ?_
  refine z_goto C 3 (by decide) dX2_addPolygon_58 ?_
  refine z_lv [1, 2, 3, 4, 0] (lv' := [(0, .ref (B0 + 31)), (1, .ref (B0 + P)), (2, .ref (B0 + 20)), (3, .int v3), (4, .int x7)]) rfl ?_
  exact hk3 v3 x7 I L h
set_option maxHeartbeats 4000000 in
set_option maxRecDepth 100000 in
theorem l_X2_addPolygon_3 {r : zL} (C : zC p l e R s m args below meth c s0 a0 d cy B0 yX2_addPolygon.cls cX2_addPolygon 5 none bc bs bc bs 1 24 []) {P : Nat} (hP : zpl P) (k3 : Int32 → Int32 → zI → zL → Option zL) (hk3 : ∀ (v3 : Int32) (v4 : Int32) (I : zI) (L : zL), k3 v3 v4 I L = some r → zG p l e R s m args below meth c d cy B0 5 bc bs (zQ below s args d cy B0 bc bs (.inl none) zSH zKn bc bs I r) 3 [(0, .ref (B0 + 31)), (1, .ref (B0 + P)), (2, .ref (B0 + 20)), (3, .int v3), (4, .int v4)] [] zSH zKn bc bs I L) (v3 : Int32) (v4 : Int32) (I : zI) (L : zL) (h : f_X2_addPolygon_3 P k3 v3 v4 I L = some r) : zG p l e R s m args below meth c d cy B0 5 bc bs (zQ below s args d cy B0 bc bs (.inl none) zSH zKn bc bs I r) 3 [(0, .ref (B0 + 31)), (1, .ref (B0 + P)), (2, .ref (B0 + 20)), (3, .int v3), (4, .int v4)] [] zSH zKn bc bs I L := by
  unfold f_X2_addPolygon_3 at h
  refine z_iload C 4 rfl dX2_addPolygon_3 ?_
  refine z_aload_n C rfl 1 rfl dX2_addPolygon_5 ?_
  refine z_geti C zc_7 dX2_addPolygon_6 12 P (zpl_k hP) (zpl_lt hP) (by decide) q_197 rfl ?_
  refine z_icmp_ge C 61 (by decide) dX2_addPolygon_9 (fun hc => ?_) (fun hc => ?_)
  · have h := zif_t hc h
    obtain rfl := Option.some.inj h
    exact z_vret C dX2_addPolygon_61 rfl rfl
  · have h := zif_f hc h
    refine z_aload_n C rfl 1 rfl dX2_addPolygon_12 ?_
    refine z_getr C zc_7 dX2_addPolygon_13 1 P (P + 1 + 1) (zpl_k hP) (zpl_lt hP) (by decide) q_172 rfl (zpl_r hP 1 (by decide)) ?_
    refine z_iload C 4 rfl dX2_addPolygon_16 ?_
    obtain ⟨hb1, h⟩ := zck_e h
    refine z_iaload C dX2_addPolygon_18 (zpl_ak hP 1 (by decide)) (zpl_an hP 1 (by decide)) (zpl_a hP 1 (by decide)) (zbd_in hb1) ?_
    refine z_if_ne C 55 (by decide) dX2_addPolygon_19 (fun hc => ?_) (fun hc => ?_)
    · have h := zif_f hc h
      exact l_X2_addPolygon_55 C hP k3 hk3 v3 v4 I L h
    · have h := zif_t hc h
      refine z_aload_n C rfl 1 rfl dX2_addPolygon_22 ?_
      refine z_getr C zc_7 dX2_addPolygon_23 2 P (P + 1 + 2) (zpl_k hP) (zpl_lt hP) (by decide) q_174 rfl (zpl_r hP 2 (by decide)) ?_
      refine z_iload C 4 rfl dX2_addPolygon_26 ?_
      obtain ⟨hb2, h⟩ := zck_e h
      refine z_iaload C dX2_addPolygon_28 (zpl_ak hP 2 (by decide)) (zpl_an hP 2 (by decide)) (zpl_a hP 2 (by decide)) (zbd_in hb2) ?_
      refine z_iload_n C rfl 3 rfl dX2_addPolygon_29 ?_
      refine z_icmp_ne C 55 (by decide) dX2_addPolygon_30 (fun hc => ?_) (fun hc => ?_)
      · have h := zif_f hc h
        exact l_X2_addPolygon_55 C hP k3 hk3 v3 v4 I L h
      · have h := zif_t hc h
        refine z_aload_n C rfl 0 rfl dX2_addPolygon_33 ?_
        refine z_getr C zc_2 dX2_addPolygon_34 0 31 32 rfl (by decide) (by decide) q_323 rfl rfl ?_
        refine z_iload C 4 rfl dX2_addPolygon_37 ?_
        obtain ⟨hb3, h⟩ := zck_e h
        refine z_aaload C dX2_addPolygon_39 (t := 5) rfl (by decide) rfl (by decide) (zbd_in hb3) (z_rowJ (zbd_lt hb3)).1 ?_
        refine z_iconst C (v := 2) (by decide) dX2_addPolygon_40 ?_
        refine z_aload_n C rfl 0 rfl dX2_addPolygon_41 ?_
        refine z_getr C zc_2 dX2_addPolygon_42 0 31 32 rfl (by decide) (by decide) q_323 rfl rfl ?_
        refine z_iload C 4 rfl dX2_addPolygon_45 ?_
        obtain ⟨hb4, h⟩ := zck_e h
        refine z_aaload C dX2_addPolygon_47 (t := 5) rfl (by decide) rfl (by decide) (zbd_in hb4) (z_rowJ (zbd_lt hb4)).1 ?_
        refine z_aload_n C rfl 2 rfl dX2_addPolygon_48 ?_
        refine z_getr C zc_1 dX2_addPolygon_49 4 20 25 rfl (by decide) (by decide) q_275 rfl rfl ?_
        obtain ⟨L6, hg5, h⟩ := zb1_e h
        refine z_callS C dX2_addPolygon_52 yy_X2_make (c_X2_make C.2.2.2.2.1 (z_rowJ (zbd_lt hb3)).2 (z_rowJ (zbd_lt hb4)).2 ⟨rfl, rfl, by decide⟩ (2 : Int32) I L hg5) q_903 q_904 (by decide) (by decide) rfl rfl (Nat.le_of_ble_eq_true rfl) ⟨Nat.le_refl _, Nat.le_refl _, Nat.le_refl _, Nat.le_refl _⟩ ?_
        exact l_X2_addPolygon_55 C hP k3 hk3 v3 v4 I L6 h
set_option maxHeartbeats 4000000 in
set_option maxRecDepth 100000 in
theorem L_X2_addPolygon_3 {r : zL} (C : zC p l e R s m args below meth c s0 a0 d cy B0 yX2_addPolygon.cls cX2_addPolygon 5 none bc bs bc bs 1 24 []) {P : Nat} (hP : zpl P) (v3 : Int32) (v4 : Int32) (I : zI) (L : zL) (h : zlp4 (f_X2_addPolygon_3 P) zF v3 v4 I L = some r) : zG p l e R s m args below meth c d cy B0 5 bc bs (zQ below s args d cy B0 bc bs (.inl none) zSH zKn bc bs I r) 3 [(0, .ref (B0 + 31)), (1, .ref (B0 + P)), (2, .ref (B0 + 20)), (3, .int v3), (4, .int v4)] [] zSH zKn bc bs I L :=
 zlp4_e (fun (v3 : Int32) (v4 : Int32) (I : zI) (L : zL) => zG p l e R s m args below meth c d cy B0 5 bc bs (zQ below s args d cy B0 bc bs (.inl none) zSH zKn bc bs I r) 3 [(0, .ref (B0 + 31)), (1, .ref (B0 + P)), (2, .ref (B0 + 20)), (3, .int v3), (4, .int v4)] [] zSH zKn bc bs I L) (fun k9 hk9 v3 v4 I L h => l_X2_addPolygon_3 C hP k9 hk9 v3 v4 I L h) zF v3 v4 I L h
set_option maxHeartbeats 4000000 in
set_option maxRecDepth 100000 in
theorem c_X2_addPolygon {r : zL} (hE : zE0 l s0 a0 d cy B0) {P : Nat} (hP : zpl P) (a3 : Int32) (I : zI) (L : zL) (h : f_X2_addPolygon P a3 I L = some r) : zM l s0 d cy B0 yX2_addPolygon cX2_addPolygon 5 none 1 24 [.ref (B0 + 31), .ref (B0 + P), .ref (B0 + 20), .int a3] zSH zKn bc bs I L (.inl none) zSH zKn bc bs I r := by
  refine z_meth yy_X2_addPolygon hE (Nat.le_of_ble_eq_true rfl) (fun p e R s m args below meth c C => ?_)
  show zG p l e R s m args below meth c d cy B0 5 bc bs (zQ below s args d cy B0 bc bs (.inl none) zSH zKn bc bs I r) 0 [(0, .ref (B0 + 31)), (1, .ref (B0 + P)), (2, .ref (B0 + 20)), (3, .int a3)] [] zSH zKn bc bs I L
  unfold f_X2_addPolygon at h
  refine z_iconst C (v := 0) (by decide) dX2_addPolygon_0 ?_
  refine z_istore C (lv' := [(4, .int (0 : Int32)), (0, .ref (B0 + 31)), (1, .ref (B0 + P)), (2, .ref (B0 + 20)), (3, .int a3)]) (by decide) rfl dX2_addPolygon_1 ?_
  refine z_lv [1, 2, 3, 4, 0] (lv' := [(0, .ref (B0 + 31)), (1, .ref (B0 + P)), (2, .ref (B0 + 20)), (3, .int a3), (4, .int (0 : Int32))]) rfl ?_
  exact L_X2_addPolygon_3 C hP a3 (0 : Int32) I L h
theorem q_24 : Cond.selects "DeviceFind$Layers" ⟨"DeviceFind$Layers", "addPolygon", "(LDeviceFind$Plan;LDeviceFind$Drawing;I)V"⟩ ⟨"DeviceFind$Layers", "addPolygon", "(LDeviceFind$Plan;LDeviceFind$Drawing;I)V"⟩ ∈ lw_tbl := List.mem_of_getElem? (i := 24) (by decide +kernel)
theorem q_176 : (Cond.fieldLink "DeviceFind$Layers" (50 : Nat) "DeviceFind$Plan" "layerSeconds" "[I") ∈ lw_tbl := List.mem_of_getElem? (i := 176) (by decide +kernel)
theorem q_269 : (Cond.fieldLink "DeviceFind$Layers" (36 : Nat) "DeviceFind$Drawing" "inputs" "[I") ∈ lw_tbl := List.mem_of_getElem? (i := 269) (by decide +kernel)
theorem q_277 : (Cond.fieldLink "DeviceFind$Layers" (28 : Nat) "DeviceFind$Drawing" "polygons" "I") ∈ lw_tbl := List.mem_of_getElem? (i := 277) (by decide +kernel)
theorem q_879 : (Cond.code ({ cls := "DeviceFind$Layers", name := "draw", desc := "(LDeviceFind$Plan;LDeviceFind$Drawing;)V" } : Jvm.MethodName) prog_4_method_2_code (4 : Nat) (Option.none : Option Jvm.ClassFile.FieldType)) ∈ lw_tbl := List.mem_of_getElem? (i := 879) (by decide +kernel)
theorem q_880 : (Cond.methodLink "DeviceFind$Layers" (22 : Nat) ({ cls := "java/util/Arrays", name := "fill", desc := "([JJ)V" } : Jvm.MethodName)) ∈ lw_tbl := List.mem_of_getElem? (i := 880) (by decide +kernel)
theorem q_883 : (Cond.methodLink "DeviceFind$Layers" (33 : Nat) ({ cls := "DeviceFind$Drawing", name := "fill", desc := "(I)V" } : Jvm.MethodName)) ∈ lw_tbl := List.mem_of_getElem? (i := 883) (by decide +kernel)
theorem q_884 : (Cond.instanceMethod ({ cls := "DeviceFind$Drawing", name := "fill", desc := "(I)V" } : Jvm.MethodName)) ∈ lw_tbl := List.mem_of_getElem? (i := 884) (by decide +kernel)
theorem q_885 : (Cond.selects "DeviceFind$Drawing" ({ cls := "DeviceFind$Drawing", name := "fill", desc := "(I)V" } : Jvm.MethodName) ({ cls := "DeviceFind$Drawing", name := "fill", desc := "(I)V" } : Jvm.MethodName)) ∈ lw_tbl := List.mem_of_getElem? (i := 885) (by decide +kernel)
theorem q_899 : (Cond.methodLink "DeviceFind$Layers" (40 : Nat) ({ cls := "DeviceFind$Layers", name := "addPolygon", desc := "(LDeviceFind$Plan;LDeviceFind$Drawing;I)V" } : Jvm.MethodName)) ∈ lw_tbl := List.mem_of_getElem? (i := 899) (by decide +kernel)
theorem q_901 : (Cond.instanceMethod ({ cls := "DeviceFind$Layers", name := "addPolygon", desc := "(LDeviceFind$Plan;LDeviceFind$Drawing;I)V" } : Jvm.MethodName)) ∈ lw_tbl := List.mem_of_getElem? (i := 901) (by decide +kernel)
theorem yy_X2_draw : zY yX2_draw cX2_draw 4 none 2 := ⟨q_879, q_83, by decide +kernel, by decide +kernel, by decide +kernel⟩
noncomputable def f_X2_draw_115 (k61 : Int32 → zI → zL → Option zL) (P : Nat) (v3 : Int32) (I : zI) (L : zL) : Option zL :=
  zlt (v3 + 1) (fun x22 => k61 x22 I L)
noncomputable def f_X2_draw_61 (P : Nat) (k61 : Int32 → zI → zL → Option zL) (v3 : Int32) (I : zI) (L : zL) : Option zL :=
  if (I P 12) ≤ v3 then (some L) else (zck (zbd v3 24) (if (I ((P + 1 + 1)) v3.toNatClampNeg) = 0 then (f_X2_draw_115 k61 P v3 I L) else (zck (zbd v3 24) (zck (zbd v3 24) (zck (zbd v3 24) (zlt (I ((P + 1 + 2)) v3.toNatClampNeg) (fun x15 => zck (zbd x15 24) (zck (zbd v3 24) (zlt (I ((P + 1 + 3)) v3.toNatClampNeg) (fun x18 => zck (zbd x18 24) (zb1 (f_X2_make ((33 + v3.toNatClampNeg)) ((33 + x15.toNatClampNeg)) ((33 + x18.toNatClampNeg)) (I ((P + 1 + 1)) v3.toNatClampNeg) L) (fun L21 => f_X2_draw_115 k61 P v3 I L21))))))))))))
noncomputable def f_X2_draw_28 (P : Nat) (k28 : Int32 → zI → zL → Option zL) (v3 : Int32) (I : zI) (L : zL) : Option zL :=
  if (I 20 5) ≤ v3 then (zlp3 (f_X2_draw_61 P) zF (0 : Int32) I L) else (zb1 (f_X1_fill v3 I L) (fun L6 => zck (zbd v3 60) (zb1 (f_X2_addPolygon P (I 21 v3.toNatClampNeg) I L6) (fun L9 => zlt (v3 + 1) (fun x10 => k28 x10 I L9)))))
noncomputable def f_X2_draw_2 (P : Nat) (k2 : Int32 → zI → zL → Option zL) (v3 : Int32) (I : zI) (L : zL) : Option zL :=
  if (I P 12) ≤ v3 then (zlp3 (f_X2_draw_28 P) zF (0 : Int32) I L) else (zck (zbd v3 24) (zb1 (f_J7_fill_d0a16 ((33 + v3.toNatClampNeg)) (0 : Int64) L) (fun L3 => zlt (v3 + 1) (fun x4 => k2 x4 I L3))))
noncomputable def f_X2_draw (P : Nat) (I : zI) (L : zL) : Option zL :=
  zlp3 (f_X2_draw_2 P) zF (0 : Int32) I L
set_option maxHeartbeats 4000000 in
set_option maxRecDepth 100000 in
theorem l_X2_draw_115 {r : zL} (C : zC p l e R s m args below meth c s0 a0 d cy B0 yX2_draw.cls cX2_draw 4 none bc bs bc bs 3 90 []) {P : Nat} (hP : zpl P) (k61 : Int32 → zI → zL → Option zL) (hk61 : ∀ (v3 : Int32) (I : zI) (L : zL), k61 v3 I L = some r → zG p l e R s m args below meth c d cy B0 4 bc bs (zQ below s args d cy B0 bc bs (.inl none) zSH zKn bc bs I r) 61 [(0, .ref (B0 + 31)), (1, .ref (B0 + P)), (3, .int v3)] [] zSH zKn bc bs I L) (v3 : Int32) (I : zI) (L : zL) (h : f_X2_draw_115 k61 P v3 I L = some r) : zG p l e R s m args below meth c d cy B0 4 bc bs (zQ below s args d cy B0 bc bs (.inl none) zSH zKn bc bs I r) 115 [(0, .ref (B0 + 31)), (1, .ref (B0 + P)), (3, .int v3)] [] zSH zKn bc bs I L := by
  unfold f_X2_draw_115 at h
  obtain ⟨x22, ex22, h⟩ := zlt_e h
  refine z_iinc C (j := 2) (v := x22) (lv' := [(3, .int x22), (0, .ref (B0 + 31)), (1, .ref (B0 + P))]) rfl (by rw [ex22]; rfl) (by decide) rfl dX2_draw_115 ?_
  refine z_goto C 61 (by decide) dX2_draw_118 ?_
  refine z_lv [1, 2, 0] (lv' := [(0, .ref (B0 + 31)), (1, .ref (B0 + P)), (3, .int x22)]) rfl ?_
  exact hk61 x22 I L h
set_option maxHeartbeats 4000000 in
set_option maxRecDepth 100000 in
theorem l_X2_draw_61 {r : zL} (C : zC p l e R s m args below meth c s0 a0 d cy B0 yX2_draw.cls cX2_draw 4 none bc bs bc bs 3 90 []) {P : Nat} (hP : zpl P) (k61 : Int32 → zI → zL → Option zL) (hk61 : ∀ (v3 : Int32) (I : zI) (L : zL), k61 v3 I L = some r → zG p l e R s m args below meth c d cy B0 4 bc bs (zQ below s args d cy B0 bc bs (.inl none) zSH zKn bc bs I r) 61 [(0, .ref (B0 + 31)), (1, .ref (B0 + P)), (3, .int v3)] [] zSH zKn bc bs I L) (v3 : Int32) (I : zI) (L : zL) (h : f_X2_draw_61 P k61 v3 I L = some r) : zG p l e R s m args below meth c d cy B0 4 bc bs (zQ below s args d cy B0 bc bs (.inl none) zSH zKn bc bs I r) 61 [(0, .ref (B0 + 31)), (1, .ref (B0 + P)), (3, .int v3)] [] zSH zKn bc bs I L := by
  unfold f_X2_draw_61 at h
  refine z_iload_n C rfl 2 rfl dX2_draw_61 ?_
  refine z_aload_n C rfl 1 rfl dX2_draw_62 ?_
  refine z_geti C zc_7 dX2_draw_63 12 P (zpl_k hP) (zpl_lt hP) (by decide) q_197 rfl ?_
  refine z_icmp_ge C 121 (by decide) dX2_draw_66 (fun hc => ?_) (fun hc => ?_)
  · have h := zif_t hc h
    obtain rfl := Option.some.inj h
    exact z_vret C dX2_draw_121 rfl rfl
  · have h := zif_f hc h
    refine z_aload_n C rfl 1 rfl dX2_draw_69 ?_
    refine z_getr C zc_7 dX2_draw_70 1 P (P + 1 + 1) (zpl_k hP) (zpl_lt hP) (by decide) q_172 rfl (zpl_r hP 1 (by decide)) ?_
    refine z_iload_n C rfl 2 rfl dX2_draw_73 ?_
    obtain ⟨hb11, h⟩ := zck_e h
    refine z_iaload C dX2_draw_74 (zpl_ak hP 1 (by decide)) (zpl_an hP 1 (by decide)) (zpl_a hP 1 (by decide)) (zbd_in hb11) ?_
    refine z_if_eq C 115 (by decide) dX2_draw_75 (fun hc => ?_) (fun hc => ?_)
    · have h := zif_t hc h
      exact l_X2_draw_115 C hP k61 hk61 v3 I L h
    · have h := zif_f hc h
      refine z_aload_n C rfl 0 rfl dX2_draw_78 ?_
      refine z_getr C zc_2 dX2_draw_79 0 31 32 rfl (by decide) (by decide) q_323 rfl rfl ?_
      refine z_iload_n C rfl 2 rfl dX2_draw_82 ?_
      obtain ⟨hb12, h⟩ := zck_e h
      refine z_aaload C dX2_draw_83 (t := 5) rfl (by decide) rfl (by decide) (zbd_in hb12) (z_rowJ (zbd_lt hb12)).1 ?_
      refine z_aload_n C rfl 1 rfl dX2_draw_84 ?_
      refine z_getr C zc_7 dX2_draw_85 1 P (P + 1 + 1) (zpl_k hP) (zpl_lt hP) (by decide) q_172 rfl (zpl_r hP 1 (by decide)) ?_
      refine z_iload_n C rfl 2 rfl dX2_draw_88 ?_
      obtain ⟨hb13, h⟩ := zck_e h
      refine z_iaload C dX2_draw_89 (zpl_ak hP 1 (by decide)) (zpl_an hP 1 (by decide)) (zpl_a hP 1 (by decide)) (zbd_in hb13) ?_
      refine z_aload_n C rfl 0 rfl dX2_draw_90 ?_
      refine z_getr C zc_2 dX2_draw_91 0 31 32 rfl (by decide) (by decide) q_323 rfl rfl ?_
      refine z_aload_n C rfl 1 rfl dX2_draw_94 ?_
      refine z_getr C zc_7 dX2_draw_95 2 P (P + 1 + 2) (zpl_k hP) (zpl_lt hP) (by decide) q_174 rfl (zpl_r hP 2 (by decide)) ?_
      refine z_iload_n C rfl 2 rfl dX2_draw_98 ?_
      obtain ⟨hb14, h⟩ := zck_e h
      refine z_iaload C dX2_draw_99 (zpl_ak hP 2 (by decide)) (zpl_an hP 2 (by decide)) (zpl_a hP 2 (by decide)) (zbd_in hb14) ?_
      obtain ⟨x15, ex15, h⟩ := zlt_e h
      refine z_eqi C ex15 ?_
      obtain ⟨hb16, h⟩ := zck_e h
      refine z_aaload C dX2_draw_100 (t := 5) rfl (by decide) rfl (by decide) (zbd_in hb16) (z_rowJ (zbd_lt hb16)).1 ?_
      refine z_aload_n C rfl 0 rfl dX2_draw_101 ?_
      refine z_getr C zc_2 dX2_draw_102 0 31 32 rfl (by decide) (by decide) q_323 rfl rfl ?_
      refine z_aload_n C rfl 1 rfl dX2_draw_105 ?_
      refine z_getr C zc_7 dX2_draw_106 3 P (P + 1 + 3) (zpl_k hP) (zpl_lt hP) (by decide) q_176 rfl (zpl_r hP 3 (by decide)) ?_
      refine z_iload_n C rfl 2 rfl dX2_draw_109 ?_
      obtain ⟨hb17, h⟩ := zck_e h
      refine z_iaload C dX2_draw_110 (zpl_ak hP 3 (by decide)) (zpl_an hP 3 (by decide)) (zpl_a hP 3 (by decide)) (zbd_in hb17) ?_
      obtain ⟨x18, ex18, h⟩ := zlt_e h
      refine z_eqi C ex18 ?_
      obtain ⟨hb19, h⟩ := zck_e h
      refine z_aaload C dX2_draw_111 (t := 5) rfl (by decide) rfl (by decide) (zbd_in hb19) (z_rowJ (zbd_lt hb19)).1 ?_
      obtain ⟨L21, hg20, h⟩ := zb1_e h
      refine z_callS C dX2_draw_112 yy_X2_make (c_X2_make C.2.2.2.2.1 (z_rowJ (zbd_lt hb12)).2 (z_rowJ (zbd_lt hb16)).2 (z_rowJ (zbd_lt hb19)).2 (I ((P + 1 + 1)) v3.toNatClampNeg) I L hg20) q_903 q_904 (by decide) (by decide) rfl rfl (Nat.le_of_ble_eq_true rfl) ⟨Nat.le_refl _, Nat.le_refl _, Nat.le_refl _, Nat.le_refl _⟩ ?_
      exact l_X2_draw_115 C hP k61 hk61 v3 I L21 h
set_option maxHeartbeats 4000000 in
set_option maxRecDepth 100000 in
theorem L_X2_draw_61 {r : zL} (C : zC p l e R s m args below meth c s0 a0 d cy B0 yX2_draw.cls cX2_draw 4 none bc bs bc bs 3 90 []) {P : Nat} (hP : zpl P) (v3 : Int32) (I : zI) (L : zL) (h : zlp3 (f_X2_draw_61 P) zF v3 I L = some r) : zG p l e R s m args below meth c d cy B0 4 bc bs (zQ below s args d cy B0 bc bs (.inl none) zSH zKn bc bs I r) 61 [(0, .ref (B0 + 31)), (1, .ref (B0 + P)), (3, .int v3)] [] zSH zKn bc bs I L :=
 zlp3_e (fun (v3 : Int32) (I : zI) (L : zL) => zG p l e R s m args below meth c d cy B0 4 bc bs (zQ below s args d cy B0 bc bs (.inl none) zSH zKn bc bs I r) 61 [(0, .ref (B0 + 31)), (1, .ref (B0 + P)), (3, .int v3)] [] zSH zKn bc bs I L) (fun k9 hk9 v3 I L h => l_X2_draw_61 C hP k9 hk9 v3 I L h) zF v3 I L h
set_option maxHeartbeats 4000000 in
set_option maxRecDepth 100000 in
theorem l_X2_draw_28 {r : zL} (C : zC p l e R s m args below meth c s0 a0 d cy B0 yX2_draw.cls cX2_draw 4 none bc bs bc bs 3 90 []) {P : Nat} (hP : zpl P) (k28 : Int32 → zI → zL → Option zL) (hk28 : ∀ (v3 : Int32) (I : zI) (L : zL), k28 v3 I L = some r → zG p l e R s m args below meth c d cy B0 4 bc bs (zQ below s args d cy B0 bc bs (.inl none) zSH zKn bc bs I r) 28 [(0, .ref (B0 + 31)), (1, .ref (B0 + P)), (2, .ref (B0 + 20)), (3, .int v3)] [] zSH zKn bc bs I L) (v3 : Int32) (I : zI) (L : zL) (h : f_X2_draw_28 P k28 v3 I L = some r) : zG p l e R s m args below meth c d cy B0 4 bc bs (zQ below s args d cy B0 bc bs (.inl none) zSH zKn bc bs I r) 28 [(0, .ref (B0 + 31)), (1, .ref (B0 + P)), (2, .ref (B0 + 20)), (3, .int v3)] [] zSH zKn bc bs I L := by
  unfold f_X2_draw_28 at h
  refine z_iload_n C rfl 3 rfl dX2_draw_28 ?_
  refine z_aload_n C rfl 2 rfl dX2_draw_29 ?_
  refine z_geti C zc_1 dX2_draw_30 5 20 rfl (by decide) (by decide) q_277 rfl ?_
  refine z_icmp_ge C 59 (by decide) dX2_draw_33 (fun hc => ?_) (fun hc => ?_)
  · have h := zif_t hc h
    refine z_iconst C (v := 0) (by decide) dX2_draw_59 ?_
    refine z_istore_n C (lv' := [(3, .int (0 : Int32)), (0, .ref (B0 + 31)), (1, .ref (B0 + P)), (2, .ref (B0 + 20))]) rfl (by decide) rfl dX2_draw_60 ?_
    refine z_lv [1, 2, 0] (lv' := [(0, .ref (B0 + 31)), (1, .ref (B0 + P)), (3, .int (0 : Int32))]) rfl ?_
    exact L_X2_draw_61 C hP (0 : Int32) I L h
  · have h := zif_f hc h
    refine z_aload_n C rfl 2 rfl dX2_draw_36 ?_
    refine z_iload_n C rfl 3 rfl dX2_draw_37 ?_
    obtain ⟨L6, hg5, h⟩ := zb1_e h
    refine z_callV C zc_1 rfl (by decide) dX2_draw_38 yy_X1_fill (c_X1_fill C.2.2.2.2.1  v3 I L hg5) q_883 q_884 q_885 (by decide) (by decide) rfl rfl (Nat.le_of_ble_eq_true rfl) ⟨Nat.le_refl _, Nat.le_refl _, Nat.le_refl _, Nat.le_refl _⟩ ?_
    refine z_aload_n C rfl 0 rfl dX2_draw_41 ?_
    refine z_aload_n C rfl 1 rfl dX2_draw_42 ?_
    refine z_aload_n C rfl 2 rfl dX2_draw_43 ?_
    refine z_aload_n C rfl 2 rfl dX2_draw_44 ?_
    refine z_getr C zc_1 dX2_draw_45 0 20 21 rfl (by decide) (by decide) q_269 rfl rfl ?_
    refine z_iload_n C rfl 3 rfl dX2_draw_48 ?_
    obtain ⟨hb7, h⟩ := zck_e h
    refine z_iaload C dX2_draw_49 rfl rfl (by decide) (zbd_in hb7) ?_
    obtain ⟨L9, hg8, h⟩ := zb1_e h
    refine z_callV C zc_2 rfl (by decide) dX2_draw_50 yy_X2_addPolygon (c_X2_addPolygon C.2.2.2.2.1 hP (I 21 v3.toNatClampNeg) I L6 hg8) q_899 q_901 q_24 (by decide) (by decide) rfl rfl (Nat.le_of_ble_eq_true rfl) ⟨Nat.le_refl _, Nat.le_refl _, Nat.le_refl _, Nat.le_refl _⟩ ?_
    obtain ⟨x10, ex10, h⟩ := zlt_e h
    refine z_iinc C (j := 3) (v := x10) (lv' := [(3, .int x10), (0, .ref (B0 + 31)), (1, .ref (B0 + P)), (2, .ref (B0 + 20))]) rfl (by rw [ex10]; rfl) (by decide) rfl dX2_draw_53 ?_
    refine z_goto C 28 (by decide) dX2_draw_56 ?_
    refine z_lv [1, 2, 3, 0] (lv' := [(0, .ref (B0 + 31)), (1, .ref (B0 + P)), (2, .ref (B0 + 20)), (3, .int x10)]) rfl ?_
    exact hk28 x10 I L9 h
set_option maxHeartbeats 4000000 in
set_option maxRecDepth 100000 in
theorem L_X2_draw_28 {r : zL} (C : zC p l e R s m args below meth c s0 a0 d cy B0 yX2_draw.cls cX2_draw 4 none bc bs bc bs 3 90 []) {P : Nat} (hP : zpl P) (v3 : Int32) (I : zI) (L : zL) (h : zlp3 (f_X2_draw_28 P) zF v3 I L = some r) : zG p l e R s m args below meth c d cy B0 4 bc bs (zQ below s args d cy B0 bc bs (.inl none) zSH zKn bc bs I r) 28 [(0, .ref (B0 + 31)), (1, .ref (B0 + P)), (2, .ref (B0 + 20)), (3, .int v3)] [] zSH zKn bc bs I L :=
 zlp3_e (fun (v3 : Int32) (I : zI) (L : zL) => zG p l e R s m args below meth c d cy B0 4 bc bs (zQ below s args d cy B0 bc bs (.inl none) zSH zKn bc bs I r) 28 [(0, .ref (B0 + 31)), (1, .ref (B0 + P)), (2, .ref (B0 + 20)), (3, .int v3)] [] zSH zKn bc bs I L) (fun k9 hk9 v3 I L h => l_X2_draw_28 C hP k9 hk9 v3 I L h) zF v3 I L h
set_option maxHeartbeats 4000000 in
set_option maxRecDepth 100000 in
theorem l_X2_draw_2 {r : zL} (C : zC p l e R s m args below meth c s0 a0 d cy B0 yX2_draw.cls cX2_draw 4 none bc bs bc bs 3 90 []) {P : Nat} (hP : zpl P) (k2 : Int32 → zI → zL → Option zL) (hk2 : ∀ (v3 : Int32) (I : zI) (L : zL), k2 v3 I L = some r → zG p l e R s m args below meth c d cy B0 4 bc bs (zQ below s args d cy B0 bc bs (.inl none) zSH zKn bc bs I r) 2 [(0, .ref (B0 + 31)), (1, .ref (B0 + P)), (2, .ref (B0 + 20)), (3, .int v3)] [] zSH zKn bc bs I L) (v3 : Int32) (I : zI) (L : zL) (h : f_X2_draw_2 P k2 v3 I L = some r) : zG p l e R s m args below meth c d cy B0 4 bc bs (zQ below s args d cy B0 bc bs (.inl none) zSH zKn bc bs I r) 2 [(0, .ref (B0 + 31)), (1, .ref (B0 + P)), (2, .ref (B0 + 20)), (3, .int v3)] [] zSH zKn bc bs I L := by
  unfold f_X2_draw_2 at h
  refine z_iload_n C rfl 3 rfl dX2_draw_2 ?_
  refine z_aload_n C rfl 1 rfl dX2_draw_3 ?_
  refine z_geti C zc_7 dX2_draw_4 12 P (zpl_k hP) (zpl_lt hP) (by decide) q_197 rfl ?_
  refine z_icmp_ge C 26 (by decide) dX2_draw_7 (fun hc => ?_) (fun hc => ?_)
  · have h := zif_t hc h
    refine z_iconst C (v := 0) (by decide) dX2_draw_26 ?_
    refine z_istore_n C (lv' := [(3, .int (0 : Int32)), (0, .ref (B0 + 31)), (1, .ref (B0 + P)), (2, .ref (B0 + 20))]) rfl (by decide) rfl dX2_draw_27 ?_
    refine z_lv [1, 2, 3, 0] (lv' := [(0, .ref (B0 + 31)), (1, .ref (B0 + P)), (2, .ref (B0 + 20)), (3, .int (0 : Int32))]) rfl ?_
    exact L_X2_draw_28 C hP (0 : Int32) I L h
  · have h := zif_f hc h
    refine z_aload_n C rfl 0 rfl dX2_draw_10 ?_
    refine z_getr C zc_2 dX2_draw_11 0 31 32 rfl (by decide) (by decide) q_323 rfl rfl ?_
    refine z_iload_n C rfl 3 rfl dX2_draw_14 ?_
    obtain ⟨hb1, h⟩ := zck_e h
    refine z_aaload C dX2_draw_15 (t := 5) rfl (by decide) rfl (by decide) (zbd_in hb1) (z_rowJ (zbd_lt hb1)).1 ?_
    refine z_lconst C (v := 0) (by decide) dX2_draw_16 ?_
    obtain ⟨L3, hg2, h⟩ := zb1_e h
    refine z_callS C dX2_draw_17 yy_J7_fill_d0a16 (c_J7_fill_d0a16 C.2.2.2.2.1 (z_rowJ (zbd_lt hb1)).2 (0 : Int64) I L hg2) q_880 q_881 (by decide) (by decide) rfl rfl (Nat.le_of_ble_eq_true rfl) ⟨Nat.le_refl _, Nat.le_refl _, Nat.le_refl _, Nat.le_refl _⟩ ?_
    obtain ⟨x4, ex4, h⟩ := zlt_e h
    refine z_iinc C (j := 3) (v := x4) (lv' := [(3, .int x4), (0, .ref (B0 + 31)), (1, .ref (B0 + P)), (2, .ref (B0 + 20))]) rfl (by rw [ex4]; rfl) (by decide) rfl dX2_draw_20 ?_
    refine z_goto C 2 (by decide) dX2_draw_23 ?_
    refine z_lv [1, 2, 3, 0] (lv' := [(0, .ref (B0 + 31)), (1, .ref (B0 + P)), (2, .ref (B0 + 20)), (3, .int x4)]) rfl ?_
    exact hk2 x4 I L3 h
set_option maxHeartbeats 4000000 in
set_option maxRecDepth 100000 in
theorem L_X2_draw_2 {r : zL} (C : zC p l e R s m args below meth c s0 a0 d cy B0 yX2_draw.cls cX2_draw 4 none bc bs bc bs 3 90 []) {P : Nat} (hP : zpl P) (v3 : Int32) (I : zI) (L : zL) (h : zlp3 (f_X2_draw_2 P) zF v3 I L = some r) : zG p l e R s m args below meth c d cy B0 4 bc bs (zQ below s args d cy B0 bc bs (.inl none) zSH zKn bc bs I r) 2 [(0, .ref (B0 + 31)), (1, .ref (B0 + P)), (2, .ref (B0 + 20)), (3, .int v3)] [] zSH zKn bc bs I L :=
 zlp3_e (fun (v3 : Int32) (I : zI) (L : zL) => zG p l e R s m args below meth c d cy B0 4 bc bs (zQ below s args d cy B0 bc bs (.inl none) zSH zKn bc bs I r) 2 [(0, .ref (B0 + 31)), (1, .ref (B0 + P)), (2, .ref (B0 + 20)), (3, .int v3)] [] zSH zKn bc bs I L) (fun k9 hk9 v3 I L h => l_X2_draw_2 C hP k9 hk9 v3 I L h) zF v3 I L h
set_option maxHeartbeats 4000000 in
set_option maxRecDepth 100000 in
theorem c_X2_draw {r : zL} (hE : zE0 l s0 a0 d cy B0) {P : Nat} (hP : zpl P) (I : zI) (L : zL) (h : f_X2_draw P I L = some r) : zM l s0 d cy B0 yX2_draw cX2_draw 4 none 3 90 [.ref (B0 + 31), .ref (B0 + P), .ref (B0 + 20)] zSH zKn bc bs I L (.inl none) zSH zKn bc bs I r := by
  refine z_meth yy_X2_draw hE (Nat.le_of_ble_eq_true rfl) (fun p e R s m args below meth c C => ?_)
  show zG p l e R s m args below meth c d cy B0 4 bc bs (zQ below s args d cy B0 bc bs (.inl none) zSH zKn bc bs I r) 0 [(0, .ref (B0 + 31)), (1, .ref (B0 + P)), (2, .ref (B0 + 20))] [] zSH zKn bc bs I L
  unfold f_X2_draw at h
  refine z_iconst C (v := 0) (by decide) dX2_draw_0 ?_
  refine z_istore_n C (lv' := [(3, .int (0 : Int32)), (0, .ref (B0 + 31)), (1, .ref (B0 + P)), (2, .ref (B0 + 20))]) rfl (by decide) rfl dX2_draw_1 ?_
  refine z_lv [1, 2, 3, 0] (lv' := [(0, .ref (B0 + 31)), (1, .ref (B0 + P)), (2, .ref (B0 + 20)), (3, .int (0 : Int32))]) rfl ?_
  exact L_X2_draw_2 C hP (0 : Int32) I L h
theorem q_917 : (Cond.code ({ cls := "java/util/Arrays", name := "fill", desc := "([II)V" } : Jvm.MethodName) prog_28_method_103_code (4 : Nat) (Option.none : Option Jvm.ClassFile.FieldType)) ∈ lw_tbl := List.mem_of_getElem? (i := 917) (by decide +kernel)
theorem yy_J7_fill_53178 : zY yJ7_fill_53178 cJ7_fill_53178 4 none 2 := ⟨q_917, q_99, by decide +kernel, by decide +kernel, by decide +kernel⟩
noncomputable def f_J7_fill_53178_5 (r0 : Nat) (k5 : Int32 → Int32 → Int32 → zI → Option zI) (v1 : Int32) (v2 : Int32) (v3 : Int32) (I : zI) : Option zI :=
  if v3 ≤ v2 then (some I) else (zck (zbd v2 4096) (zlt (zu I r0 v2.toNatClampNeg v1) (fun I2 => zlt (v2 + 1) (fun x3 => k5 v1 x3 v3 I2))))
noncomputable def f_J7_fill_53178 (r0 : Nat) (a1 : Int32) (I : zI) : Option zI :=
  zlp4 (f_J7_fill_53178_5 r0) zF a1 (0 : Int32) (4096 : Int32) I
set_option maxHeartbeats 4000000 in
set_option maxRecDepth 100000 in
theorem l_J7_fill_53178_5 {r : zI} (C : zC p l e R s m args below meth c s0 a0 d cy B0 yJ7_fill_53178.cls cJ7_fill_53178 4 none bc bs bc bs 0 0 []) {r0 : Nat} (hr0 : zar 14 4096 r0) (L : zL) (k5 : Int32 → Int32 → Int32 → zI → Option zI) (hk5 : ∀ (v1 : Int32) (v2 : Int32) (v3 : Int32) (I : zI), k5 v1 v2 v3 I = some r → zG p l e R s m args below meth c d cy B0 4 bc bs (zQ below s args d cy B0 bc bs (.inl none) zSH zKn bc bs r L) 5 [(0, .ref (B0 + r0)), (1, .int v1), (2, .int v2), (3, .int v3)] [] zSH zKn bc bs I L) (v1 : Int32) (v2 : Int32) (v3 : Int32) (I : zI) (h : f_J7_fill_53178_5 r0 k5 v1 v2 v3 I = some r) : zG p l e R s m args below meth c d cy B0 4 bc bs (zQ below s args d cy B0 bc bs (.inl none) zSH zKn bc bs r L) 5 [(0, .ref (B0 + r0)), (1, .int v1), (2, .int v2), (3, .int v3)] [] zSH zKn bc bs I L := by
  unfold f_J7_fill_53178_5 at h
  refine z_iload_n C rfl 2 rfl dJ7_fill_53178_5 ?_
  refine z_iload_n C rfl 3 rfl dJ7_fill_53178_6 ?_
  refine z_icmp_ge C 20 (by decide) dJ7_fill_53178_7 (fun hc => ?_) (fun hc => ?_)
  · have h := zif_t hc h
    obtain rfl := Option.some.inj h
    exact z_vret C dJ7_fill_53178_20 rfl rfl
  · have h := zif_f hc h
    refine z_aload_n C rfl 0 rfl dJ7_fill_53178_10 ?_
    refine z_iload_n C rfl 2 rfl dJ7_fill_53178_11 ?_
    refine z_iload_n C rfl 1 rfl dJ7_fill_53178_12 ?_
    obtain ⟨hb1, h⟩ := zck_e h
    refine z_iastore C dJ7_fill_53178_13 hr0.1 hr0.2.1 hr0.2.2 (zbd_in hb1) ?_
    obtain ⟨I2, eI2, h⟩ := zlt_e h
    refine z_eqI C eI2 ?_
    obtain ⟨x3, ex3, h⟩ := zlt_e h
    refine z_iinc C (j := 2) (v := x3) (lv' := [(2, .int x3), (0, .ref (B0 + r0)), (1, .int v1), (3, .int v3)]) rfl (by rw [ex3]; rfl) (by decide) rfl dJ7_fill_53178_14 ?_
    refine z_goto C 5 (by decide) dJ7_fill_53178_17 ?_
    refine z_lv [1, 2, 0, 3] (lv' := [(0, .ref (B0 + r0)), (1, .int v1), (2, .int x3), (3, .int v3)]) rfl ?_
    exact hk5 v1 x3 v3 I2 h
set_option maxHeartbeats 4000000 in
set_option maxRecDepth 100000 in
theorem L_J7_fill_53178_5 {r : zI} (C : zC p l e R s m args below meth c s0 a0 d cy B0 yJ7_fill_53178.cls cJ7_fill_53178 4 none bc bs bc bs 0 0 []) {r0 : Nat} (hr0 : zar 14 4096 r0) (L : zL) (v1 : Int32) (v2 : Int32) (v3 : Int32) (I : zI) (h : zlp4 (f_J7_fill_53178_5 r0) zF v1 v2 v3 I = some r) : zG p l e R s m args below meth c d cy B0 4 bc bs (zQ below s args d cy B0 bc bs (.inl none) zSH zKn bc bs r L) 5 [(0, .ref (B0 + r0)), (1, .int v1), (2, .int v2), (3, .int v3)] [] zSH zKn bc bs I L :=
 zlp4_e (fun (v1 : Int32) (v2 : Int32) (v3 : Int32) (I : zI) => zG p l e R s m args below meth c d cy B0 4 bc bs (zQ below s args d cy B0 bc bs (.inl none) zSH zKn bc bs r L) 5 [(0, .ref (B0 + r0)), (1, .int v1), (2, .int v2), (3, .int v3)] [] zSH zKn bc bs I L) (fun k9 hk9 v1 v2 v3 I h => l_J7_fill_53178_5 C hr0 L k9 hk9 v1 v2 v3 I h) zF v1 v2 v3 I h
set_option maxHeartbeats 4000000 in
set_option maxRecDepth 100000 in
theorem c_J7_fill_53178 {r : zI} (hE : zE0 l s0 a0 d cy B0) {r0 : Nat} (hr0 : zar 14 4096 r0) (a1 : Int32) (I : zI) (L : zL) (h : f_J7_fill_53178 r0 a1 I = some r) : zM l s0 d cy B0 yJ7_fill_53178 cJ7_fill_53178 4 none 0 0 [.ref (B0 + r0), .int a1] zSH zKn bc bs I L (.inl none) zSH zKn bc bs r L := by
  refine z_meth yy_J7_fill_53178 hE (Nat.le_of_ble_eq_true rfl) (fun p e R s m args below meth c C => ?_)
  show zG p l e R s m args below meth c d cy B0 4 bc bs (zQ below s args d cy B0 bc bs (.inl none) zSH zKn bc bs r L) 0 [(0, .ref (B0 + r0)), (1, .int a1)] [] zSH zKn bc bs I L
  unfold f_J7_fill_53178 at h
  refine z_iconst C (v := 0) (by decide) dJ7_fill_53178_0 ?_
  refine z_istore_n C (lv' := [(2, .int (0 : Int32)), (0, .ref (B0 + r0)), (1, .int a1)]) rfl (by decide) rfl dJ7_fill_53178_1 ?_
  refine z_aload_n C rfl 1 rfl dJ7_fill_53178_2 ?_
  refine z_alenI C dJ7_fill_53178_3 hr0.1 hr0.2.1 hr0.2.2 (v := 4096) (by decide) ?_
  refine z_istore_n C (lv' := [(3, .int (4096 : Int32)), (2, .int (0 : Int32)), (0, .ref (B0 + r0)), (1, .int a1)]) rfl (by decide) rfl dJ7_fill_53178_4 ?_
  refine z_lv [2, 3, 1, 0] (lv' := [(0, .ref (B0 + r0)), (1, .int a1), (2, .int (0 : Int32)), (3, .int (4096 : Int32))]) rfl ?_
  exact L_J7_fill_53178_5 C hr0 L a1 (0 : Int32) (4096 : Int32) I h
theorem q_340 : (Cond.fieldLink "DeviceFind$Nets" (98 : Nat) "DeviceFind$Peeler" "squares" "[I") ∈ lw_tbl := List.mem_of_getElem? (i := 340) (by decide +kernel)
theorem q_343 : (Cond.fieldLink "DeviceFind$Nets" (95 : Nat) "DeviceFind$Peeler" "taken" "I") ∈ lw_tbl := List.mem_of_getElem? (i := 343) (by decide +kernel)
theorem q_375 : (Cond.fieldLink "DeviceFind$Nets" (34 : Nat) "DeviceFind$Nets" "peeler" "LDeviceFind$Peeler;") ∈ lw_tbl := List.mem_of_getElem? (i := 375) (by decide +kernel)
theorem q_376 : (Cond.fieldLink "DeviceFind$Nets" (20 : Nat) "DeviceFind$Nets" "lesser" "[I") ∈ lw_tbl := List.mem_of_getElem? (i := 376) (by decide +kernel)
theorem q_378 : (Cond.fieldLink "DeviceFind$Nets" (27 : Nat) "DeviceFind$Nets" "nodes" "I") ∈ lw_tbl := List.mem_of_getElem? (i := 378) (by decide +kernel)
theorem q_914 : (Cond.code ({ cls := "DeviceFind$Nets", name := "findNodes", desc := "([I[J)V" } : Jvm.MethodName) prog_5_method_5_code (5 : Nat) (Option.none : Option Jvm.ClassFile.FieldType)) ∈ lw_tbl := List.mem_of_getElem? (i := 914) (by decide +kernel)
theorem q_915 : (Cond.methodLink "DeviceFind$Nets" (79 : Nat) ({ cls := "java/util/Arrays", name := "fill", desc := "([II)V" } : Jvm.MethodName)) ∈ lw_tbl := List.mem_of_getElem? (i := 915) (by decide +kernel)
theorem q_916 : (Cond.static ({ cls := "java/util/Arrays", name := "fill", desc := "([II)V" } : Jvm.MethodName)) ∈ lw_tbl := List.mem_of_getElem? (i := 916) (by decide +kernel)
theorem q_918 : (Cond.methodLink "DeviceFind$Nets" (85 : Nat) ({ cls := "DeviceFind$Peeler", name := "open", desc := "([J)V" } : Jvm.MethodName)) ∈ lw_tbl := List.mem_of_getElem? (i := 918) (by decide +kernel)
theorem q_929 : (Cond.methodLink "DeviceFind$Nets" (91 : Nat) ({ cls := "DeviceFind$Peeler", name := "next", desc := "()Z" } : Jvm.MethodName)) ∈ lw_tbl := List.mem_of_getElem? (i := 929) (by decide +kernel)
theorem yy_X3_findNodes : zY yX3_findNodes cX3_findNodes 5 none 2 := ⟨q_914, q_85, by decide +kernel, by decide +kernel, by decide +kernel⟩
noncomputable def f_X3_findNodes_35 (k15 : Int32 → zI → zL → Option (zI × zL)) (r1 : Nat) (r2 : Nat) (k35 : Int32 → Int32 → zI → zL → Option (zI × zL)) (v3 : Int32) (v4 : Int32) (I : zI) (L : zL) : Option (zI × zL) :=
  if (I 57 2) ≤ v4 then (zck (zbd (I 61 6) 16384) (zlt (zu I 71 (I 61 6).toNatClampNeg (I 61 6)) (fun I11 => zlt ((I11 61 6) + (1 : Int32)) (fun x12 => zlt (zu I11 61 6 x12) (fun I13 => zlt (v3 + 1) (fun x14 => k15 x14 I13 L)))))) else (zck (zbd v4 4096) (zck (zbd (I 59 v4.toNatClampNeg) 4096) (zlt (zu I r1 (I 59 v4.toNatClampNeg).toNatClampNeg (I 61 6)) (fun I17 => zlt (v4 + 1) (fun x18 => k35 v3 x18 I17 L)))))
noncomputable def f_X3_findNodes_98 (r1 : Nat) (r2 : Nat) (I : zI) (L : zL) : Option (zI × zL) :=
  some (I, L)
noncomputable def f_X3_findNodes_15 (r1 : Nat) (r2 : Nat) (k15 : Int32 → zI → zL → Option (zI × zL)) (v3 : Int32) (I : zI) (L : zL) : Option (zI × zL) :=
  if (2048 : Int32) ≤ v3 then (f_X3_findNodes_98 r1 r2 I L) else (zb3 (f_X5_next I L) (fun x7 I8 L9 => if x7 = 0 then (f_X3_findNodes_98 r1 r2 I8 L9) else (zlp4 (f_X3_findNodes_35 k15 r1 r2) zF v3 (0 : Int32) I8 L9)))
noncomputable def f_X3_findNodes (r1 : Nat) (r2 : Nat) (I : zI) (L : zL) : Option (zI × zL) :=
  zb1 (f_J7_fill_53178 r1 (-1 : Int32) I) (fun I2 => zb2 (f_X5_open r2 I2 L) (fun I4 L5 => zlp3 (f_X3_findNodes_15 r1 r2) zF (0 : Int32) I4 L5))
set_option maxHeartbeats 4000000 in
set_option maxRecDepth 100000 in
theorem l_X3_findNodes_35 {r : zI × zL} (C : zC p l e R s m args below meth c s0 a0 d cy B0 yX3_findNodes.cls cX3_findNodes 5 none bc bs bc bs 4 105 []) {r1 : Nat} (hr1 : zar 14 4096 r1) {r2 : Nat} (hr2 : zar 15 64 r2) (k15 : Int32 → zI → zL → Option (zI × zL)) (hk15 : ∀ (v3 : Int32) (I : zI) (L : zL), k15 v3 I L = some r → zG p l e R s m args below meth c d cy B0 5 bc bs (zQ below s args d cy B0 bc bs (.inl none) zSH zKn bc bs r.1 r.2) 15 [(0, .ref (B0 + 61)), (1, .ref (B0 + r1)), (3, .int v3)] [] zSH zKn bc bs I L) (k35 : Int32 → Int32 → zI → zL → Option (zI × zL)) (hk35 : ∀ (v3 : Int32) (v4 : Int32) (I : zI) (L : zL), k35 v3 v4 I L = some r → zG p l e R s m args below meth c d cy B0 5 bc bs (zQ below s args d cy B0 bc bs (.inl none) zSH zKn bc bs r.1 r.2) 35 [(0, .ref (B0 + 61)), (1, .ref (B0 + r1)), (3, .int v3), (4, .int v4)] [] zSH zKn bc bs I L) (v3 : Int32) (v4 : Int32) (I : zI) (L : zL) (h : f_X3_findNodes_35 k15 r1 r2 k35 v3 v4 I L = some r) : zG p l e R s m args below meth c d cy B0 5 bc bs (zQ below s args d cy B0 bc bs (.inl none) zSH zKn bc bs r.1 r.2) 35 [(0, .ref (B0 + 61)), (1, .ref (B0 + r1)), (3, .int v3), (4, .int v4)] [] zSH zKn bc bs I L := by
  unfold f_X3_findNodes_35 at h
  refine z_iload C 3 rfl dX3_findNodes_35 ?_
  refine z_aload_n C rfl 0 rfl dX3_findNodes_37 ?_
  refine z_getr C zc_3 dX3_findNodes_38 3 61 57 rfl (by decide) (by decide) q_375 rfl rfl ?_
  refine z_geti C zc_5 dX3_findNodes_41 2 57 rfl (by decide) (by decide) q_343 rfl ?_
  refine z_icmp_ge C 69 (by decide) dX3_findNodes_44 (fun hc => ?_) (fun hc => ?_)
  · have h := zif_t hc h
    refine z_aload_n C rfl 0 rfl dX3_findNodes_69 ?_
    refine z_getr C zc_3 dX3_findNodes_70 4 61 71 rfl (by decide) (by decide) q_376 rfl rfl ?_
    refine z_aload_n C rfl 0 rfl dX3_findNodes_73 ?_
    refine z_geti C zc_3 dX3_findNodes_74 6 61 rfl (by decide) (by decide) q_378 rfl ?_
    refine z_aload_n C rfl 0 rfl dX3_findNodes_77 ?_
    refine z_geti C zc_3 dX3_findNodes_78 6 61 rfl (by decide) (by decide) q_378 rfl ?_
    obtain ⟨hb10, h⟩ := zck_e h
    refine z_iastore C dX3_findNodes_81 rfl rfl (by decide) (zbd_in hb10) ?_
    obtain ⟨I11, eI11, h⟩ := zlt_e h
    refine z_eqI C eI11 ?_
    refine z_aload_n C rfl 0 rfl dX3_findNodes_82 ?_
    refine z_dup C rfl dX3_findNodes_83 ?_
    refine z_geti C zc_3 dX3_findNodes_84 6 61 rfl (by decide) (by decide) q_378 rfl ?_
    refine z_iconst C (v := 1) (by decide) dX3_findNodes_87 ?_
    refine z_iadd C dX3_findNodes_88 ?_
    obtain ⟨x12, ex12, h⟩ := zlt_e h
    refine z_eqi C ex12 ?_
    refine z_puti C zc_3 dX3_findNodes_89 6 61 rfl (by decide) (by decide) rfl q_378 rfl rfl rfl ?_
    obtain ⟨I13, eI13, h⟩ := zlt_e h
    refine z_eqI C eI13 ?_
    obtain ⟨x14, ex14, h⟩ := zlt_e h
    refine z_iinc C (j := 2) (v := x14) (lv' := [(3, .int x14), (0, .ref (B0 + 61)), (1, .ref (B0 + r1)), (4, .int v4)]) rfl (by rw [ex14]; rfl) (by decide) rfl dX3_findNodes_92 ?_
    refine z_goto C 15 (by decide) dX3_findNodes_95 ?_
    refine z_lv [1, 2, 0] (lv' := [(0, .ref (B0 + 61)), (1, .ref (B0 + r1)), (3, .int x14)]) rfl ?_
    exact hk15 x14 I13 L h
  · have h := zif_f hc h
    refine z_aload_n C rfl 1 rfl dX3_findNodes_47 ?_
    refine z_aload_n C rfl 0 rfl dX3_findNodes_48 ?_
    refine z_getr C zc_3 dX3_findNodes_49 3 61 57 rfl (by decide) (by decide) q_375 rfl rfl ?_
    refine z_getr C zc_5 dX3_findNodes_52 1 57 59 rfl (by decide) (by decide) q_340 rfl rfl ?_
    refine z_iload C 3 rfl dX3_findNodes_55 ?_
    obtain ⟨hb15, h⟩ := zck_e h
    refine z_iaload C dX3_findNodes_57 rfl rfl (by decide) (zbd_in hb15) ?_
    refine z_aload_n C rfl 0 rfl dX3_findNodes_58 ?_
    refine z_geti C zc_3 dX3_findNodes_59 6 61 rfl (by decide) (by decide) q_378 rfl ?_
    obtain ⟨hb16, h⟩ := zck_e h
    refine z_iastore C dX3_findNodes_62 hr1.1 hr1.2.1 hr1.2.2 (zbd_in hb16) ?_
    obtain ⟨I17, eI17, h⟩ := zlt_e h
    refine z_eqI C eI17 ?_
    obtain ⟨x18, ex18, h⟩ := zlt_e h
    refine z_iinc C (j := 3) (v := x18) (lv' := [(4, .int x18), (0, .ref (B0 + 61)), (1, .ref (B0 + r1)), (3, .int v3)]) rfl (by rw [ex18]; rfl) (by decide) rfl dX3_findNodes_63 ?_
    refine z_goto C 35 (by decide) dX3_findNodes_66 ?_
    refine z_lv [1, 2, 3, 0] (lv' := [(0, .ref (B0 + 61)), (1, .ref (B0 + r1)), (3, .int v3), (4, .int x18)]) rfl ?_
    exact hk35 v3 x18 I17 L h
set_option maxHeartbeats 4000000 in
set_option maxRecDepth 100000 in
theorem L_X3_findNodes_35 {r : zI × zL} (C : zC p l e R s m args below meth c s0 a0 d cy B0 yX3_findNodes.cls cX3_findNodes 5 none bc bs bc bs 4 105 []) {r1 : Nat} (hr1 : zar 14 4096 r1) {r2 : Nat} (hr2 : zar 15 64 r2) (k15 : Int32 → zI → zL → Option (zI × zL)) (hk15 : ∀ (v3 : Int32) (I : zI) (L : zL), k15 v3 I L = some r → zG p l e R s m args below meth c d cy B0 5 bc bs (zQ below s args d cy B0 bc bs (.inl none) zSH zKn bc bs r.1 r.2) 15 [(0, .ref (B0 + 61)), (1, .ref (B0 + r1)), (3, .int v3)] [] zSH zKn bc bs I L) (v3 : Int32) (v4 : Int32) (I : zI) (L : zL) (h : zlp4 (f_X3_findNodes_35 k15 r1 r2) zF v3 v4 I L = some r) : zG p l e R s m args below meth c d cy B0 5 bc bs (zQ below s args d cy B0 bc bs (.inl none) zSH zKn bc bs r.1 r.2) 35 [(0, .ref (B0 + 61)), (1, .ref (B0 + r1)), (3, .int v3), (4, .int v4)] [] zSH zKn bc bs I L :=
 zlp4_e (fun (v3 : Int32) (v4 : Int32) (I : zI) (L : zL) => zG p l e R s m args below meth c d cy B0 5 bc bs (zQ below s args d cy B0 bc bs (.inl none) zSH zKn bc bs r.1 r.2) 35 [(0, .ref (B0 + 61)), (1, .ref (B0 + r1)), (3, .int v3), (4, .int v4)] [] zSH zKn bc bs I L) (fun k9 hk9 v3 v4 I L h => l_X3_findNodes_35 C hr1 hr2 k15 hk15 k9 hk9 v3 v4 I L h) zF v3 v4 I L h
set_option maxHeartbeats 4000000 in
set_option maxRecDepth 100000 in
theorem l_X3_findNodes_98 {r : zI × zL} (C : zC p l e R s m args below meth c s0 a0 d cy B0 yX3_findNodes.cls cX3_findNodes 5 none bc bs bc bs 4 105 []) {r1 : Nat} (hr1 : zar 14 4096 r1) {r2 : Nat} (hr2 : zar 15 64 r2) (I : zI) (L : zL) (h : f_X3_findNodes_98 r1 r2 I L = some r) : zG p l e R s m args below meth c d cy B0 5 bc bs (zQ below s args d cy B0 bc bs (.inl none) zSH zKn bc bs r.1 r.2) 98 [] [] zSH zKn bc bs I L := by
  unfold f_X3_findNodes_98 at h
  obtain rfl := Option.some.inj h
  exact z_vret C dX3_findNodes_98 rfl rfl
set_option maxHeartbeats 4000000 in
set_option maxRecDepth 100000 in
theorem l_X3_findNodes_15 {r : zI × zL} (C : zC p l e R s m args below meth c s0 a0 d cy B0 yX3_findNodes.cls cX3_findNodes 5 none bc bs bc bs 4 105 []) {r1 : Nat} (hr1 : zar 14 4096 r1) {r2 : Nat} (hr2 : zar 15 64 r2) (k15 : Int32 → zI → zL → Option (zI × zL)) (hk15 : ∀ (v3 : Int32) (I : zI) (L : zL), k15 v3 I L = some r → zG p l e R s m args below meth c d cy B0 5 bc bs (zQ below s args d cy B0 bc bs (.inl none) zSH zKn bc bs r.1 r.2) 15 [(0, .ref (B0 + 61)), (1, .ref (B0 + r1)), (3, .int v3)] [] zSH zKn bc bs I L) (v3 : Int32) (I : zI) (L : zL) (h : f_X3_findNodes_15 r1 r2 k15 v3 I L = some r) : zG p l e R s m args below meth c d cy B0 5 bc bs (zQ below s args d cy B0 bc bs (.inl none) zSH zKn bc bs r.1 r.2) 15 [(0, .ref (B0 + 61)), (1, .ref (B0 + r1)), (3, .int v3)] [] zSH zKn bc bs I L := by
  unfold f_X3_findNodes_15 at h
  refine z_iload_n C rfl 2 rfl dX3_findNodes_15 ?_
  refine z_sipush C (v := 2048) (by decide) dX3_findNodes_16 ?_
  refine z_icmp_ge C 98 (by decide) dX3_findNodes_19 (fun hc => ?_) (fun hc => ?_)
  · have h := zif_t hc h
    refine z_lv [] (lv' := []) rfl ?_
    exact l_X3_findNodes_98 C hr1 hr2 I L h
  · have h := zif_f hc h
    refine z_aload_n C rfl 0 rfl dX3_findNodes_22 ?_
    refine z_getr C zc_3 dX3_findNodes_23 3 61 57 rfl (by decide) (by decide) q_375 rfl rfl ?_
    obtain ⟨x7, I8, L9, hg6, h⟩ := zb3_e h
    refine z_callV C zc_5 rfl (by decide) dX3_findNodes_26 yy_X5_next (c_X5_next C.2.2.2.2.1  I L hg6) q_929 q_930 q_931 (by decide) (by decide) rfl rfl (Nat.le_of_ble_eq_true rfl) ⟨Nat.le_refl _, Nat.le_refl _, Nat.le_refl _, Nat.le_refl _⟩ ?_
    refine z_if_eq C 98 (by decide) dX3_findNodes_29 (fun hc => ?_) (fun hc => ?_)
    · have h := zif_t hc h
      refine z_lv [] (lv' := []) rfl ?_
      exact l_X3_findNodes_98 C hr1 hr2 I8 L9 h
    · have h := zif_f hc h
      refine z_iconst C (v := 0) (by decide) dX3_findNodes_32 ?_
      refine z_istore C (lv' := [(4, .int (0 : Int32)), (0, .ref (B0 + 61)), (1, .ref (B0 + r1)), (3, .int v3)]) (by decide) rfl dX3_findNodes_33 ?_
      refine z_lv [1, 2, 3, 0] (lv' := [(0, .ref (B0 + 61)), (1, .ref (B0 + r1)), (3, .int v3), (4, .int (0 : Int32))]) rfl ?_
      exact L_X3_findNodes_35 C hr1 hr2 k15 hk15 v3 (0 : Int32) I8 L9 h
set_option maxHeartbeats 4000000 in
set_option maxRecDepth 100000 in
theorem L_X3_findNodes_15 {r : zI × zL} (C : zC p l e R s m args below meth c s0 a0 d cy B0 yX3_findNodes.cls cX3_findNodes 5 none bc bs bc bs 4 105 []) {r1 : Nat} (hr1 : zar 14 4096 r1) {r2 : Nat} (hr2 : zar 15 64 r2) (v3 : Int32) (I : zI) (L : zL) (h : zlp3 (f_X3_findNodes_15 r1 r2) zF v3 I L = some r) : zG p l e R s m args below meth c d cy B0 5 bc bs (zQ below s args d cy B0 bc bs (.inl none) zSH zKn bc bs r.1 r.2) 15 [(0, .ref (B0 + 61)), (1, .ref (B0 + r1)), (3, .int v3)] [] zSH zKn bc bs I L :=
 zlp3_e (fun (v3 : Int32) (I : zI) (L : zL) => zG p l e R s m args below meth c d cy B0 5 bc bs (zQ below s args d cy B0 bc bs (.inl none) zSH zKn bc bs r.1 r.2) 15 [(0, .ref (B0 + 61)), (1, .ref (B0 + r1)), (3, .int v3)] [] zSH zKn bc bs I L) (fun k9 hk9 v3 I L h => l_X3_findNodes_15 C hr1 hr2 k9 hk9 v3 I L h) zF v3 I L h
set_option maxHeartbeats 4000000 in
set_option maxRecDepth 100000 in
theorem c_X3_findNodes {r : zI × zL} (hE : zE0 l s0 a0 d cy B0) {r1 : Nat} (hr1 : zar 14 4096 r1) {r2 : Nat} (hr2 : zar 15 64 r2) (I : zI) (L : zL) (h : f_X3_findNodes r1 r2 I L = some r) : zM l s0 d cy B0 yX3_findNodes cX3_findNodes 5 none 4 105 [.ref (B0 + 61), .ref (B0 + r1), .ref (B0 + r2)] zSH zKn bc bs I L (.inl none) zSH zKn bc bs r.1 r.2 := by
  refine z_meth yy_X3_findNodes hE (Nat.le_of_ble_eq_true rfl) (fun p e R s m args below meth c C => ?_)
  show zG p l e R s m args below meth c d cy B0 5 bc bs (zQ below s args d cy B0 bc bs (.inl none) zSH zKn bc bs r.1 r.2) 0 [(0, .ref (B0 + 61)), (1, .ref (B0 + r1)), (2, .ref (B0 + r2))] [] zSH zKn bc bs I L
  unfold f_X3_findNodes at h
  refine z_aload_n C rfl 1 rfl dX3_findNodes_0 ?_
  refine z_iconst C (v := -1) (by decide) dX3_findNodes_1 ?_
  obtain ⟨I2, hg1, h⟩ := zb1_e h
  refine z_callS C dX3_findNodes_2 yy_J7_fill_53178 (c_J7_fill_53178 C.2.2.2.2.1 hr1 (-1 : Int32) I L hg1) q_915 q_916 (by decide) (by decide) rfl rfl (Nat.le_of_ble_eq_true rfl) ⟨Nat.le_refl _, Nat.le_refl _, Nat.le_refl _, Nat.le_refl _⟩ ?_
  refine z_aload_n C rfl 0 rfl dX3_findNodes_5 ?_
  refine z_getr C zc_3 dX3_findNodes_6 3 61 57 rfl (by decide) (by decide) q_375 rfl rfl ?_
  refine z_aload_n C rfl 2 rfl dX3_findNodes_9 ?_
  obtain ⟨I4, L5, hg3, h⟩ := zb2_e h
  refine z_callV C zc_5 rfl (by decide) dX3_findNodes_10 yy_X5_open (c_X5_open C.2.2.2.2.1 hr2 I2 L hg3) q_918 q_919 q_920 (by decide) (by decide) rfl rfl (Nat.le_of_ble_eq_true rfl) ⟨Nat.le_refl _, Nat.le_refl _, Nat.le_refl _, Nat.le_refl _⟩ ?_
  refine z_iconst C (v := 0) (by decide) dX3_findNodes_13 ?_
  refine z_istore_n C (lv' := [(3, .int (0 : Int32)), (0, .ref (B0 + 61)), (1, .ref (B0 + r1)), (2, .ref (B0 + r2))]) rfl (by decide) rfl dX3_findNodes_14 ?_
  refine z_lv [1, 2, 0] (lv' := [(0, .ref (B0 + 61)), (1, .ref (B0 + r1)), (3, .int (0 : Int32))]) rfl ?_
  exact L_X3_findNodes_15 C hr1 hr2 (0 : Int32) I4 L5 h
theorem q_969 : (Cond.code ({ cls := "DeviceFind$Nets", name := "leastOf", desc := "(I)I" } : Jvm.MethodName) prog_5_method_8_code (4 : Nat) (Option.some Jvm.ClassFile.FieldType.int)) ∈ lw_tbl := List.mem_of_getElem? (i := 969) (by decide +kernel)
theorem yy_X3_leastOf : zY yX3_leastOf cX3_leastOf 4 (some .int) 1 := ⟨q_969, q_85, by decide +kernel, by decide +kernel, by decide +kernel⟩
noncomputable def f_X3_leastOf_52 (v2 : Int32) (I : zI) : Option (Int32 × zI) :=
  some (v2, I)
noncomputable def f_X3_leastOf_4 (k4 : Int32 → Int32 → zI → Option (Int32 × zI)) (v2 : Int32) (v3 : Int32) (I : zI) : Option (Int32 × zI) :=
  if (I 61 6) ≤ v3 then (f_X3_leastOf_52 v2 I) else (zck (zbd v2 16384) (if (I 71 v2.toNatClampNeg) = v2 then (f_X3_leastOf_52 v2 I) else (zck (zbd v2 16384) (zlt (I 71 v2.toNatClampNeg) (fun x3 => zck (zbd x3 16384) (zck (zbd v2 16384) (zlt (zu I 71 v2.toNatClampNeg (I 71 x3.toNatClampNeg)) (fun I6 => zck (zbd v2 16384) (zlt (I6 71 v2.toNatClampNeg) (fun x8 => zlt (v3 + 1) (fun x9 => k4 x8 x9 I6)))))))))))
noncomputable def f_X3_leastOf (a1 : Int32) (I : zI) : Option (Int32 × zI) :=
  zlp3 (f_X3_leastOf_4) zF a1 (0 : Int32) I
set_option maxHeartbeats 4000000 in
set_option maxRecDepth 100000 in
theorem l_X3_leastOf_52 {r : Int32 × zI} (C : zC p l e R s m args below meth c s0 a0 d cy B0 yX3_leastOf.cls cX3_leastOf 4 (some .int) bc bs bc bs 0 0 []) (L : zL) (v2 : Int32) (I : zI) (h : f_X3_leastOf_52 v2 I = some r) : zG p l e R s m args below meth c d cy B0 4 bc bs (zQ below s args d cy B0 bc bs (.inl (some (.int r.1))) zSH zKn bc bs r.2 L) 52 [(2, .int v2)] [] zSH zKn bc bs I L := by
  unfold f_X3_leastOf_52 at h
  refine z_iload_n C rfl 0 rfl dX3_leastOf_52 ?_
  obtain rfl := Option.some.inj h
  exact z_iret C dX3_leastOf_53 .int rfl rfl rfl
set_option maxHeartbeats 4000000 in
set_option maxRecDepth 100000 in
theorem l_X3_leastOf_4 {r : Int32 × zI} (C : zC p l e R s m args below meth c s0 a0 d cy B0 yX3_leastOf.cls cX3_leastOf 4 (some .int) bc bs bc bs 0 0 []) (L : zL) (k4 : Int32 → Int32 → zI → Option (Int32 × zI)) (hk4 : ∀ (v2 : Int32) (v3 : Int32) (I : zI), k4 v2 v3 I = some r → zG p l e R s m args below meth c d cy B0 4 bc bs (zQ below s args d cy B0 bc bs (.inl (some (.int r.1))) zSH zKn bc bs r.2 L) 4 [(0, .ref (B0 + 61)), (2, .int v2), (3, .int v3)] [] zSH zKn bc bs I L) (v2 : Int32) (v3 : Int32) (I : zI) (h : f_X3_leastOf_4 k4 v2 v3 I = some r) : zG p l e R s m args below meth c d cy B0 4 bc bs (zQ below s args d cy B0 bc bs (.inl (some (.int r.1))) zSH zKn bc bs r.2 L) 4 [(0, .ref (B0 + 61)), (2, .int v2), (3, .int v3)] [] zSH zKn bc bs I L := by
  unfold f_X3_leastOf_4 at h
  refine z_iload_n C rfl 2 rfl dX3_leastOf_4 ?_
  refine z_aload_n C rfl 0 rfl dX3_leastOf_5 ?_
  refine z_geti C zc_3 dX3_leastOf_6 6 61 rfl (by decide) (by decide) q_378 rfl ?_
  refine z_icmp_ge C 52 (by decide) dX3_leastOf_9 (fun hc => ?_) (fun hc => ?_)
  · have h := zif_t hc h
    refine z_lv [1] (lv' := [(2, .int v2)]) rfl ?_
    exact l_X3_leastOf_52 C L v2 I h
  · have h := zif_f hc h
    refine z_aload_n C rfl 0 rfl dX3_leastOf_12 ?_
    refine z_getr C zc_3 dX3_leastOf_13 4 61 71 rfl (by decide) (by decide) q_376 rfl rfl ?_
    refine z_iload_n C rfl 1 rfl dX3_leastOf_16 ?_
    obtain ⟨hb1, h⟩ := zck_e h
    refine z_iaload C dX3_leastOf_17 rfl rfl (by decide) (zbd_in hb1) ?_
    refine z_iload_n C rfl 1 rfl dX3_leastOf_18 ?_
    refine z_icmp_eq C 52 (by decide) dX3_leastOf_19 (fun hc => ?_) (fun hc => ?_)
    · have h := zif_t hc h
      refine z_lv [1] (lv' := [(2, .int v2)]) rfl ?_
      exact l_X3_leastOf_52 C L v2 I h
    · have h := zif_f hc h
      refine z_aload_n C rfl 0 rfl dX3_leastOf_22 ?_
      refine z_getr C zc_3 dX3_leastOf_23 4 61 71 rfl (by decide) (by decide) q_376 rfl rfl ?_
      refine z_iload_n C rfl 1 rfl dX3_leastOf_26 ?_
      refine z_aload_n C rfl 0 rfl dX3_leastOf_27 ?_
      refine z_getr C zc_3 dX3_leastOf_28 4 61 71 rfl (by decide) (by decide) q_376 rfl rfl ?_
      refine z_aload_n C rfl 0 rfl dX3_leastOf_31 ?_
      refine z_getr C zc_3 dX3_leastOf_32 4 61 71 rfl (by decide) (by decide) q_376 rfl rfl ?_
      refine z_iload_n C rfl 1 rfl dX3_leastOf_35 ?_
      obtain ⟨hb2, h⟩ := zck_e h
      refine z_iaload C dX3_leastOf_36 rfl rfl (by decide) (zbd_in hb2) ?_
      obtain ⟨x3, ex3, h⟩ := zlt_e h
      refine z_eqi C ex3 ?_
      obtain ⟨hb4, h⟩ := zck_e h
      refine z_iaload C dX3_leastOf_37 rfl rfl (by decide) (zbd_in hb4) ?_
      obtain ⟨hb5, h⟩ := zck_e h
      refine z_iastore C dX3_leastOf_38 rfl rfl (by decide) (zbd_in hb5) ?_
      obtain ⟨I6, eI6, h⟩ := zlt_e h
      refine z_eqI C eI6 ?_
      refine z_aload_n C rfl 0 rfl dX3_leastOf_39 ?_
      refine z_getr C zc_3 dX3_leastOf_40 4 61 71 rfl (by decide) (by decide) q_376 rfl rfl ?_
      refine z_iload_n C rfl 1 rfl dX3_leastOf_43 ?_
      obtain ⟨hb7, h⟩ := zck_e h
      refine z_iaload C dX3_leastOf_44 rfl rfl (by decide) (zbd_in hb7) ?_
      obtain ⟨x8, ex8, h⟩ := zlt_e h
      refine z_eqi C ex8 ?_
      refine z_istore_n C (lv' := [(2, .int x8), (0, .ref (B0 + 61)), (3, .int v3)]) rfl (by decide) rfl dX3_leastOf_45 ?_
      obtain ⟨x9, ex9, h⟩ := zlt_e h
      refine z_iinc C (j := 2) (v := x9) (lv' := [(3, .int x9), (2, .int x8), (0, .ref (B0 + 61))]) rfl (by rw [ex9]; rfl) (by decide) rfl dX3_leastOf_46 ?_
      refine z_goto C 4 (by decide) dX3_leastOf_49 ?_
      refine z_lv [2, 1, 0] (lv' := [(0, .ref (B0 + 61)), (2, .int x8), (3, .int x9)]) rfl ?_
      exact hk4 x8 x9 I6 h
set_option maxHeartbeats 4000000 in
set_option maxRecDepth 100000 in
theorem L_X3_leastOf_4 {r : Int32 × zI} (C : zC p l e R s m args below meth c s0 a0 d cy B0 yX3_leastOf.cls cX3_leastOf 4 (some .int) bc bs bc bs 0 0 []) (L : zL) (v2 : Int32) (v3 : Int32) (I : zI) (h : zlp3 (f_X3_leastOf_4) zF v2 v3 I = some r) : zG p l e R s m args below meth c d cy B0 4 bc bs (zQ below s args d cy B0 bc bs (.inl (some (.int r.1))) zSH zKn bc bs r.2 L) 4 [(0, .ref (B0 + 61)), (2, .int v2), (3, .int v3)] [] zSH zKn bc bs I L :=
 zlp3_e (fun (v2 : Int32) (v3 : Int32) (I : zI) => zG p l e R s m args below meth c d cy B0 4 bc bs (zQ below s args d cy B0 bc bs (.inl (some (.int r.1))) zSH zKn bc bs r.2 L) 4 [(0, .ref (B0 + 61)), (2, .int v2), (3, .int v3)] [] zSH zKn bc bs I L) (fun k9 hk9 v2 v3 I h => l_X3_leastOf_4 C L k9 hk9 v2 v3 I h) zF v2 v3 I h
set_option maxHeartbeats 4000000 in
set_option maxRecDepth 100000 in
theorem c_X3_leastOf {r : Int32 × zI} (hE : zE0 l s0 a0 d cy B0) (a1 : Int32) (I : zI) (L : zL) (h : f_X3_leastOf a1 I = some r) : zM l s0 d cy B0 yX3_leastOf cX3_leastOf 4 (some .int) 0 0 [.ref (B0 + 61), .int a1] zSH zKn bc bs I L (.inl (some (.int r.1))) zSH zKn bc bs r.2 L := by
  refine z_meth yy_X3_leastOf hE (Nat.le_of_ble_eq_true rfl) (fun p e R s m args below meth c C => ?_)
  show zG p l e R s m args below meth c d cy B0 4 bc bs (zQ below s args d cy B0 bc bs (.inl (some (.int r.1))) zSH zKn bc bs r.2 L) 0 [(0, .ref (B0 + 61)), (1, .int a1)] [] zSH zKn bc bs I L
  unfold f_X3_leastOf at h
  refine z_iload_n C rfl 1 rfl dX3_leastOf_0 ?_
  refine z_istore_n C (lv' := [(2, .int a1), (0, .ref (B0 + 61)), (1, .int a1)]) rfl (by decide) rfl dX3_leastOf_1 ?_
  refine z_iconst C (v := 0) (by decide) dX3_leastOf_2 ?_
  refine z_istore_n C (lv' := [(3, .int (0 : Int32)), (2, .int a1), (0, .ref (B0 + 61)), (1, .int a1)]) rfl (by decide) rfl dX3_leastOf_3 ?_
  refine z_lv [2, 1, 0] (lv' := [(0, .ref (B0 + 61)), (2, .int a1), (3, .int (0 : Int32))]) rfl ?_
  exact L_X3_leastOf_4 C L a1 (0 : Int32) I h
theorem q_31 : Cond.selects "DeviceFind$Nets" ⟨"DeviceFind$Nets", "leastOf", "(I)I"⟩ ⟨"DeviceFind$Nets", "leastOf", "(I)I"⟩ ∈ lw_tbl := List.mem_of_getElem? (i := 31) (by decide +kernel)
theorem q_965 : (Cond.code ({ cls := "DeviceFind$Nets", name := "tieNodes", desc := "(II)I" } : Jvm.MethodName) prog_5_method_7_code (5 : Nat) (Option.some Jvm.ClassFile.FieldType.int)) ∈ lw_tbl := List.mem_of_getElem? (i := 965) (by decide +kernel)
theorem q_966 : (Cond.methodLink "DeviceFind$Nets" (105 : Nat) ({ cls := "DeviceFind$Nets", name := "leastOf", desc := "(I)I" } : Jvm.MethodName)) ∈ lw_tbl := List.mem_of_getElem? (i := 966) (by decide +kernel)
theorem q_968 : (Cond.instanceMethod ({ cls := "DeviceFind$Nets", name := "leastOf", desc := "(I)I" } : Jvm.MethodName)) ∈ lw_tbl := List.mem_of_getElem? (i := 968) (by decide +kernel)
theorem q_970 : (Cond.methodLink "DeviceFind$Nets" (108 : Nat) ({ cls := "java/lang/Math", name := "max", desc := "(II)I" } : Jvm.MethodName)) ∈ lw_tbl := List.mem_of_getElem? (i := 970) (by decide +kernel)
theorem q_971 : (Cond.methodLink "DeviceFind$Nets" (113 : Nat) ({ cls := "java/lang/Math", name := "min", desc := "(II)I" } : Jvm.MethodName)) ∈ lw_tbl := List.mem_of_getElem? (i := 971) (by decide +kernel)
theorem yy_X3_tieNodes : zY yX3_tieNodes cX3_tieNodes 5 (some .int) 2 := ⟨q_965, q_85, by decide +kernel, by decide +kernel, by decide +kernel⟩
noncomputable def f_X3_tieNodes_25 (w0 : Int32) (I : zI) : Option (Int32 × zI) :=
  some (w0, I)
noncomputable def f_X3_tieNodes_15 (v1 : Int32) (v2 : Int32) (I : zI) : Option (Int32 × zI) :=
  if v1 = (-1 : Int32) then (f_X3_tieNodes_25 v2 I) else (f_X3_tieNodes_25 v1 I)
noncomputable def f_X3_tieNodes (a1 : Int32) (a2 : Int32) (I : zI) : Option (Int32 × zI) :=
  if a1 = (-1 : Int32) then (f_X3_tieNodes_15 a1 a2 I) else (if a2 = (-1 : Int32) then (f_X3_tieNodes_15 a1 a2 I) else (if a1 = a2 then (f_X3_tieNodes_15 a1 a2 I) else (zb2 (f_X3_leastOf a1 I) (fun x2 I3 => zb2 (f_X3_leastOf a2 I3) (fun x5 I6 => zck (zbd (zmx x2 x5) 16384) (zlt (zu I6 71 (zmx x2 x5).toNatClampNeg (zmn x2 x5)) (fun I8 => some (a1, I8))))))))
set_option maxHeartbeats 4000000 in
set_option maxRecDepth 100000 in
theorem l_X3_tieNodes_25 {r : Int32 × zI} (C : zC p l e R s m args below meth c s0 a0 d cy B0 yX3_tieNodes.cls cX3_tieNodes 5 (some .int) bc bs bc bs 1 40 []) (L : zL) (w0 : Int32) (I : zI) (h : f_X3_tieNodes_25 w0 I = some r) : zG p l e R s m args below meth c d cy B0 5 bc bs (zQ below s args d cy B0 bc bs (.inl (some (.int r.1))) zSH zKn bc bs r.2 L) 25 [] [.int w0] zSH zKn bc bs I L := by
  unfold f_X3_tieNodes_25 at h
  obtain rfl := Option.some.inj h
  exact z_iret C dX3_tieNodes_25 .int rfl rfl rfl
set_option maxHeartbeats 4000000 in
set_option maxRecDepth 100000 in
theorem l_X3_tieNodes_15 {r : Int32 × zI} (C : zC p l e R s m args below meth c s0 a0 d cy B0 yX3_tieNodes.cls cX3_tieNodes 5 (some .int) bc bs bc bs 1 40 []) (L : zL) (v1 : Int32) (v2 : Int32) (I : zI) (h : f_X3_tieNodes_15 v1 v2 I = some r) : zG p l e R s m args below meth c d cy B0 5 bc bs (zQ below s args d cy B0 bc bs (.inl (some (.int r.1))) zSH zKn bc bs r.2 L) 15 [(1, .int v1), (2, .int v2)] [] zSH zKn bc bs I L := by
  unfold f_X3_tieNodes_15 at h
  refine z_iload_n C rfl 0 rfl dX3_tieNodes_15 ?_
  refine z_iconst C (v := -1) (by decide) dX3_tieNodes_16 ?_
  refine z_icmp_ne C 24 (by decide) dX3_tieNodes_17 (fun hc => ?_) (fun hc => ?_)
  · have h := zif_f hc h
    refine z_iload_n C rfl 0 rfl dX3_tieNodes_24 ?_
    refine z_lv [] (lv' := []) rfl ?_
    exact l_X3_tieNodes_25 C L v1 I h
  · have h := zif_t hc h
    refine z_iload_n C rfl 1 rfl dX3_tieNodes_20 ?_
    refine z_goto C 25 (by decide) dX3_tieNodes_21 ?_
    refine z_lv [] (lv' := []) rfl ?_
    exact l_X3_tieNodes_25 C L v2 I h
set_option maxHeartbeats 4000000 in
set_option maxRecDepth 100000 in
theorem c_X3_tieNodes {r : Int32 × zI} (hE : zE0 l s0 a0 d cy B0) (a1 : Int32) (a2 : Int32) (I : zI) (L : zL) (h : f_X3_tieNodes a1 a2 I = some r) : zM l s0 d cy B0 yX3_tieNodes cX3_tieNodes 5 (some .int) 1 40 [.ref (B0 + 61), .int a1, .int a2] zSH zKn bc bs I L (.inl (some (.int r.1))) zSH zKn bc bs r.2 L := by
  refine z_meth yy_X3_tieNodes hE (Nat.le_of_ble_eq_true rfl) (fun p e R s m args below meth c C => ?_)
  show zG p l e R s m args below meth c d cy B0 5 bc bs (zQ below s args d cy B0 bc bs (.inl (some (.int r.1))) zSH zKn bc bs r.2 L) 0 [(0, .ref (B0 + 61)), (1, .int a1), (2, .int a2)] [] zSH zKn bc bs I L
  unfold f_X3_tieNodes at h
  refine z_iload_n C rfl 1 rfl dX3_tieNodes_0 ?_
  refine z_iconst C (v := -1) (by decide) dX3_tieNodes_1 ?_
  refine z_icmp_eq C 15 (by decide) dX3_tieNodes_2 (fun hc => ?_) (fun hc => ?_)
  · have h := zif_t hc h
    refine z_lv [1, 2] (lv' := [(1, .int a1), (2, .int a2)]) rfl ?_
    exact l_X3_tieNodes_15 C L a1 a2 I h
  · have h := zif_f hc h
    refine z_iload_n C rfl 2 rfl dX3_tieNodes_5 ?_
    refine z_iconst C (v := -1) (by decide) dX3_tieNodes_6 ?_
    refine z_icmp_eq C 15 (by decide) dX3_tieNodes_7 (fun hc => ?_) (fun hc => ?_)
    · have h := zif_t hc h
      refine z_lv [1, 2] (lv' := [(1, .int a1), (2, .int a2)]) rfl ?_
      exact l_X3_tieNodes_15 C L a1 a2 I h
    · have h := zif_f hc h
      refine z_iload_n C rfl 1 rfl dX3_tieNodes_10 ?_
      refine z_iload_n C rfl 2 rfl dX3_tieNodes_11 ?_
      refine z_icmp_ne C 26 (by decide) dX3_tieNodes_12 (fun hc => ?_) (fun hc => ?_)
      · have h := zif_f hc h
        refine z_aload_n C rfl 0 rfl dX3_tieNodes_26 ?_
        refine z_iload_n C rfl 1 rfl dX3_tieNodes_27 ?_
        obtain ⟨x2, I3, hg1, h⟩ := zb2_e h
        refine z_callV C zc_3 rfl (by decide) dX3_tieNodes_28 yy_X3_leastOf (c_X3_leastOf C.2.2.2.2.1  a1 I L hg1) q_966 q_968 q_31 (by decide) (by decide) rfl rfl (Nat.le_of_ble_eq_true rfl) ⟨Nat.le_refl _, Nat.le_refl _, Nat.le_refl _, Nat.le_refl _⟩ ?_
        refine z_istore_n C (lv' := [(3, .int x2), (0, .ref (B0 + 61)), (1, .int a1), (2, .int a2)]) rfl (by decide) rfl dX3_tieNodes_31 ?_
        refine z_aload_n C rfl 1 rfl dX3_tieNodes_32 ?_
        refine z_iload_n C rfl 3 rfl dX3_tieNodes_33 ?_
        obtain ⟨x5, I6, hg4, h⟩ := zb2_e h
        refine z_callV C zc_3 rfl (by decide) dX3_tieNodes_34 yy_X3_leastOf (c_X3_leastOf C.2.2.2.2.1  a2 I3 L hg4) q_966 q_968 q_31 (by decide) (by decide) rfl rfl (Nat.le_of_ble_eq_true rfl) ⟨Nat.le_refl _, Nat.le_refl _, Nat.le_refl _, Nat.le_refl _⟩ ?_
        refine z_istore C (lv' := [(4, .int x5), (3, .int x2), (0, .ref (B0 + 61)), (1, .int a1), (2, .int a2)]) (by decide) rfl dX3_tieNodes_37 ?_
        refine z_aload_n C rfl 2 rfl dX3_tieNodes_39 ?_
        refine z_getr C zc_3 dX3_tieNodes_40 4 61 71 rfl (by decide) (by decide) q_376 rfl rfl ?_
        refine z_iload_n C rfl 1 rfl dX3_tieNodes_43 ?_
        refine z_iload C 0 rfl dX3_tieNodes_44 ?_
        refine z_mmax C dX3_tieNodes_46 q_970 q_116 q_76 q_117 (by decide) (Nat.le_of_ble_eq_true rfl) ⟨Nat.le_refl _, Nat.le_refl _⟩ ?_
        refine z_iload_n C rfl 1 rfl dX3_tieNodes_49 ?_
        refine z_iload C 0 rfl dX3_tieNodes_50 ?_
        refine z_mmin C dX3_tieNodes_52 q_971 q_113 q_76 q_114 (by decide) (Nat.le_of_ble_eq_true rfl) ⟨Nat.le_refl _, Nat.le_refl _⟩ ?_
        obtain ⟨hb7, h⟩ := zck_e h
        refine z_iastore C dX3_tieNodes_55 rfl rfl (by decide) (zbd_in hb7) ?_
        obtain ⟨I8, eI8, h⟩ := zlt_e h
        refine z_eqI C eI8 ?_
        refine z_iload_n C rfl 3 rfl dX3_tieNodes_56 ?_
        obtain rfl := Option.some.inj h
        exact z_iret C dX3_tieNodes_57 .int rfl rfl rfl
      · have h := zif_t hc h
        refine z_lv [1, 2] (lv' := [(1, .int a1), (2, .int a2)]) rfl ?_
        exact l_X3_tieNodes_15 C L a1 a2 I h
theorem q_30 : Cond.selects "DeviceFind$Nets" ⟨"DeviceFind$Nets", "tieNodes", "(II)I"⟩ ⟨"DeviceFind$Nets", "tieNodes", "(II)I"⟩ ∈ lw_tbl := List.mem_of_getElem? (i := 30) (by decide +kernel)
theorem q_961 : (Cond.code ({ cls := "DeviceFind$Nets", name := "tie", desc := "([I[I[J)V" } : Jvm.MethodName) prog_5_method_6_code (7 : Nat) (Option.none : Option Jvm.ClassFile.FieldType)) ∈ lw_tbl := List.mem_of_getElem? (i := 961) (by decide +kernel)
theorem q_962 : (Cond.methodLink "DeviceFind$Nets" (101 : Nat) ({ cls := "DeviceFind$Nets", name := "tieNodes", desc := "(II)I" } : Jvm.MethodName)) ∈ lw_tbl := List.mem_of_getElem? (i := 962) (by decide +kernel)
theorem q_964 : (Cond.instanceMethod ({ cls := "DeviceFind$Nets", name := "tieNodes", desc := "(II)I" } : Jvm.MethodName)) ∈ lw_tbl := List.mem_of_getElem? (i := 964) (by decide +kernel)
theorem yy_X3_tie : zY yX3_tie cX3_tie 7 none 3 := ⟨q_961, q_85, by decide +kernel, by decide +kernel, by decide +kernel⟩
noncomputable def f_X3_tie_35 (k11 : Int32 → zI → zL → Option (zI × zL)) (r1 : Nat) (r2 : Nat) (r3 : Nat) (k35 : Int32 → Int32 → Int32 → zI → zL → Option (zI × zL)) (v4 : Int32) (v5 : Int32) (v6 : Int32) (I : zI) (L : zL) : Option (zI × zL) :=
  if (I 57 2) ≤ v6 then (zlt (v4 + 1) (fun x8 => k11 x8 I L)) else (zck (zbd v6 4096) (zlt (I 59 v6.toNatClampNeg) (fun x10 => zck (zbd x10 4096) (zb2 (f_X3_tieNodes v5 (I r1 x10.toNatClampNeg) I) (fun x13 I14 => zck (zbd v6 4096) (zlt (I14 59 v6.toNatClampNeg) (fun x16 => zck (zbd x16 4096) (zb2 (f_X3_tieNodes x13 (I14 r2 x16.toNatClampNeg) I14) (fun x19 I20 => zlt (v6 + 1) (fun x21 => k35 v4 x19 x21 I20 L))))))))))
noncomputable def f_X3_tie_99 (r1 : Nat) (r2 : Nat) (r3 : Nat) (I : zI) (L : zL) : Option (zI × zL) :=
  some (I, L)
noncomputable def f_X3_tie_11 (r1 : Nat) (r2 : Nat) (r3 : Nat) (k11 : Int32 → zI → zL → Option (zI × zL)) (v4 : Int32) (I : zI) (L : zL) : Option (zI × zL) :=
  if (2048 : Int32) ≤ v4 then (f_X3_tie_99 r1 r2 r3 I L) else (zb3 (f_X5_next I L) (fun x5 I6 L7 => if x5 = 0 then (f_X3_tie_99 r1 r2 r3 I6 L7) else (zlp5 (f_X3_tie_35 k11 r1 r2 r3) zF v4 (-1 : Int32) (0 : Int32) I6 L7)))
noncomputable def f_X3_tie (r1 : Nat) (r2 : Nat) (r3 : Nat) (I : zI) (L : zL) : Option (zI × zL) :=
  zb2 (f_X5_open r3 I L) (fun I2 L3 => zlp3 (f_X3_tie_11 r1 r2 r3) zF (0 : Int32) I2 L3)
set_option maxHeartbeats 4000000 in
set_option maxRecDepth 100000 in
theorem l_X3_tie_35 {r : zI × zL} (C : zC p l e R s m args below meth c s0 a0 d cy B0 yX3_tie.cls cX3_tie 7 none bc bs bc bs 4 105 []) {r1 : Nat} (hr1 : zar 14 4096 r1) {r2 : Nat} (hr2 : zar 14 4096 r2) {r3 : Nat} (hr3 : zar 15 64 r3) (k11 : Int32 → zI → zL → Option (zI × zL)) (hk11 : ∀ (v4 : Int32) (I : zI) (L : zL), k11 v4 I L = some r → zG p l e R s m args below meth c d cy B0 7 bc bs (zQ below s args d cy B0 bc bs (.inl none) zSH zKn bc bs r.1 r.2) 11 [(0, .ref (B0 + 61)), (1, .ref (B0 + r1)), (2, .ref (B0 + r2)), (4, .int v4)] [] zSH zKn bc bs I L) (k35 : Int32 → Int32 → Int32 → zI → zL → Option (zI × zL)) (hk35 : ∀ (v4 : Int32) (v5 : Int32) (v6 : Int32) (I : zI) (L : zL), k35 v4 v5 v6 I L = some r → zG p l e R s m args below meth c d cy B0 7 bc bs (zQ below s args d cy B0 bc bs (.inl none) zSH zKn bc bs r.1 r.2) 35 [(0, .ref (B0 + 61)), (1, .ref (B0 + r1)), (2, .ref (B0 + r2)), (4, .int v4), (5, .int v5), (6, .int v6)] [] zSH zKn bc bs I L) (v4 : Int32) (v5 : Int32) (v6 : Int32) (I : zI) (L : zL) (h : f_X3_tie_35 k11 r1 r2 r3 k35 v4 v5 v6 I L = some r) : zG p l e R s m args below meth c d cy B0 7 bc bs (zQ below s args d cy B0 bc bs (.inl none) zSH zKn bc bs r.1 r.2) 35 [(0, .ref (B0 + 61)), (1, .ref (B0 + r1)), (2, .ref (B0 + r2)), (4, .int v4), (5, .int v5), (6, .int v6)] [] zSH zKn bc bs I L := by
  unfold f_X3_tie_35 at h
  refine z_iload C 5 rfl dX3_tie_35 ?_
  refine z_aload_n C rfl 0 rfl dX3_tie_37 ?_
  refine z_getr C zc_3 dX3_tie_38 3 61 57 rfl (by decide) (by decide) q_375 rfl rfl ?_
  refine z_geti C zc_5 dX3_tie_41 2 57 rfl (by decide) (by decide) q_343 rfl ?_
  refine z_icmp_ge C 93 (by decide) dX3_tie_44 (fun hc => ?_) (fun hc => ?_)
  · have h := zif_t hc h
    obtain ⟨x8, ex8, h⟩ := zlt_e h
    refine z_iinc C (j := 3) (v := x8) (lv' := [(4, .int x8), (0, .ref (B0 + 61)), (1, .ref (B0 + r1)), (2, .ref (B0 + r2)), (5, .int v5), (6, .int v6)]) rfl (by rw [ex8]; rfl) (by decide) rfl dX3_tie_93 ?_
    refine z_goto C 11 (by decide) dX3_tie_96 ?_
    refine z_lv [1, 2, 3, 0] (lv' := [(0, .ref (B0 + 61)), (1, .ref (B0 + r1)), (2, .ref (B0 + r2)), (4, .int x8)]) rfl ?_
    exact hk11 x8 I L h
  · have h := zif_f hc h
    refine z_aload_n C rfl 0 rfl dX3_tie_47 ?_
    refine z_iload C 4 rfl dX3_tie_48 ?_
    refine z_aload_n C rfl 1 rfl dX3_tie_50 ?_
    refine z_aload_n C rfl 0 rfl dX3_tie_51 ?_
    refine z_getr C zc_3 dX3_tie_52 3 61 57 rfl (by decide) (by decide) q_375 rfl rfl ?_
    refine z_getr C zc_5 dX3_tie_55 1 57 59 rfl (by decide) (by decide) q_340 rfl rfl ?_
    refine z_iload C 5 rfl dX3_tie_58 ?_
    obtain ⟨hb9, h⟩ := zck_e h
    refine z_iaload C dX3_tie_60 rfl rfl (by decide) (zbd_in hb9) ?_
    obtain ⟨x10, ex10, h⟩ := zlt_e h
    refine z_eqi C ex10 ?_
    obtain ⟨hb11, h⟩ := zck_e h
    refine z_iaload C dX3_tie_61 hr1.1 hr1.2.1 hr1.2.2 (zbd_in hb11) ?_
    obtain ⟨x13, I14, hg12, h⟩ := zb2_e h
    refine z_callV C zc_3 rfl (by decide) dX3_tie_62 yy_X3_tieNodes (c_X3_tieNodes C.2.2.2.2.1  v5 (I r1 x10.toNatClampNeg) I L hg12) q_962 q_964 q_30 (by decide) (by decide) rfl rfl (Nat.le_of_ble_eq_true rfl) ⟨Nat.le_refl _, Nat.le_refl _, Nat.le_refl _, Nat.le_refl _⟩ ?_
    refine z_istore C (lv' := [(5, .int x13), (0, .ref (B0 + 61)), (1, .ref (B0 + r1)), (2, .ref (B0 + r2)), (4, .int v4), (6, .int v6)]) (by decide) rfl dX3_tie_65 ?_
    refine z_aload_n C rfl 1 rfl dX3_tie_67 ?_
    refine z_iload C 0 rfl dX3_tie_68 ?_
    refine z_aload_n C rfl 3 rfl dX3_tie_70 ?_
    refine z_aload_n C rfl 1 rfl dX3_tie_71 ?_
    refine z_getr C zc_3 dX3_tie_72 3 61 57 rfl (by decide) (by decide) q_375 rfl rfl ?_
    refine z_getr C zc_5 dX3_tie_75 1 57 59 rfl (by decide) (by decide) q_340 rfl rfl ?_
    refine z_iload C 5 rfl dX3_tie_78 ?_
    obtain ⟨hb15, h⟩ := zck_e h
    refine z_iaload C dX3_tie_80 rfl rfl (by decide) (zbd_in hb15) ?_
    obtain ⟨x16, ex16, h⟩ := zlt_e h
    refine z_eqi C ex16 ?_
    obtain ⟨hb17, h⟩ := zck_e h
    refine z_iaload C dX3_tie_81 hr2.1 hr2.2.1 hr2.2.2 (zbd_in hb17) ?_
    obtain ⟨x19, I20, hg18, h⟩ := zb2_e h
    refine z_callV C zc_3 rfl (by decide) dX3_tie_82 yy_X3_tieNodes (c_X3_tieNodes C.2.2.2.2.1  x13 (I14 r2 x16.toNatClampNeg) I14 L hg18) q_962 q_964 q_30 (by decide) (by decide) rfl rfl (Nat.le_of_ble_eq_true rfl) ⟨Nat.le_refl _, Nat.le_refl _, Nat.le_refl _, Nat.le_refl _⟩ ?_
    refine z_istore C (lv' := [(5, .int x19), (0, .ref (B0 + 61)), (1, .ref (B0 + r1)), (2, .ref (B0 + r2)), (4, .int v4), (6, .int v6)]) (by decide) rfl dX3_tie_85 ?_
    obtain ⟨x21, ex21, h⟩ := zlt_e h
    refine z_iinc C (j := 5) (v := x21) (lv' := [(6, .int x21), (5, .int x19), (0, .ref (B0 + 61)), (1, .ref (B0 + r1)), (2, .ref (B0 + r2)), (4, .int v4)]) rfl (by rw [ex21]; rfl) (by decide) rfl dX3_tie_87 ?_
    refine z_goto C 35 (by decide) dX3_tie_90 ?_
    refine z_lv [2, 3, 4, 5, 1, 0] (lv' := [(0, .ref (B0 + 61)), (1, .ref (B0 + r1)), (2, .ref (B0 + r2)), (4, .int v4), (5, .int x19), (6, .int x21)]) rfl ?_
    exact hk35 v4 x19 x21 I20 L h
set_option maxHeartbeats 4000000 in
set_option maxRecDepth 100000 in
theorem L_X3_tie_35 {r : zI × zL} (C : zC p l e R s m args below meth c s0 a0 d cy B0 yX3_tie.cls cX3_tie 7 none bc bs bc bs 4 105 []) {r1 : Nat} (hr1 : zar 14 4096 r1) {r2 : Nat} (hr2 : zar 14 4096 r2) {r3 : Nat} (hr3 : zar 15 64 r3) (k11 : Int32 → zI → zL → Option (zI × zL)) (hk11 : ∀ (v4 : Int32) (I : zI) (L : zL), k11 v4 I L = some r → zG p l e R s m args below meth c d cy B0 7 bc bs (zQ below s args d cy B0 bc bs (.inl none) zSH zKn bc bs r.1 r.2) 11 [(0, .ref (B0 + 61)), (1, .ref (B0 + r1)), (2, .ref (B0 + r2)), (4, .int v4)] [] zSH zKn bc bs I L) (v4 : Int32) (v5 : Int32) (v6 : Int32) (I : zI) (L : zL) (h : zlp5 (f_X3_tie_35 k11 r1 r2 r3) zF v4 v5 v6 I L = some r) : zG p l e R s m args below meth c d cy B0 7 bc bs (zQ below s args d cy B0 bc bs (.inl none) zSH zKn bc bs r.1 r.2) 35 [(0, .ref (B0 + 61)), (1, .ref (B0 + r1)), (2, .ref (B0 + r2)), (4, .int v4), (5, .int v5), (6, .int v6)] [] zSH zKn bc bs I L :=
 zlp5_e (fun (v4 : Int32) (v5 : Int32) (v6 : Int32) (I : zI) (L : zL) => zG p l e R s m args below meth c d cy B0 7 bc bs (zQ below s args d cy B0 bc bs (.inl none) zSH zKn bc bs r.1 r.2) 35 [(0, .ref (B0 + 61)), (1, .ref (B0 + r1)), (2, .ref (B0 + r2)), (4, .int v4), (5, .int v5), (6, .int v6)] [] zSH zKn bc bs I L) (fun k9 hk9 v4 v5 v6 I L h => l_X3_tie_35 C hr1 hr2 hr3 k11 hk11 k9 hk9 v4 v5 v6 I L h) zF v4 v5 v6 I L h
set_option maxHeartbeats 4000000 in
set_option maxRecDepth 100000 in
theorem l_X3_tie_99 {r : zI × zL} (C : zC p l e R s m args below meth c s0 a0 d cy B0 yX3_tie.cls cX3_tie 7 none bc bs bc bs 4 105 []) {r1 : Nat} (hr1 : zar 14 4096 r1) {r2 : Nat} (hr2 : zar 14 4096 r2) {r3 : Nat} (hr3 : zar 15 64 r3) (I : zI) (L : zL) (h : f_X3_tie_99 r1 r2 r3 I L = some r) : zG p l e R s m args below meth c d cy B0 7 bc bs (zQ below s args d cy B0 bc bs (.inl none) zSH zKn bc bs r.1 r.2) 99 [] [] zSH zKn bc bs I L := by
  unfold f_X3_tie_99 at h
  obtain rfl := Option.some.inj h
  exact z_vret C dX3_tie_99 rfl rfl
set_option maxHeartbeats 4000000 in
set_option maxRecDepth 100000 in
theorem l_X3_tie_11 {r : zI × zL} (C : zC p l e R s m args below meth c s0 a0 d cy B0 yX3_tie.cls cX3_tie 7 none bc bs bc bs 4 105 []) {r1 : Nat} (hr1 : zar 14 4096 r1) {r2 : Nat} (hr2 : zar 14 4096 r2) {r3 : Nat} (hr3 : zar 15 64 r3) (k11 : Int32 → zI → zL → Option (zI × zL)) (hk11 : ∀ (v4 : Int32) (I : zI) (L : zL), k11 v4 I L = some r → zG p l e R s m args below meth c d cy B0 7 bc bs (zQ below s args d cy B0 bc bs (.inl none) zSH zKn bc bs r.1 r.2) 11 [(0, .ref (B0 + 61)), (1, .ref (B0 + r1)), (2, .ref (B0 + r2)), (4, .int v4)] [] zSH zKn bc bs I L) (v4 : Int32) (I : zI) (L : zL) (h : f_X3_tie_11 r1 r2 r3 k11 v4 I L = some r) : zG p l e R s m args below meth c d cy B0 7 bc bs (zQ below s args d cy B0 bc bs (.inl none) zSH zKn bc bs r.1 r.2) 11 [(0, .ref (B0 + 61)), (1, .ref (B0 + r1)), (2, .ref (B0 + r2)), (4, .int v4)] [] zSH zKn bc bs I L := by
  unfold f_X3_tie_11 at h
  refine z_iload C 3 rfl dX3_tie_11 ?_
  refine z_sipush C (v := 2048) (by decide) dX3_tie_13 ?_
  refine z_icmp_ge C 99 (by decide) dX3_tie_16 (fun hc => ?_) (fun hc => ?_)
  · have h := zif_t hc h
    refine z_lv [] (lv' := []) rfl ?_
    exact l_X3_tie_99 C hr1 hr2 hr3 I L h
  · have h := zif_f hc h
    refine z_aload_n C rfl 0 rfl dX3_tie_19 ?_
    refine z_getr C zc_3 dX3_tie_20 3 61 57 rfl (by decide) (by decide) q_375 rfl rfl ?_
    obtain ⟨x5, I6, L7, hg4, h⟩ := zb3_e h
    refine z_callV C zc_5 rfl (by decide) dX3_tie_23 yy_X5_next (c_X5_next C.2.2.2.2.1  I L hg4) q_929 q_930 q_931 (by decide) (by decide) rfl rfl (Nat.le_of_ble_eq_true rfl) ⟨Nat.le_refl _, Nat.le_refl _, Nat.le_refl _, Nat.le_refl _⟩ ?_
    refine z_if_eq C 99 (by decide) dX3_tie_26 (fun hc => ?_) (fun hc => ?_)
    · have h := zif_t hc h
      refine z_lv [] (lv' := []) rfl ?_
      exact l_X3_tie_99 C hr1 hr2 hr3 I6 L7 h
    · have h := zif_f hc h
      refine z_iconst C (v := -1) (by decide) dX3_tie_29 ?_
      refine z_istore C (lv' := [(5, .int (-1 : Int32)), (0, .ref (B0 + 61)), (1, .ref (B0 + r1)), (2, .ref (B0 + r2)), (4, .int v4)]) (by decide) rfl dX3_tie_30 ?_
      refine z_iconst C (v := 0) (by decide) dX3_tie_32 ?_
      refine z_istore C (lv' := [(6, .int (0 : Int32)), (5, .int (-1 : Int32)), (0, .ref (B0 + 61)), (1, .ref (B0 + r1)), (2, .ref (B0 + r2)), (4, .int v4)]) (by decide) rfl dX3_tie_33 ?_
      refine z_lv [2, 3, 4, 5, 1, 0] (lv' := [(0, .ref (B0 + 61)), (1, .ref (B0 + r1)), (2, .ref (B0 + r2)), (4, .int v4), (5, .int (-1 : Int32)), (6, .int (0 : Int32))]) rfl ?_
      exact L_X3_tie_35 C hr1 hr2 hr3 k11 hk11 v4 (-1 : Int32) (0 : Int32) I6 L7 h
set_option maxHeartbeats 4000000 in
set_option maxRecDepth 100000 in
theorem L_X3_tie_11 {r : zI × zL} (C : zC p l e R s m args below meth c s0 a0 d cy B0 yX3_tie.cls cX3_tie 7 none bc bs bc bs 4 105 []) {r1 : Nat} (hr1 : zar 14 4096 r1) {r2 : Nat} (hr2 : zar 14 4096 r2) {r3 : Nat} (hr3 : zar 15 64 r3) (v4 : Int32) (I : zI) (L : zL) (h : zlp3 (f_X3_tie_11 r1 r2 r3) zF v4 I L = some r) : zG p l e R s m args below meth c d cy B0 7 bc bs (zQ below s args d cy B0 bc bs (.inl none) zSH zKn bc bs r.1 r.2) 11 [(0, .ref (B0 + 61)), (1, .ref (B0 + r1)), (2, .ref (B0 + r2)), (4, .int v4)] [] zSH zKn bc bs I L :=
 zlp3_e (fun (v4 : Int32) (I : zI) (L : zL) => zG p l e R s m args below meth c d cy B0 7 bc bs (zQ below s args d cy B0 bc bs (.inl none) zSH zKn bc bs r.1 r.2) 11 [(0, .ref (B0 + 61)), (1, .ref (B0 + r1)), (2, .ref (B0 + r2)), (4, .int v4)] [] zSH zKn bc bs I L) (fun k9 hk9 v4 I L h => l_X3_tie_11 C hr1 hr2 hr3 k9 hk9 v4 I L h) zF v4 I L h
set_option maxHeartbeats 4000000 in
set_option maxRecDepth 100000 in
theorem c_X3_tie {r : zI × zL} (hE : zE0 l s0 a0 d cy B0) {r1 : Nat} (hr1 : zar 14 4096 r1) {r2 : Nat} (hr2 : zar 14 4096 r2) {r3 : Nat} (hr3 : zar 15 64 r3) (I : zI) (L : zL) (h : f_X3_tie r1 r2 r3 I L = some r) : zM l s0 d cy B0 yX3_tie cX3_tie 7 none 4 105 [.ref (B0 + 61), .ref (B0 + r1), .ref (B0 + r2), .ref (B0 + r3)] zSH zKn bc bs I L (.inl none) zSH zKn bc bs r.1 r.2 := by
  refine z_meth yy_X3_tie hE (Nat.le_of_ble_eq_true rfl) (fun p e R s m args below meth c C => ?_)
  show zG p l e R s m args below meth c d cy B0 7 bc bs (zQ below s args d cy B0 bc bs (.inl none) zSH zKn bc bs r.1 r.2) 0 [(0, .ref (B0 + 61)), (1, .ref (B0 + r1)), (2, .ref (B0 + r2)), (3, .ref (B0 + r3))] [] zSH zKn bc bs I L
  unfold f_X3_tie at h
  refine z_aload_n C rfl 0 rfl dX3_tie_0 ?_
  refine z_getr C zc_3 dX3_tie_1 3 61 57 rfl (by decide) (by decide) q_375 rfl rfl ?_
  refine z_aload_n C rfl 3 rfl dX3_tie_4 ?_
  obtain ⟨I2, L3, hg1, h⟩ := zb2_e h
  refine z_callV C zc_5 rfl (by decide) dX3_tie_5 yy_X5_open (c_X5_open C.2.2.2.2.1 hr3 I L hg1) q_918 q_919 q_920 (by decide) (by decide) rfl rfl (Nat.le_of_ble_eq_true rfl) ⟨Nat.le_refl _, Nat.le_refl _, Nat.le_refl _, Nat.le_refl _⟩ ?_
  refine z_iconst C (v := 0) (by decide) dX3_tie_8 ?_
  refine z_istore C (lv' := [(4, .int (0 : Int32)), (0, .ref (B0 + 61)), (1, .ref (B0 + r1)), (2, .ref (B0 + r2)), (3, .ref (B0 + r3))]) (by decide) rfl dX3_tie_9 ?_
  refine z_lv [1, 2, 3, 0] (lv' := [(0, .ref (B0 + 61)), (1, .ref (B0 + r1)), (2, .ref (B0 + r2)), (4, .int (0 : Int32))]) rfl ?_
  exact L_X3_tie_11 C hr1 hr2 hr3 (0 : Int32) I2 L3 h
theorem q_372 : (Cond.fieldLink "DeviceFind$Nets" (16 : Nat) "DeviceFind$Nets" "total" "I") ∈ lw_tbl := List.mem_of_getElem? (i := 372) (by decide +kernel)
theorem q_975 : (Cond.code ({ cls := "DeviceFind$Nets", name := "numberNets", desc := "()V" } : Jvm.MethodName) prog_5_method_9_code (3 : Nat) (Option.none : Option Jvm.ClassFile.FieldType)) ∈ lw_tbl := List.mem_of_getElem? (i := 975) (by decide +kernel)
theorem yy_X3_numberNets : zY yX3_numberNets cX3_numberNets 3 none 0 := ⟨q_975, q_85, by decide +kernel, by decide +kernel, by decide +kernel⟩
noncomputable def f_X3_numberNets_61 (k7 : Int32 → zI → Option zI) (v1 : Int32) (I : zI) : Option zI :=
  zlt (v1 + 1) (fun x12 => k7 x12 I)
noncomputable def f_X3_numberNets_7 (k7 : Int32 → zI → Option zI) (v1 : Int32) (I : zI) : Option zI :=
  if (I 61 6) ≤ v1 then (some I) else (zb2 (f_X3_leastOf v1 I) (fun x3 I4 => if x3 = v1 then (zck (zbd v1 16384) (zlt (zu I4 72 v1.toNatClampNeg (I4 61 1)) (fun I9 => zlt ((I9 61 1) + (1 : Int32)) (fun x10 => zlt (zu I9 61 1 x10) (fun I11 => f_X3_numberNets_61 k7 v1 I11))))) else (zck (zbd x3 16384) (zck (zbd v1 16384) (zlt (zu I4 72 v1.toNatClampNeg (I4 72 x3.toNatClampNeg)) (fun I7 => f_X3_numberNets_61 k7 v1 I7))))))
noncomputable def f_X3_numberNets (I : zI) : Option zI :=
  zlt (zu I 61 1 (0 : Int32)) (fun I1 => zlp2 (f_X3_numberNets_7) zF (0 : Int32) I1)
set_option maxHeartbeats 4000000 in
set_option maxRecDepth 100000 in
theorem l_X3_numberNets_61 {r : zI} (C : zC p l e R s m args below meth c s0 a0 d cy B0 yX3_numberNets.cls cX3_numberNets 3 none bc bs bc bs 1 23 []) (L : zL) (k7 : Int32 → zI → Option zI) (hk7 : ∀ (v1 : Int32) (I : zI), k7 v1 I = some r → zG p l e R s m args below meth c d cy B0 3 bc bs (zQ below s args d cy B0 bc bs (.inl none) zSH zKn bc bs r L) 7 [(0, .ref (B0 + 61)), (1, .int v1)] [] zSH zKn bc bs I L) (v1 : Int32) (I : zI) (h : f_X3_numberNets_61 k7 v1 I = some r) : zG p l e R s m args below meth c d cy B0 3 bc bs (zQ below s args d cy B0 bc bs (.inl none) zSH zKn bc bs r L) 61 [(0, .ref (B0 + 61)), (1, .int v1)] [] zSH zKn bc bs I L := by
  unfold f_X3_numberNets_61 at h
  obtain ⟨x12, ex12, h⟩ := zlt_e h
  refine z_iinc C (j := 1) (v := x12) (lv' := [(1, .int x12), (0, .ref (B0 + 61))]) rfl (by rw [ex12]; rfl) (by decide) rfl dX3_numberNets_61 ?_
  refine z_goto C 7 (by decide) dX3_numberNets_64 ?_
  refine z_lv [1, 0] (lv' := [(0, .ref (B0 + 61)), (1, .int x12)]) rfl ?_
  exact hk7 x12 I h
set_option maxHeartbeats 4000000 in
set_option maxRecDepth 100000 in
theorem l_X3_numberNets_7 {r : zI} (C : zC p l e R s m args below meth c s0 a0 d cy B0 yX3_numberNets.cls cX3_numberNets 3 none bc bs bc bs 1 23 []) (L : zL) (k7 : Int32 → zI → Option zI) (hk7 : ∀ (v1 : Int32) (I : zI), k7 v1 I = some r → zG p l e R s m args below meth c d cy B0 3 bc bs (zQ below s args d cy B0 bc bs (.inl none) zSH zKn bc bs r L) 7 [(0, .ref (B0 + 61)), (1, .int v1)] [] zSH zKn bc bs I L) (v1 : Int32) (I : zI) (h : f_X3_numberNets_7 k7 v1 I = some r) : zG p l e R s m args below meth c d cy B0 3 bc bs (zQ below s args d cy B0 bc bs (.inl none) zSH zKn bc bs r L) 7 [(0, .ref (B0 + 61)), (1, .int v1)] [] zSH zKn bc bs I L := by
  unfold f_X3_numberNets_7 at h
  refine z_iload_n C rfl 1 rfl dX3_numberNets_7 ?_
  refine z_aload_n C rfl 0 rfl dX3_numberNets_8 ?_
  refine z_geti C zc_3 dX3_numberNets_9 6 61 rfl (by decide) (by decide) q_378 rfl ?_
  refine z_icmp_ge C 67 (by decide) dX3_numberNets_12 (fun hc => ?_) (fun hc => ?_)
  · have h := zif_t hc h
    obtain rfl := Option.some.inj h
    exact z_vret C dX3_numberNets_67 rfl rfl
  · have h := zif_f hc h
    refine z_aload_n C rfl 0 rfl dX3_numberNets_15 ?_
    refine z_iload_n C rfl 1 rfl dX3_numberNets_16 ?_
    obtain ⟨x3, I4, hg2, h⟩ := zb2_e h
    refine z_callV C zc_3 rfl (by decide) dX3_numberNets_17 yy_X3_leastOf (c_X3_leastOf C.2.2.2.2.1  v1 I L hg2) q_966 q_968 q_31 (by decide) (by decide) rfl rfl (Nat.le_of_ble_eq_true rfl) ⟨Nat.le_refl _, Nat.le_refl _, Nat.le_refl _, Nat.le_refl _⟩ ?_
    refine z_istore_n C (lv' := [(2, .int x3), (0, .ref (B0 + 61)), (1, .int v1)]) rfl (by decide) rfl dX3_numberNets_20 ?_
    refine z_iload_n C rfl 0 rfl dX3_numberNets_21 ?_
    refine z_iload_n C rfl 2 rfl dX3_numberNets_22 ?_
    refine z_icmp_ne C 49 (by decide) dX3_numberNets_23 (fun hc => ?_) (fun hc => ?_)
    · have h := zif_f hc h
      refine z_aload_n C rfl 1 rfl dX3_numberNets_49 ?_
      refine z_getr C zc_3 dX3_numberNets_50 5 61 72 rfl (by decide) (by decide) q_377 rfl rfl ?_
      refine z_iload_n C rfl 2 rfl dX3_numberNets_53 ?_
      refine z_aload_n C rfl 1 rfl dX3_numberNets_54 ?_
      refine z_getr C zc_3 dX3_numberNets_55 5 61 72 rfl (by decide) (by decide) q_377 rfl rfl ?_
      refine z_iload_n C rfl 0 rfl dX3_numberNets_58 ?_
      obtain ⟨hb5, h⟩ := zck_e h
      refine z_iaload C dX3_numberNets_59 rfl rfl (by decide) (zbd_in hb5) ?_
      obtain ⟨hb6, h⟩ := zck_e h
      refine z_iastore C dX3_numberNets_60 rfl rfl (by decide) (zbd_in hb6) ?_
      obtain ⟨I7, eI7, h⟩ := zlt_e h
      refine z_eqI C eI7 ?_
      refine z_lv [1, 2] (lv' := [(0, .ref (B0 + 61)), (1, .int v1)]) rfl ?_
      exact l_X3_numberNets_61 C L k7 hk7 v1 I7 h
    · have h := zif_t hc h
      refine z_aload_n C rfl 1 rfl dX3_numberNets_26 ?_
      refine z_getr C zc_3 dX3_numberNets_27 5 61 72 rfl (by decide) (by decide) q_377 rfl rfl ?_
      refine z_iload_n C rfl 2 rfl dX3_numberNets_30 ?_
      refine z_aload_n C rfl 1 rfl dX3_numberNets_31 ?_
      refine z_geti C zc_3 dX3_numberNets_32 1 61 rfl (by decide) (by decide) q_372 rfl ?_
      obtain ⟨hb8, h⟩ := zck_e h
      refine z_iastore C dX3_numberNets_35 rfl rfl (by decide) (zbd_in hb8) ?_
      obtain ⟨I9, eI9, h⟩ := zlt_e h
      refine z_eqI C eI9 ?_
      refine z_aload_n C rfl 1 rfl dX3_numberNets_36 ?_
      refine z_dup C rfl dX3_numberNets_37 ?_
      refine z_geti C zc_3 dX3_numberNets_38 1 61 rfl (by decide) (by decide) q_372 rfl ?_
      refine z_iconst C (v := 1) (by decide) dX3_numberNets_41 ?_
      refine z_iadd C dX3_numberNets_42 ?_
      obtain ⟨x10, ex10, h⟩ := zlt_e h
      refine z_eqi C ex10 ?_
      refine z_puti C zc_3 dX3_numberNets_43 1 61 rfl (by decide) (by decide) rfl q_372 rfl rfl rfl ?_
      obtain ⟨I11, eI11, h⟩ := zlt_e h
      refine z_eqI C eI11 ?_
      refine z_goto C 61 (by decide) dX3_numberNets_46 ?_
      refine z_lv [1, 2] (lv' := [(0, .ref (B0 + 61)), (1, .int v1)]) rfl ?_
      exact l_X3_numberNets_61 C L k7 hk7 v1 I11 h
set_option maxHeartbeats 4000000 in
set_option maxRecDepth 100000 in
theorem L_X3_numberNets_7 {r : zI} (C : zC p l e R s m args below meth c s0 a0 d cy B0 yX3_numberNets.cls cX3_numberNets 3 none bc bs bc bs 1 23 []) (L : zL) (v1 : Int32) (I : zI) (h : zlp2 (f_X3_numberNets_7) zF v1 I = some r) : zG p l e R s m args below meth c d cy B0 3 bc bs (zQ below s args d cy B0 bc bs (.inl none) zSH zKn bc bs r L) 7 [(0, .ref (B0 + 61)), (1, .int v1)] [] zSH zKn bc bs I L :=
 zlp2_e (fun (v1 : Int32) (I : zI) => zG p l e R s m args below meth c d cy B0 3 bc bs (zQ below s args d cy B0 bc bs (.inl none) zSH zKn bc bs r L) 7 [(0, .ref (B0 + 61)), (1, .int v1)] [] zSH zKn bc bs I L) (fun k9 hk9 v1 I h => l_X3_numberNets_7 C L k9 hk9 v1 I h) zF v1 I h
set_option maxHeartbeats 4000000 in
set_option maxRecDepth 100000 in
theorem c_X3_numberNets {r : zI} (hE : zE0 l s0 a0 d cy B0) (I : zI) (L : zL) (h : f_X3_numberNets I = some r) : zM l s0 d cy B0 yX3_numberNets cX3_numberNets 3 none 1 23 [.ref (B0 + 61)] zSH zKn bc bs I L (.inl none) zSH zKn bc bs r L := by
  refine z_meth yy_X3_numberNets hE (Nat.le_of_ble_eq_true rfl) (fun p e R s m args below meth c C => ?_)
  show zG p l e R s m args below meth c d cy B0 3 bc bs (zQ below s args d cy B0 bc bs (.inl none) zSH zKn bc bs r L) 0 [(0, .ref (B0 + 61))] [] zSH zKn bc bs I L
  unfold f_X3_numberNets at h
  refine z_aload_n C rfl 0 rfl dX3_numberNets_0 ?_
  refine z_iconst C (v := 0) (by decide) dX3_numberNets_1 ?_
  refine z_puti C zc_3 dX3_numberNets_2 1 61 rfl (by decide) (by decide) rfl q_372 rfl rfl rfl ?_
  obtain ⟨I1, eI1, h⟩ := zlt_e h
  refine z_eqI C eI1 ?_
  refine z_iconst C (v := 0) (by decide) dX3_numberNets_5 ?_
  refine z_istore_n C (lv' := [(1, .int (0 : Int32)), (0, .ref (B0 + 61))]) rfl (by decide) rfl dX3_numberNets_6 ?_
  refine z_lv [1, 0] (lv' := [(0, .ref (B0 + 61)), (1, .int (0 : Int32))]) rfl ?_
  exact L_X3_numberNets_7 C L (0 : Int32) I1 h
end Zp05_05_walk
