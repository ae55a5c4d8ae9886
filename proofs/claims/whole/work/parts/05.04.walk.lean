section Zp05_04_walk
variable {p : Program} {l : Launch} {e : Env} {R : Room} {s : State} {m : MethodId} {args : Array Value} {below : List Frame} {meth : Method} {c : Code} {s0 : State} {a0 : Array Value} {d : va_G} {cy : Nat → ClassId} {B0 : Nat} {bc bs : Nat}
theorem q_86 : (Cond.initialized "DeviceFind$Devices") ∈ lw_tbl := List.mem_of_getElem? (i := 86) (by decide +kernel)
theorem q_435 : (Cond.fieldLink "DeviceFind$Devices" (27 : Nat) "DeviceFind$Devices" "pinNets" "[I") ∈ lw_tbl := List.mem_of_getElem? (i := 435) (by decide +kernel)
theorem q_1055 : (Cond.code ({ cls := "DeviceFind$Devices", name := "haveSameNets", desc := "(III)Z" } : Jvm.MethodName) prog_2_method_6_code (5 : Nat) (Option.some Jvm.ClassFile.FieldType.boolean)) ∈ lw_tbl := List.mem_of_getElem? (i := 1055) (by decide +kernel)
theorem yy_X0_haveSameNets : zY yX0_haveSameNets cX0_haveSameNets 5 (some .boolean) 3 := ⟨q_1055, q_86, by decide +kernel, by decide +kernel, by decide +kernel⟩
noncomputable def f_X0_haveSameNets_3 (k3 : Int32 → Int32 → Int32 → Int32 → zI → Option Int32) (v1 : Int32) (v2 : Int32) (v3 : Int32) (v4 : Int32) (I : zI) : Option Int32 :=
  if v3 ≤ v4 then (some (1 : Int32)) else (zlt ((v1 * (4 : Int32)) + v4) (fun x1 => zck (zbd x1 1200) (zlt ((v2 * (4 : Int32)) + v4) (fun x3 => zck (zbd x3 1200) (if (I 82 x1.toNatClampNeg) = (I 82 x3.toNatClampNeg) then (zlt (v4 + 1) (fun x5 => k3 v1 v2 v3 x5 I)) else (some (0 : Int32)))))))
noncomputable def f_X0_haveSameNets (a1 : Int32) (a2 : Int32) (a3 : Int32) (I : zI) : Option Int32 :=
  zlp5 (f_X0_haveSameNets_3) zF a1 a2 a3 (0 : Int32) I
set_option maxHeartbeats 4000000 in
set_option maxRecDepth 100000 in
theorem l_X0_haveSameNets_3 {r : Int32} (C : zC p l e R s m args below meth c s0 a0 d cy B0 yX0_haveSameNets.cls cX0_haveSameNets 5 (some .boolean) bc bs bc bs 0 0 []) (L : zL) (k3 : Int32 → Int32 → Int32 → Int32 → zI → Option Int32) (hk3 : ∀ (v1 : Int32) (v2 : Int32) (v3 : Int32) (v4 : Int32) (I : zI), k3 v1 v2 v3 v4 I = some r → zG p l e R s m args below meth c d cy B0 5 bc bs (zQ below s args d cy B0 bc bs (.inl (some (.int r))) zSH zKn bc bs I L) 3 [(0, .ref (B0 + 73)), (1, .int v1), (2, .int v2), (3, .int v3), (4, .int v4)] [] zSH zKn bc bs I L) (v1 : Int32) (v2 : Int32) (v3 : Int32) (v4 : Int32) (I : zI) (h : f_X0_haveSameNets_3 k3 v1 v2 v3 v4 I = some r) : zG p l e R s m args below meth c d cy B0 5 bc bs (zQ below s args d cy B0 bc bs (.inl (some (.int r))) zSH zKn bc bs I L) 3 [(0, .ref (B0 + 73)), (1, .int v1), (2, .int v2), (3, .int v3), (4, .int v4)] [] zSH zKn bc bs I L := by
  unfold f_X0_haveSameNets_3 at h
  refine z_iload C 4 rfl dX0_haveSameNets_3 ?_
  refine z_iload_n C rfl 3 rfl dX0_haveSameNets_5 ?_
  refine z_icmp_ge C 42 (by decide) dX0_haveSameNets_6 (fun hc => ?_) (fun hc => ?_)
  · have h := zif_t hc h
    refine z_iconst C (v := 1) (by decide) dX0_haveSameNets_42 ?_
    obtain rfl := Option.some.inj h
    exact z_iret C dX0_haveSameNets_43 .boolean rfl rfl rfl
  · have h := zif_f hc h
    refine z_aload_n C rfl 0 rfl dX0_haveSameNets_9 ?_
    refine z_getr C zc_0 dX0_haveSameNets_10 5 73 82 rfl (by decide) (by decide) q_435 rfl rfl ?_
    refine z_iload_n C rfl 1 rfl dX0_haveSameNets_13 ?_
    refine z_iconst C (v := 4) (by decide) dX0_haveSameNets_14 ?_
    refine z_imul C dX0_haveSameNets_15 ?_
    refine z_iload C 4 rfl dX0_haveSameNets_16 ?_
    refine z_iadd C dX0_haveSameNets_18 ?_
    obtain ⟨x1, ex1, h⟩ := zlt_e h
    refine z_eqi C ex1 ?_
    obtain ⟨hb2, h⟩ := zck_e h
    refine z_iaload C dX0_haveSameNets_19 rfl rfl (by decide) (zbd_in hb2) ?_
    refine z_aload_n C rfl 0 rfl dX0_haveSameNets_20 ?_
    refine z_getr C zc_0 dX0_haveSameNets_21 5 73 82 rfl (by decide) (by decide) q_435 rfl rfl ?_
    refine z_iload_n C rfl 2 rfl dX0_haveSameNets_24 ?_
    refine z_iconst C (v := 4) (by decide) dX0_haveSameNets_25 ?_
    refine z_imul C dX0_haveSameNets_26 ?_
    refine z_iload C 4 rfl dX0_haveSameNets_27 ?_
    refine z_iadd C dX0_haveSameNets_29 ?_
    obtain ⟨x3, ex3, h⟩ := zlt_e h
    refine z_eqi C ex3 ?_
    obtain ⟨hb4, h⟩ := zck_e h
    refine z_iaload C dX0_haveSameNets_30 rfl rfl (by decide) (zbd_in hb4) ?_
    refine z_icmp_eq C 36 (by decide) dX0_haveSameNets_31 (fun hc => ?_) (fun hc => ?_)
    · have h := zif_t hc h
      obtain ⟨x5, ex5, h⟩ := zlt_e h
      refine z_iinc C (j := 4) (v := x5) (lv' := [(4, .int x5), (0, .ref (B0 + 73)), (1, .int v1), (2, .int v2), (3, .int v3)]) rfl (by rw [ex5]; rfl) (by decide) rfl dX0_haveSameNets_36 ?_
      refine z_goto C 3 (by decide) dX0_haveSameNets_39 ?_
      refine z_lv [1, 2, 3, 4, 0] (lv' := [(0, .ref (B0 + 73)), (1, .int v1), (2, .int v2), (3, .int v3), (4, .int x5)]) rfl ?_
      exact hk3 v1 v2 v3 x5 I h
    · have h := zif_f hc h
      refine z_iconst C (v := 0) (by decide) dX0_haveSameNets_34 ?_
      obtain rfl := Option.some.inj h
      exact z_iret C dX0_haveSameNets_35 .boolean rfl rfl rfl
set_option maxHeartbeats 4000000 in
set_option maxRecDepth 100000 in
theorem L_X0_haveSameNets_3 {r : Int32} (C : zC p l e R s m args below meth c s0 a0 d cy B0 yX0_haveSameNets.cls cX0_haveSameNets 5 (some .boolean) bc bs bc bs 0 0 []) (L : zL) (v1 : Int32) (v2 : Int32) (v3 : Int32) (v4 : Int32) (I : zI) (h : zlp5 (f_X0_haveSameNets_3) zF v1 v2 v3 v4 I = some r) : zG p l e R s m args below meth c d cy B0 5 bc bs (zQ below s args d cy B0 bc bs (.inl (some (.int r))) zSH zKn bc bs I L) 3 [(0, .ref (B0 + 73)), (1, .int v1), (2, .int v2), (3, .int v3), (4, .int v4)] [] zSH zKn bc bs I L :=
 zlp5_e (fun (v1 : Int32) (v2 : Int32) (v3 : Int32) (v4 : Int32) (I : zI) => zG p l e R s m args below meth c d cy B0 5 bc bs (zQ below s args d cy B0 bc bs (.inl (some (.int r))) zSH zKn bc bs I L) 3 [(0, .ref (B0 + 73)), (1, .int v1), (2, .int v2), (3, .int v3), (4, .int v4)] [] zSH zKn bc bs I L) (fun k9 hk9 v1 v2 v3 v4 I h => l_X0_haveSameNets_3 C L k9 hk9 v1 v2 v3 v4 I h) zF v1 v2 v3 v4 I h
set_option maxHeartbeats 4000000 in
set_option maxRecDepth 100000 in
theorem c_X0_haveSameNets {r : Int32} (hE : zE0 l s0 a0 d cy B0) (a1 : Int32) (a2 : Int32) (a3 : Int32) (I : zI) (L : zL) (h : f_X0_haveSameNets a1 a2 a3 I = some r) : zM l s0 d cy B0 yX0_haveSameNets cX0_haveSameNets 5 (some .boolean) 0 0 [.ref (B0 + 73), .int a1, .int a2, .int a3] zSH zKn bc bs I L (.inl (some (.int r))) zSH zKn bc bs I L := by
  refine z_meth yy_X0_haveSameNets hE (Nat.le_of_ble_eq_true rfl) (fun p e R s m args below meth c C => ?_)
  show zG p l e R s m args below meth c d cy B0 5 bc bs (zQ below s args d cy B0 bc bs (.inl (some (.int r))) zSH zKn bc bs I L) 0 [(0, .ref (B0 + 73)), (1, .int a1), (2, .int a2), (3, .int a3)] [] zSH zKn bc bs I L
  unfold f_X0_haveSameNets at h
  refine z_iconst C (v := 0) (by decide) dX0_haveSameNets_0 ?_
  refine z_istore C (lv' := [(4, .int (0 : Int32)), (0, .ref (B0 + 73)), (1, .int a1), (2, .int a2), (3, .int a3)]) (by decide) rfl dX0_haveSameNets_1 ?_
  refine z_lv [1, 2, 3, 4, 0] (lv' := [(0, .ref (B0 + 73)), (1, .int a1), (2, .int a2), (3, .int a3), (4, .int (0 : Int32))]) rfl ?_
  exact L_X0_haveSameNets_3 C L a1 a2 a3 (0 : Int32) I h
theorem q_41 : Cond.selects "DeviceFind$Devices" ⟨"DeviceFind$Devices", "haveSameNets", "(III)Z"⟩ ⟨"DeviceFind$Devices", "haveSameNets", "(III)Z"⟩ ∈ lw_tbl := List.mem_of_getElem? (i := 41) (by decide +kernel)
theorem q_425 : (Cond.fieldLink "DeviceFind$Devices" (9 : Nat) "DeviceFind$Devices" "kinds" "[I") ∈ lw_tbl := List.mem_of_getElem? (i := 425) (by decide +kernel)
theorem q_429 : (Cond.fieldLink "DeviceFind$Devices" (18 : Nat) "DeviceFind$Devices" "faults" "[I") ∈ lw_tbl := List.mem_of_getElem? (i := 429) (by decide +kernel)
theorem q_1051 : (Cond.code ({ cls := "DeviceFind$Devices", name := "hasParallel", desc := "(II)Z" } : Jvm.MethodName) prog_2_method_5_code (4 : Nat) (Option.some Jvm.ClassFile.FieldType.boolean)) ∈ lw_tbl := List.mem_of_getElem? (i := 1051) (by decide +kernel)
theorem q_1052 : (Cond.methodLink "DeviceFind$Devices" (107 : Nat) ({ cls := "DeviceFind$Devices", name := "haveSameNets", desc := "(III)Z" } : Jvm.MethodName)) ∈ lw_tbl := List.mem_of_getElem? (i := 1052) (by decide +kernel)
theorem q_1054 : (Cond.instanceMethod ({ cls := "DeviceFind$Devices", name := "haveSameNets", desc := "(III)Z" } : Jvm.MethodName)) ∈ lw_tbl := List.mem_of_getElem? (i := 1054) (by decide +kernel)
theorem yy_X0_hasParallel : zY yX0_hasParallel cX0_hasParallel 4 (some .boolean) 2 := ⟨q_1051, q_86, by decide +kernel, by decide +kernel, by decide +kernel⟩
noncomputable def f_X0_hasParallel_43 (k2 : Int32 → Int32 → Int32 → zI → Option Int32) (v1 : Int32) (v2 : Int32) (v3 : Int32) (I : zI) : Option Int32 :=
  zlt (v3 + 1) (fun x6 => k2 v1 v2 x6 I)
noncomputable def f_X0_hasParallel_2 (k2 : Int32 → Int32 → Int32 → zI → Option Int32) (v1 : Int32) (v2 : Int32) (v3 : Int32) (I : zI) : Option Int32 :=
  if v1 ≤ v3 then (some (0 : Int32)) else (zck (zbd v3 300) (zck (zbd v1 300) (if (I 77 v3.toNatClampNeg) = (I 77 v1.toNatClampNeg) then (zck (zbd v3 300) (if (I 79 v3.toNatClampNeg) = 0 then (zb1 (f_X0_haveSameNets v3 v1 v2 I) (fun x5 => if x5 = 0 then (f_X0_hasParallel_43 k2 v1 v2 v3 I) else (some (1 : Int32)))) else (f_X0_hasParallel_43 k2 v1 v2 v3 I))) else (f_X0_hasParallel_43 k2 v1 v2 v3 I))))
noncomputable def f_X0_hasParallel (a1 : Int32) (a2 : Int32) (I : zI) : Option Int32 :=
  zlp4 (f_X0_hasParallel_2) zF a1 a2 (0 : Int32) I
set_option maxHeartbeats 4000000 in
set_option maxRecDepth 100000 in
theorem l_X0_hasParallel_43 {r : Int32} (C : zC p l e R s m args below meth c s0 a0 d cy B0 yX0_hasParallel.cls cX0_hasParallel 4 (some .boolean) bc bs bc bs 1 24 []) (L : zL) (k2 : Int32 → Int32 → Int32 → zI → Option Int32) (hk2 : ∀ (v1 : Int32) (v2 : Int32) (v3 : Int32) (I : zI), k2 v1 v2 v3 I = some r → zG p l e R s m args below meth c d cy B0 4 bc bs (zQ below s args d cy B0 bc bs (.inl (some (.int r))) zSH zKn bc bs I L) 2 [(0, .ref (B0 + 73)), (1, .int v1), (2, .int v2), (3, .int v3)] [] zSH zKn bc bs I L) (v1 : Int32) (v2 : Int32) (v3 : Int32) (I : zI) (h : f_X0_hasParallel_43 k2 v1 v2 v3 I = some r) : zG p l e R s m args below meth c d cy B0 4 bc bs (zQ below s args d cy B0 bc bs (.inl (some (.int r))) zSH zKn bc bs I L) 43 [(0, .ref (B0 + 73)), (1, .int v1), (2, .int v2), (3, .int v3)] [] zSH zKn bc bs I L := by
  unfold f_X0_hasParallel_43 at h
  obtain ⟨x6, ex6, h⟩ := zlt_e h
  refine z_iinc C (j := 3) (v := x6) (lv' := [(3, .int x6), (0, .ref (B0 + 73)), (1, .int v1), (2, .int v2)]) rfl (by rw [ex6]; rfl) (by decide) rfl dX0_hasParallel_43 ?_
  refine z_goto C 2 (by decide) dX0_hasParallel_46 ?_
  refine z_lv [1, 2, 3, 0] (lv' := [(0, .ref (B0 + 73)), (1, .int v1), (2, .int v2), (3, .int x6)]) rfl ?_
  exact hk2 v1 v2 x6 I h
set_option maxHeartbeats 4000000 in
set_option maxRecDepth 100000 in
theorem l_X0_hasParallel_2 {r : Int32} (C : zC p l e R s m args below meth c s0 a0 d cy B0 yX0_hasParallel.cls cX0_hasParallel 4 (some .boolean) bc bs bc bs 1 24 []) (L : zL) (k2 : Int32 → Int32 → Int32 → zI → Option Int32) (hk2 : ∀ (v1 : Int32) (v2 : Int32) (v3 : Int32) (I : zI), k2 v1 v2 v3 I = some r → zG p l e R s m args below meth c d cy B0 4 bc bs (zQ below s args d cy B0 bc bs (.inl (some (.int r))) zSH zKn bc bs I L) 2 [(0, .ref (B0 + 73)), (1, .int v1), (2, .int v2), (3, .int v3)] [] zSH zKn bc bs I L) (v1 : Int32) (v2 : Int32) (v3 : Int32) (I : zI) (h : f_X0_hasParallel_2 k2 v1 v2 v3 I = some r) : zG p l e R s m args below meth c d cy B0 4 bc bs (zQ below s args d cy B0 bc bs (.inl (some (.int r))) zSH zKn bc bs I L) 2 [(0, .ref (B0 + 73)), (1, .int v1), (2, .int v2), (3, .int v3)] [] zSH zKn bc bs I L := by
  unfold f_X0_hasParallel_2 at h
  refine z_iload_n C rfl 3 rfl dX0_hasParallel_2 ?_
  refine z_iload_n C rfl 1 rfl dX0_hasParallel_3 ?_
  refine z_icmp_ge C 49 (by decide) dX0_hasParallel_4 (fun hc => ?_) (fun hc => ?_)
  · have h := zif_t hc h
    refine z_iconst C (v := 0) (by decide) dX0_hasParallel_49 ?_
    obtain rfl := Option.some.inj h
    exact z_iret C dX0_hasParallel_50 .boolean rfl rfl rfl
  · have h := zif_f hc h
    refine z_aload_n C rfl 0 rfl dX0_hasParallel_7 ?_
    refine z_getr C zc_0 dX0_hasParallel_8 0 73 77 rfl (by decide) (by decide) q_425 rfl rfl ?_
    refine z_iload_n C rfl 3 rfl dX0_hasParallel_11 ?_
    obtain ⟨hb1, h⟩ := zck_e h
    refine z_iaload C dX0_hasParallel_12 rfl rfl (by decide) (zbd_in hb1) ?_
    refine z_aload_n C rfl 0 rfl dX0_hasParallel_13 ?_
    refine z_getr C zc_0 dX0_hasParallel_14 0 73 77 rfl (by decide) (by decide) q_425 rfl rfl ?_
    refine z_iload_n C rfl 1 rfl dX0_hasParallel_17 ?_
    obtain ⟨hb2, h⟩ := zck_e h
    refine z_iaload C dX0_hasParallel_18 rfl rfl (by decide) (zbd_in hb2) ?_
    refine z_icmp_ne C 43 (by decide) dX0_hasParallel_19 (fun hc => ?_) (fun hc => ?_)
    · have h := zif_f hc h
      exact l_X0_hasParallel_43 C L k2 hk2 v1 v2 v3 I h
    · have h := zif_t hc h
      refine z_aload_n C rfl 0 rfl dX0_hasParallel_22 ?_
      refine z_getr C zc_0 dX0_hasParallel_23 2 73 79 rfl (by decide) (by decide) q_429 rfl rfl ?_
      refine z_iload_n C rfl 3 rfl dX0_hasParallel_26 ?_
      obtain ⟨hb3, h⟩ := zck_e h
      refine z_iaload C dX0_hasParallel_27 rfl rfl (by decide) (zbd_in hb3) ?_
      refine z_if_ne C 43 (by decide) dX0_hasParallel_28 (fun hc => ?_) (fun hc => ?_)
      · have h := zif_f hc h
        exact l_X0_hasParallel_43 C L k2 hk2 v1 v2 v3 I h
      · have h := zif_t hc h
        refine z_aload_n C rfl 0 rfl dX0_hasParallel_31 ?_
        refine z_iload_n C rfl 3 rfl dX0_hasParallel_32 ?_
        refine z_iload_n C rfl 1 rfl dX0_hasParallel_33 ?_
        refine z_iload_n C rfl 2 rfl dX0_hasParallel_34 ?_
        obtain ⟨x5, hg4, h⟩ := zb1_e h
        refine z_callV C zc_0 rfl (by decide) dX0_hasParallel_35 yy_X0_haveSameNets (c_X0_haveSameNets C.2.2.2.2.1  v3 v1 v2 I L hg4) q_1052 q_1054 q_41 (by decide) (by decide) rfl rfl (Nat.le_of_ble_eq_true rfl) ⟨Nat.le_refl _, Nat.le_refl _, Nat.le_refl _, Nat.le_refl _⟩ ?_
        refine z_if_eq C 43 (by decide) dX0_hasParallel_38 (fun hc => ?_) (fun hc => ?_)
        · have h := zif_t hc h
          exact l_X0_hasParallel_43 C L k2 hk2 v1 v2 v3 I h
        · have h := zif_f hc h
          refine z_iconst C (v := 1) (by decide) dX0_hasParallel_41 ?_
          obtain rfl := Option.some.inj h
          exact z_iret C dX0_hasParallel_42 .boolean rfl rfl rfl
set_option maxHeartbeats 4000000 in
set_option maxRecDepth 100000 in
theorem L_X0_hasParallel_2 {r : Int32} (C : zC p l e R s m args below meth c s0 a0 d cy B0 yX0_hasParallel.cls cX0_hasParallel 4 (some .boolean) bc bs bc bs 1 24 []) (L : zL) (v1 : Int32) (v2 : Int32) (v3 : Int32) (I : zI) (h : zlp4 (f_X0_hasParallel_2) zF v1 v2 v3 I = some r) : zG p l e R s m args below meth c d cy B0 4 bc bs (zQ below s args d cy B0 bc bs (.inl (some (.int r))) zSH zKn bc bs I L) 2 [(0, .ref (B0 + 73)), (1, .int v1), (2, .int v2), (3, .int v3)] [] zSH zKn bc bs I L :=
 zlp4_e (fun (v1 : Int32) (v2 : Int32) (v3 : Int32) (I : zI) => zG p l e R s m args below meth c d cy B0 4 bc bs (zQ below s args d cy B0 bc bs (.inl (some (.int r))) zSH zKn bc bs I L) 2 [(0, .ref (B0 + 73)), (1, .int v1), (2, .int v2), (3, .int v3)] [] zSH zKn bc bs I L) (fun k9 hk9 v1 v2 v3 I h => l_X0_hasParallel_2 C L k9 hk9 v1 v2 v3 I h) zF v1 v2 v3 I h
set_option maxHeartbeats 4000000 in
set_option maxRecDepth 100000 in
theorem c_X0_hasParallel {r : Int32} (hE : zE0 l s0 a0 d cy B0) (a1 : Int32) (a2 : Int32) (I : zI) (L : zL) (h : f_X0_hasParallel a1 a2 I = some r) : zM l s0 d cy B0 yX0_hasParallel cX0_hasParallel 4 (some .boolean) 1 24 [.ref (B0 + 73), .int a1, .int a2] zSH zKn bc bs I L (.inl (some (.int r))) zSH zKn bc bs I L := by
  refine z_meth yy_X0_hasParallel hE (Nat.le_of_ble_eq_true rfl) (fun p e R s m args below meth c C => ?_)
  show zG p l e R s m args below meth c d cy B0 4 bc bs (zQ below s args d cy B0 bc bs (.inl (some (.int r))) zSH zKn bc bs I L) 0 [(0, .ref (B0 + 73)), (1, .int a1), (2, .int a2)] [] zSH zKn bc bs I L
  unfold f_X0_hasParallel at h
  refine z_iconst C (v := 0) (by decide) dX0_hasParallel_0 ?_
  refine z_istore_n C (lv' := [(3, .int (0 : Int32)), (0, .ref (B0 + 73)), (1, .int a1), (2, .int a2)]) rfl (by decide) rfl dX0_hasParallel_1 ?_
  refine z_lv [1, 2, 3, 0] (lv' := [(0, .ref (B0 + 73)), (1, .int a1), (2, .int a2), (3, .int (0 : Int32))]) rfl ?_
  exact L_X0_hasParallel_2 C L a1 a2 (0 : Int32) I h
theorem q_40 : Cond.selects "DeviceFind$Devices" ⟨"DeviceFind$Devices", "hasParallel", "(II)Z"⟩ ⟨"DeviceFind$Devices", "hasParallel", "(II)Z"⟩ ∈ lw_tbl := List.mem_of_getElem? (i := 40) (by decide +kernel)
theorem q_191 : (Cond.fieldLink "DeviceFind$Devices" (96 : Nat) "DeviceFind$Plan" "pinCounts" "[I") ∈ lw_tbl := List.mem_of_getElem? (i := 191) (by decide +kernel)
theorem q_339 : (Cond.fieldLink "DeviceFind$Devices" (82 : Nat) "DeviceFind$Peeler" "squares" "[I") ∈ lw_tbl := List.mem_of_getElem? (i := 339) (by decide +kernel)
theorem q_342 : (Cond.fieldLink "DeviceFind$Devices" (85 : Nat) "DeviceFind$Peeler" "taken" "I") ∈ lw_tbl := List.mem_of_getElem? (i := 342) (by decide +kernel)
theorem q_427 : (Cond.fieldLink "DeviceFind$Devices" (15 : Nat) "DeviceFind$Devices" "shapes" "[I") ∈ lw_tbl := List.mem_of_getElem? (i := 427) (by decide +kernel)
theorem q_431 : (Cond.fieldLink "DeviceFind$Devices" (21 : Nat) "DeviceFind$Devices" "firsts" "[I") ∈ lw_tbl := List.mem_of_getElem? (i := 431) (by decide +kernel)
theorem q_433 : (Cond.fieldLink "DeviceFind$Devices" (24 : Nat) "DeviceFind$Devices" "sizes" "[I") ∈ lw_tbl := List.mem_of_getElem? (i := 433) (by decide +kernel)
theorem q_437 : (Cond.fieldLink "DeviceFind$Devices" (30 : Nat) "DeviceFind$Devices" "different" "[I") ∈ lw_tbl := List.mem_of_getElem? (i := 437) (by decide +kernel)
theorem q_439 : (Cond.fieldLink "DeviceFind$Devices" (33 : Nat) "DeviceFind$Devices" "total" "I") ∈ lw_tbl := List.mem_of_getElem? (i := 439) (by decide +kernel)
theorem q_442 : (Cond.fieldLink "DeviceFind$Devices" (41 : Nat) "DeviceFind$Devices" "peeler" "LDeviceFind$Peeler;") ∈ lw_tbl := List.mem_of_getElem? (i := 442) (by decide +kernel)
theorem q_443 : (Cond.fieldLink "DeviceFind$Devices" (45 : Nat) "DeviceFind$Devices" "place" "LDeviceFind$Place;") ∈ lw_tbl := List.mem_of_getElem? (i := 443) (by decide +kernel)
theorem q_997 : (Cond.code ({ cls := "DeviceFind$Devices", name := "add", desc := "(LDeviceFind$Plan;II)V" } : Jvm.MethodName) prog_2_method_4_code (5 : Nat) (Option.none : Option Jvm.ClassFile.FieldType)) ∈ lw_tbl := List.mem_of_getElem? (i := 997) (by decide +kernel)
theorem q_998 : (Cond.methodLink "DeviceFind$Devices" (76 : Nat) ({ cls := "DeviceFind$Place", name := "findPins", desc := "(LDeviceFind$Plan;I)Z" } : Jvm.MethodName)) ∈ lw_tbl := List.mem_of_getElem? (i := 998) (by decide +kernel)
theorem q_999 : (Cond.instanceMethod ({ cls := "DeviceFind$Place", name := "findPins", desc := "(LDeviceFind$Plan;I)Z" } : Jvm.MethodName)) ∈ lw_tbl := List.mem_of_getElem? (i := 999) (by decide +kernel)
theorem q_1000 : (Cond.selects "DeviceFind$Place" ({ cls := "DeviceFind$Place", name := "findPins", desc := "(LDeviceFind$Plan;I)Z" } : Jvm.MethodName) ({ cls := "DeviceFind$Place", name := "findPins", desc := "(LDeviceFind$Plan;I)Z" } : Jvm.MethodName)) ∈ lw_tbl := List.mem_of_getElem? (i := 1000) (by decide +kernel)
theorem q_1030 : (Cond.methodLink "DeviceFind$Devices" (88 : Nat) ({ cls := "DeviceFind$Place", name := "edges", desc := "()I" } : Jvm.MethodName)) ∈ lw_tbl := List.mem_of_getElem? (i := 1030) (by decide +kernel)
theorem q_1031 : (Cond.instanceMethod ({ cls := "DeviceFind$Place", name := "edges", desc := "()I" } : Jvm.MethodName)) ∈ lw_tbl := List.mem_of_getElem? (i := 1031) (by decide +kernel)
theorem q_1032 : (Cond.selects "DeviceFind$Place" ({ cls := "DeviceFind$Place", name := "edges", desc := "()I" } : Jvm.MethodName) ({ cls := "DeviceFind$Place", name := "edges", desc := "()I" } : Jvm.MethodName)) ∈ lw_tbl := List.mem_of_getElem? (i := 1032) (by decide +kernel)
theorem q_1035 : (Cond.methodLink "DeviceFind$Devices" (92 : Nat) ({ cls := "DeviceFind$Place", name := "edgesToFirstPin", desc := "(LDeviceFind$Plan;I)I" } : Jvm.MethodName)) ∈ lw_tbl := List.mem_of_getElem? (i := 1035) (by decide +kernel)
theorem q_1036 : (Cond.instanceMethod ({ cls := "DeviceFind$Place", name := "edgesToFirstPin", desc := "(LDeviceFind$Plan;I)I" } : Jvm.MethodName)) ∈ lw_tbl := List.mem_of_getElem? (i := 1036) (by decide +kernel)
theorem q_1037 : (Cond.selects "DeviceFind$Place" ({ cls := "DeviceFind$Place", name := "edgesToFirstPin", desc := "(LDeviceFind$Plan;I)I" } : Jvm.MethodName) ({ cls := "DeviceFind$Place", name := "edgesToFirstPin", desc := "(LDeviceFind$Plan;I)I" } : Jvm.MethodName)) ∈ lw_tbl := List.mem_of_getElem? (i := 1037) (by decide +kernel)
theorem q_1043 : (Cond.methodLink "DeviceFind$Devices" (99 : Nat) ({ cls := "DeviceFind$Place", name := "netOfPin", desc := "(I)I" } : Jvm.MethodName)) ∈ lw_tbl := List.mem_of_getElem? (i := 1043) (by decide +kernel)
theorem q_1044 : (Cond.instanceMethod ({ cls := "DeviceFind$Place", name := "netOfPin", desc := "(I)I" } : Jvm.MethodName)) ∈ lw_tbl := List.mem_of_getElem? (i := 1044) (by decide +kernel)
theorem q_1045 : (Cond.selects "DeviceFind$Place" ({ cls := "DeviceFind$Place", name := "netOfPin", desc := "(I)I" } : Jvm.MethodName) ({ cls := "DeviceFind$Place", name := "netOfPin", desc := "(I)I" } : Jvm.MethodName)) ∈ lw_tbl := List.mem_of_getElem? (i := 1045) (by decide +kernel)
theorem q_1048 : (Cond.methodLink "DeviceFind$Devices" (103 : Nat) ({ cls := "DeviceFind$Devices", name := "hasParallel", desc := "(II)Z" } : Jvm.MethodName)) ∈ lw_tbl := List.mem_of_getElem? (i := 1048) (by decide +kernel)
theorem q_1050 : (Cond.instanceMethod ({ cls := "DeviceFind$Devices", name := "hasParallel", desc := "(II)Z" } : Jvm.MethodName)) ∈ lw_tbl := List.mem_of_getElem? (i := 1050) (by decide +kernel)
theorem yy_X0_add : zY yX0_add cX0_add 5 none 3 := ⟨q_997, q_86, by decide +kernel, by decide +kernel, by decide +kernel⟩
noncomputable def f_X0_add_206 (P : Nat) (I : zI) (L : zL) : Option (zI × zL) :=
  zlt ((I 73 7) + (1 : Int32)) (fun x43 => zlt (zu I 73 7 x43) (fun I44 => some (I44, L)))
noncomputable def f_X0_add_127 (P : Nat) (k127 : Int32 → Int32 → zI → zL → Option (zI × zL)) (v2 : Int32) (v4 : Int32) (I : zI) (L : zL) : Option (zI × zL) :=
  zck (zbd v2 8) (if (I ((P + 1 + 10)) v2.toNatClampNeg) ≤ v4 then (zlt (I 73 7) (fun x28 => zck (zbd x28 300) (if (I 79 x28.toNatClampNeg) = 0 then (zck (zbd v2 8) (zb1 (f_X0_hasParallel (I 73 7) (I ((P + 1 + 10)) v2.toNatClampNeg) I) (fun x32 => if x32 = 0 then (zck (zbd v2 8) (zlt ((I 83 v2.toNatClampNeg) + (1 : Int32)) (fun x34 => zck (zbd v2 8) (zlt (zu I 83 v2.toNatClampNeg x34) (fun I36 => f_X0_add_206 P I36 L))))) else (f_X0_add_206 P I L)))) else (f_X0_add_206 P I L)))) else (zlt ((I 73 7) * (4 : Int32)) (fun x37 => zb1 (f_X6_netOfPin v4 I) (fun x39 => zck (zbd (x37 + v4) 1200) (zlt (zu I 82 (x37 + v4).toNatClampNeg x39) (fun I41 => zlt (v4 + 1) (fun x42 => k127 v2 x42 I41 L)))))))
noncomputable def f_X0_add_45 (P : Nat) (v2 : Int32) (w1 : Int32) (w2 : Int32) (I : zI) (L : zL) : Option (zI × zL) :=
  zck (zbd w1 300) (zlt (zu I 79 w1.toNatClampNeg w2) (fun I10 => zck (zbd (0 : Int32) 4096) (zck (zbd (I10 73 7) 300) (zlt (zu I10 80 (I10 73 7).toNatClampNeg (I10 59 (0 : Int32).toNatClampNeg)) (fun I13 => zlt ((I13 73 7) * (3 : Int32)) (fun x14 => zck (zbd x14 900) (zlt (zu I13 81 x14.toNatClampNeg (I13 57 2)) (fun I16 => zlt ((I16 73 7) * (3 : Int32)) (fun x17 => zb1 (f_X6_edges I16 L) (fun x19 => zck (zbd (x17 + (1 : Int32)) 900) (zlt (zu I16 81 (x17 + (1 : Int32)).toNatClampNeg x19) (fun I21 => zlt ((I21 73 7) * (3 : Int32)) (fun x22 => zb1 (f_X6_edgesToFirstPin P v2 I21 L) (fun x24 => zck (zbd (x22 + (2 : Int32)) 900) (zlt (zu I21 81 (x22 + (2 : Int32)).toNatClampNeg x24) (fun I26 => zlp4 (f_X0_add_127 P) zF v2 (0 : Int32) I26 L))))))))))))))))
noncomputable def f_X0_add (P : Nat) (a2 : Int32) (a3 : Int32) (I : zI) (L : zL) : Option (zI × zL) :=
  zck (zbd (I 73 7) 300) (zlt (zu I 77 (I 73 7).toNatClampNeg a2) (fun I2 => zck (zbd (I2 73 7) 300) (zlt (zu I2 78 (I2 73 7).toNatClampNeg a3) (fun I4 => zb3 (f_X6_findPins P a2 I4 L) (fun x6 I7 L8 => if x6 = 0 then (f_X0_add_45 P a2 (I4 73 7) (0 : Int32) I7 L8) else (f_X0_add_45 P a2 (I4 73 7) (1 : Int32) I7 L8))))))
set_option maxHeartbeats 4000000 in
set_option maxRecDepth 100000 in
theorem l_X0_add_206 {r : zI × zL} (C : zC p l e R s m args below meth c s0 a0 d cy B0 yX0_add.cls cX0_add 5 none bc bs bc bs 4 113 []) {P : Nat} (hP : zpl P) (I : zI) (L : zL) (h : f_X0_add_206 P I L = some r) : zG p l e R s m args below meth c d cy B0 5 bc bs (zQ below s args d cy B0 bc bs (.inl none) zSH zKn bc bs r.1 r.2) 206 [(0, .ref (B0 + 73))] [] zSH zKn bc bs I L := by
  unfold f_X0_add_206 at h
  refine z_aload_n C rfl 0 rfl dX0_add_206 ?_
  refine z_dup C rfl dX0_add_207 ?_
  refine z_geti C zc_0 dX0_add_208 7 73 rfl (by decide) (by decide) q_439 rfl ?_
  refine z_iconst C (v := 1) (by decide) dX0_add_211 ?_
  refine z_iadd C dX0_add_212 ?_
  obtain ⟨x43, ex43, h⟩ := zlt_e h
  refine z_eqi C ex43 ?_
  refine z_puti C zc_0 dX0_add_213 7 73 rfl (by decide) (by decide) rfl q_439 rfl rfl rfl ?_
  obtain ⟨I44, eI44, h⟩ := zlt_e h
  refine z_eqI C eI44 ?_
  obtain rfl := Option.some.inj h
  exact z_vret C dX0_add_216 rfl rfl
set_option maxHeartbeats 4000000 in
set_option maxRecDepth 100000 in
theorem l_X0_add_127 {r : zI × zL} (C : zC p l e R s m args below meth c s0 a0 d cy B0 yX0_add.cls cX0_add 5 none bc bs bc bs 4 113 []) {P : Nat} (hP : zpl P) (k127 : Int32 → Int32 → zI → zL → Option (zI × zL)) (hk127 : ∀ (v2 : Int32) (v4 : Int32) (I : zI) (L : zL), k127 v2 v4 I L = some r → zG p l e R s m args below meth c d cy B0 5 bc bs (zQ below s args d cy B0 bc bs (.inl none) zSH zKn bc bs r.1 r.2) 127 [(0, .ref (B0 + 73)), (1, .ref (B0 + P)), (2, .int v2), (4, .int v4)] [] zSH zKn bc bs I L) (v2 : Int32) (v4 : Int32) (I : zI) (L : zL) (h : f_X0_add_127 P k127 v2 v4 I L = some r) : zG p l e R s m args below meth c d cy B0 5 bc bs (zQ below s args d cy B0 bc bs (.inl none) zSH zKn bc bs r.1 r.2) 127 [(0, .ref (B0 + 73)), (1, .ref (B0 + P)), (2, .int v2), (4, .int v4)] [] zSH zKn bc bs I L := by
  unfold f_X0_add_127 at h
  refine z_iload C 3 rfl dX0_add_127 ?_
  refine z_aload_n C rfl 1 rfl dX0_add_129 ?_
  refine z_getr C zc_7 dX0_add_130 10 P (P + 1 + 10) (zpl_k hP) (zpl_lt hP) (by decide) q_191 rfl (zpl_r hP 10 (by decide)) ?_
  refine z_iload_n C rfl 2 rfl dX0_add_133 ?_
  obtain ⟨hb27, h⟩ := zck_e h
  refine z_iaload C dX0_add_134 (zpl_ak hP 10 (by decide)) (zpl_an hP 10 (by decide)) (zpl_a hP 10 (by decide)) (zbd_in hb27) ?_
  refine z_icmp_ge C 167 (by decide) dX0_add_135 (fun hc => ?_) (fun hc => ?_)
  · have h := zif_t hc h
    refine z_aload_n C rfl 0 rfl dX0_add_167 ?_
    refine z_getr C zc_0 dX0_add_168 2 73 79 rfl (by decide) (by decide) q_429 rfl rfl ?_
    refine z_aload_n C rfl 0 rfl dX0_add_171 ?_
    refine z_geti C zc_0 dX0_add_172 7 73 rfl (by decide) (by decide) q_439 rfl ?_
    obtain ⟨x28, ex28, h⟩ := zlt_e h
    refine z_eqi C ex28 ?_
    obtain ⟨hb29, h⟩ := zck_e h
    refine z_iaload C dX0_add_175 rfl rfl (by decide) (zbd_in hb29) ?_
    refine z_if_ne C 206 (by decide) dX0_add_176 (fun hc => ?_) (fun hc => ?_)
    · have h := zif_f hc h
      refine z_lv [0] (lv' := [(0, .ref (B0 + 73))]) rfl ?_
      exact l_X0_add_206 C hP I L h
    · have h := zif_t hc h
      refine z_aload_n C rfl 0 rfl dX0_add_179 ?_
      refine z_aload_n C rfl 0 rfl dX0_add_180 ?_
      refine z_geti C zc_0 dX0_add_181 7 73 rfl (by decide) (by decide) q_439 rfl ?_
      refine z_aload_n C rfl 1 rfl dX0_add_184 ?_
      refine z_getr C zc_7 dX0_add_185 10 P (P + 1 + 10) (zpl_k hP) (zpl_lt hP) (by decide) q_191 rfl (zpl_r hP 10 (by decide)) ?_
      refine z_iload_n C rfl 2 rfl dX0_add_188 ?_
      obtain ⟨hb30, h⟩ := zck_e h
      refine z_iaload C dX0_add_189 (zpl_ak hP 10 (by decide)) (zpl_an hP 10 (by decide)) (zpl_a hP 10 (by decide)) (zbd_in hb30) ?_
      obtain ⟨x32, hg31, h⟩ := zb1_e h
      refine z_callV C zc_0 rfl (by decide) dX0_add_190 yy_X0_hasParallel (c_X0_hasParallel C.2.2.2.2.1  (I 73 7) (I ((P + 1 + 10)) v2.toNatClampNeg) I L hg31) q_1048 q_1050 q_40 (by decide) (by decide) rfl rfl (Nat.le_of_ble_eq_true rfl) ⟨Nat.le_refl _, Nat.le_refl _, Nat.le_refl _, Nat.le_refl _⟩ ?_
      refine z_if_ne C 206 (by decide) dX0_add_193 (fun hc => ?_) (fun hc => ?_)
      · have h := zif_f hc h
        refine z_lv [0] (lv' := [(0, .ref (B0 + 73))]) rfl ?_
        exact l_X0_add_206 C hP I L h
      · have h := zif_t hc h
        refine z_aload_n C rfl 0 rfl dX0_add_196 ?_
        refine z_getr C zc_0 dX0_add_197 6 73 83 rfl (by decide) (by decide) q_437 rfl rfl ?_
        refine z_iload_n C rfl 2 rfl dX0_add_200 ?_
        refine z_dup2_11 C rfl rfl dX0_add_201 ?_
        obtain ⟨hb33, h⟩ := zck_e h
        refine z_iaload C dX0_add_202 rfl rfl (by decide) (zbd_in hb33) ?_
        refine z_iconst C (v := 1) (by decide) dX0_add_203 ?_
        refine z_iadd C dX0_add_204 ?_
        obtain ⟨x34, ex34, h⟩ := zlt_e h
        refine z_eqi C ex34 ?_
        obtain ⟨hb35, h⟩ := zck_e h
        refine z_iastore C dX0_add_205 rfl rfl (by decide) (zbd_in hb35) ?_
        obtain ⟨I36, eI36, h⟩ := zlt_e h
        refine z_eqI C eI36 ?_
        refine z_lv [0] (lv' := [(0, .ref (B0 + 73))]) rfl ?_
        exact l_X0_add_206 C hP I36 L h
  · have h := zif_f hc h
    refine z_aload_n C rfl 0 rfl dX0_add_138 ?_
    refine z_getr C zc_0 dX0_add_139 5 73 82 rfl (by decide) (by decide) q_435 rfl rfl ?_
    refine z_aload_n C rfl 0 rfl dX0_add_142 ?_
    refine z_geti C zc_0 dX0_add_143 7 73 rfl (by decide) (by decide) q_439 rfl ?_
    refine z_iconst C (v := 4) (by decide) dX0_add_146 ?_
    refine z_imul C dX0_add_147 ?_
    obtain ⟨x37, ex37, h⟩ := zlt_e h
    refine z_eqi C ex37 ?_
    refine z_iload C 3 rfl dX0_add_148 ?_
    refine z_iadd C dX0_add_150 ?_
    refine z_aload_n C rfl 0 rfl dX0_add_151 ?_
    refine z_getr C zc_0 dX0_add_152 10 73 74 rfl (by decide) (by decide) q_443 rfl rfl ?_
    refine z_iload C 3 rfl dX0_add_155 ?_
    obtain ⟨x39, hg38, h⟩ := zb1_e h
    refine z_callV C zc_6 rfl (by decide) dX0_add_157 yy_X6_netOfPin (c_X6_netOfPin C.2.2.2.2.1  v4 I L hg38) q_1043 q_1044 q_1045 (by decide) (by decide) rfl rfl (Nat.le_of_ble_eq_true rfl) ⟨Nat.le_refl _, Nat.le_refl _, Nat.le_refl _, Nat.le_refl _⟩ ?_
    obtain ⟨hb40, h⟩ := zck_e h
    refine z_iastore C dX0_add_160 rfl rfl (by decide) (zbd_in hb40) ?_
    obtain ⟨I41, eI41, h⟩ := zlt_e h
    refine z_eqI C eI41 ?_
    obtain ⟨x42, ex42, h⟩ := zlt_e h
    refine z_iinc C (j := 3) (v := x42) (lv' := [(4, .int x42), (0, .ref (B0 + 73)), (1, .ref (B0 + P)), (2, .int v2)]) rfl (by rw [ex42]; rfl) (by decide) rfl dX0_add_161 ?_
    refine z_goto C 127 (by decide) dX0_add_164 ?_
    refine z_lv [1, 2, 3, 0] (lv' := [(0, .ref (B0 + 73)), (1, .ref (B0 + P)), (2, .int v2), (4, .int x42)]) rfl ?_
    exact hk127 v2 x42 I41 L h
set_option maxHeartbeats 4000000 in
set_option maxRecDepth 100000 in
theorem L_X0_add_127 {r : zI × zL} (C : zC p l e R s m args below meth c s0 a0 d cy B0 yX0_add.cls cX0_add 5 none bc bs bc bs 4 113 []) {P : Nat} (hP : zpl P) (v2 : Int32) (v4 : Int32) (I : zI) (L : zL) (h : zlp4 (f_X0_add_127 P) zF v2 v4 I L = some r) : zG p l e R s m args below meth c d cy B0 5 bc bs (zQ below s args d cy B0 bc bs (.inl none) zSH zKn bc bs r.1 r.2) 127 [(0, .ref (B0 + 73)), (1, .ref (B0 + P)), (2, .int v2), (4, .int v4)] [] zSH zKn bc bs I L :=
 zlp4_e (fun (v2 : Int32) (v4 : Int32) (I : zI) (L : zL) => zG p l e R s m args below meth c d cy B0 5 bc bs (zQ below s args d cy B0 bc bs (.inl none) zSH zKn bc bs r.1 r.2) 127 [(0, .ref (B0 + 73)), (1, .ref (B0 + P)), (2, .int v2), (4, .int v4)] [] zSH zKn bc bs I L) (fun k9 hk9 v2 v4 I L h => l_X0_add_127 C hP k9 hk9 v2 v4 I L h) zF v2 v4 I L h
set_option maxHeartbeats 4000000 in
set_option maxRecDepth 100000 in
theorem l_X0_add_45 {r : zI × zL} (C : zC p l e R s m args below meth c s0 a0 d cy B0 yX0_add.cls cX0_add 5 none bc bs bc bs 4 113 []) {P : Nat} (hP : zpl P) (v2 : Int32) (w1 : Int32) (w2 : Int32) (I : zI) (L : zL) (h : f_X0_add_45 P v2 w1 w2 I L = some r) : zG p l e R s m args below meth c d cy B0 5 bc bs (zQ below s args d cy B0 bc bs (.inl none) zSH zKn bc bs r.1 r.2) 45 [(0, .ref (B0 + 73)), (1, .ref (B0 + P)), (2, .int v2)] [.int w2, .int w1, .ref (B0 + 79)] zSH zKn bc bs I L := by
  unfold f_X0_add_45 at h
  obtain ⟨hb9, h⟩ := zck_e h
  refine z_iastore C dX0_add_45 rfl rfl (by decide) (zbd_in hb9) ?_
  obtain ⟨I10, eI10, h⟩ := zlt_e h
  refine z_eqI C eI10 ?_
  refine z_aload_n C rfl 0 rfl dX0_add_46 ?_
  refine z_getr C zc_0 dX0_add_47 3 73 80 rfl (by decide) (by decide) q_431 rfl rfl ?_
  refine z_aload_n C rfl 0 rfl dX0_add_50 ?_
  refine z_geti C zc_0 dX0_add_51 7 73 rfl (by decide) (by decide) q_439 rfl ?_
  refine z_aload_n C rfl 0 rfl dX0_add_54 ?_
  refine z_getr C zc_0 dX0_add_55 9 73 57 rfl (by decide) (by decide) q_442 rfl rfl ?_
  refine z_getr C zc_5 dX0_add_58 1 57 59 rfl (by decide) (by decide) q_339 rfl rfl ?_
  refine z_iconst C (v := 0) (by decide) dX0_add_61 ?_
  obtain ⟨hb11, h⟩ := zck_e h
  refine z_iaload C dX0_add_62 rfl rfl (by decide) (zbd_in hb11) ?_
  obtain ⟨hb12, h⟩ := zck_e h
  refine z_iastore C dX0_add_63 rfl rfl (by decide) (zbd_in hb12) ?_
  obtain ⟨I13, eI13, h⟩ := zlt_e h
  refine z_eqI C eI13 ?_
  refine z_aload_n C rfl 0 rfl dX0_add_64 ?_
  refine z_getr C zc_0 dX0_add_65 4 73 81 rfl (by decide) (by decide) q_433 rfl rfl ?_
  refine z_aload_n C rfl 0 rfl dX0_add_68 ?_
  refine z_geti C zc_0 dX0_add_69 7 73 rfl (by decide) (by decide) q_439 rfl ?_
  refine z_iconst C (v := 3) (by decide) dX0_add_72 ?_
  refine z_imul C dX0_add_73 ?_
  obtain ⟨x14, ex14, h⟩ := zlt_e h
  refine z_eqi C ex14 ?_
  refine z_aload_n C rfl 0 rfl dX0_add_74 ?_
  refine z_getr C zc_0 dX0_add_75 9 73 57 rfl (by decide) (by decide) q_442 rfl rfl ?_
  refine z_geti C zc_5 dX0_add_78 2 57 rfl (by decide) (by decide) q_342 rfl ?_
  obtain ⟨hb15, h⟩ := zck_e h
  refine z_iastore C dX0_add_81 rfl rfl (by decide) (zbd_in hb15) ?_
  obtain ⟨I16, eI16, h⟩ := zlt_e h
  refine z_eqI C eI16 ?_
  refine z_aload_n C rfl 0 rfl dX0_add_82 ?_
  refine z_getr C zc_0 dX0_add_83 4 73 81 rfl (by decide) (by decide) q_433 rfl rfl ?_
  refine z_aload_n C rfl 0 rfl dX0_add_86 ?_
  refine z_geti C zc_0 dX0_add_87 7 73 rfl (by decide) (by decide) q_439 rfl ?_
  refine z_iconst C (v := 3) (by decide) dX0_add_90 ?_
  refine z_imul C dX0_add_91 ?_
  obtain ⟨x17, ex17, h⟩ := zlt_e h
  refine z_eqi C ex17 ?_
  refine z_iconst C (v := 1) (by decide) dX0_add_92 ?_
  refine z_iadd C dX0_add_93 ?_
  refine z_aload_n C rfl 0 rfl dX0_add_94 ?_
  refine z_getr C zc_0 dX0_add_95 10 73 74 rfl (by decide) (by decide) q_443 rfl rfl ?_
  obtain ⟨x19, hg18, h⟩ := zb1_e h
  refine z_callV C zc_6 rfl (by decide) dX0_add_98 yy_X6_edges (c_X6_edges C.2.2.2.2.1  I16 L hg18) q_1030 q_1031 q_1032 (by decide) (by decide) rfl rfl (Nat.le_of_ble_eq_true rfl) ⟨Nat.le_refl _, Nat.le_refl _, Nat.le_refl _, Nat.le_refl _⟩ ?_
  obtain ⟨hb20, h⟩ := zck_e h
  refine z_iastore C dX0_add_101 rfl rfl (by decide) (zbd_in hb20) ?_
  obtain ⟨I21, eI21, h⟩ := zlt_e h
  refine z_eqI C eI21 ?_
  refine z_aload_n C rfl 0 rfl dX0_add_102 ?_
  refine z_getr C zc_0 dX0_add_103 4 73 81 rfl (by decide) (by decide) q_433 rfl rfl ?_
  refine z_aload_n C rfl 0 rfl dX0_add_106 ?_
  refine z_geti C zc_0 dX0_add_107 7 73 rfl (by decide) (by decide) q_439 rfl ?_
  refine z_iconst C (v := 3) (by decide) dX0_add_110 ?_
  refine z_imul C dX0_add_111 ?_
  obtain ⟨x22, ex22, h⟩ := zlt_e h
  refine z_eqi C ex22 ?_
  refine z_iconst C (v := 2) (by decide) dX0_add_112 ?_
  refine z_iadd C dX0_add_113 ?_
  refine z_aload_n C rfl 0 rfl dX0_add_114 ?_
  refine z_getr C zc_0 dX0_add_115 10 73 74 rfl (by decide) (by decide) q_443 rfl rfl ?_
  refine z_aload_n C rfl 1 rfl dX0_add_118 ?_
  refine z_iload_n C rfl 2 rfl dX0_add_119 ?_
  obtain ⟨x24, hg23, h⟩ := zb1_e h
  refine z_callV C zc_6 rfl (by decide) dX0_add_120 yy_X6_edgesToFirstPin (c_X6_edgesToFirstPin C.2.2.2.2.1 hP v2 I21 L hg23) q_1035 q_1036 q_1037 (by decide) (by decide) rfl rfl (Nat.le_of_ble_eq_true rfl) ⟨Nat.le_refl _, Nat.le_refl _, Nat.le_refl _, Nat.le_refl _⟩ ?_
  obtain ⟨hb25, h⟩ := zck_e h
  refine z_iastore C dX0_add_123 rfl rfl (by decide) (zbd_in hb25) ?_
  obtain ⟨I26, eI26, h⟩ := zlt_e h
  refine z_eqI C eI26 ?_
  refine z_iconst C (v := 0) (by decide) dX0_add_124 ?_
  refine z_istore C (lv' := [(4, .int (0 : Int32)), (0, .ref (B0 + 73)), (1, .ref (B0 + P)), (2, .int v2)]) (by decide) rfl dX0_add_125 ?_
  refine z_lv [1, 2, 3, 0] (lv' := [(0, .ref (B0 + 73)), (1, .ref (B0 + P)), (2, .int v2), (4, .int (0 : Int32))]) rfl ?_
  exact L_X0_add_127 C hP v2 (0 : Int32) I26 L h
set_option maxHeartbeats 4000000 in
set_option maxRecDepth 100000 in
theorem c_X0_add {r : zI × zL} (hE : zE0 l s0 a0 d cy B0) {P : Nat} (hP : zpl P) (a2 : Int32) (a3 : Int32) (I : zI) (L : zL) (h : f_X0_add P a2 a3 I L = some r) : zM l s0 d cy B0 yX0_add cX0_add 5 none 4 113 [.ref (B0 + 73), .ref (B0 + P), .int a2, .int a3] zSH zKn bc bs I L (.inl none) zSH zKn bc bs r.1 r.2 := by
  refine z_meth yy_X0_add hE (Nat.le_of_ble_eq_true rfl) (fun p e R s m args below meth c C => ?_)
  show zG p l e R s m args below meth c d cy B0 5 bc bs (zQ below s args d cy B0 bc bs (.inl none) zSH zKn bc bs r.1 r.2) 0 [(0, .ref (B0 + 73)), (1, .ref (B0 + P)), (2, .int a2), (3, .int a3)] [] zSH zKn bc bs I L
  unfold f_X0_add at h
  refine z_aload_n C rfl 0 rfl dX0_add_0 ?_
  refine z_getr C zc_0 dX0_add_1 0 73 77 rfl (by decide) (by decide) q_425 rfl rfl ?_
  refine z_aload_n C rfl 0 rfl dX0_add_4 ?_
  refine z_geti C zc_0 dX0_add_5 7 73 rfl (by decide) (by decide) q_439 rfl ?_
  refine z_iload_n C rfl 2 rfl dX0_add_8 ?_
  obtain ⟨hb1, h⟩ := zck_e h
  refine z_iastore C dX0_add_9 rfl rfl (by decide) (zbd_in hb1) ?_
  obtain ⟨I2, eI2, h⟩ := zlt_e h
  refine z_eqI C eI2 ?_
  refine z_aload_n C rfl 0 rfl dX0_add_10 ?_
  refine z_getr C zc_0 dX0_add_11 1 73 78 rfl (by decide) (by decide) q_427 rfl rfl ?_
  refine z_aload_n C rfl 0 rfl dX0_add_14 ?_
  refine z_geti C zc_0 dX0_add_15 7 73 rfl (by decide) (by decide) q_439 rfl ?_
  refine z_iload_n C rfl 3 rfl dX0_add_18 ?_
  obtain ⟨hb3, h⟩ := zck_e h
  refine z_iastore C dX0_add_19 rfl rfl (by decide) (zbd_in hb3) ?_
  obtain ⟨I4, eI4, h⟩ := zlt_e h
  refine z_eqI C eI4 ?_
  refine z_aload_n C rfl 0 rfl dX0_add_20 ?_
  refine z_getr C zc_0 dX0_add_21 2 73 79 rfl (by decide) (by decide) q_429 rfl rfl ?_
  refine z_aload_n C rfl 0 rfl dX0_add_24 ?_
  refine z_geti C zc_0 dX0_add_25 7 73 rfl (by decide) (by decide) q_439 rfl ?_
  refine z_aload_n C rfl 0 rfl dX0_add_28 ?_
  refine z_getr C zc_0 dX0_add_29 10 73 74 rfl (by decide) (by decide) q_443 rfl rfl ?_
  refine z_aload_n C rfl 1 rfl dX0_add_32 ?_
  refine z_iload_n C rfl 2 rfl dX0_add_33 ?_
  obtain ⟨x6, I7, L8, hg5, h⟩ := zb3_e h
  refine z_callV C zc_6 rfl (by decide) dX0_add_34 yy_X6_findPins (c_X6_findPins C.2.2.2.2.1 hP a2 I4 L hg5) q_998 q_999 q_1000 (by decide) (by decide) rfl rfl (Nat.le_of_ble_eq_true rfl) ⟨Nat.le_refl _, Nat.le_refl _, Nat.le_refl _, Nat.le_refl _⟩ ?_
  refine z_if_eq C 44 (by decide) dX0_add_37 (fun hc => ?_) (fun hc => ?_)
  · have h := zif_t hc h
    refine z_iconst C (v := 0) (by decide) dX0_add_44 ?_
    refine z_lv [0, 1, 2] (lv' := [(0, .ref (B0 + 73)), (1, .ref (B0 + P)), (2, .int a2)]) rfl ?_
    exact l_X0_add_45 C hP a2 (I4 73 7) (0 : Int32) I7 L8 h
  · have h := zif_f hc h
    refine z_iconst C (v := 1) (by decide) dX0_add_40 ?_
    refine z_goto C 45 (by decide) dX0_add_41 ?_
    refine z_lv [0, 1, 2] (lv' := [(0, .ref (B0 + 73)), (1, .ref (B0 + P)), (2, .int a2)]) rfl ?_
    exact l_X0_add_45 C hP a2 (I4 73 7) (1 : Int32) I7 L8 h
theorem q_33 : Cond.selects "DeviceFind$Devices" ⟨"DeviceFind$Devices", "add", "(LDeviceFind$Plan;II)V"⟩ ⟨"DeviceFind$Devices", "add", "(LDeviceFind$Plan;II)V"⟩ ∈ lw_tbl := List.mem_of_getElem? (i := 33) (by decide +kernel)
theorem q_188 : (Cond.fieldLink "DeviceFind$Devices" (59 : Nat) "DeviceFind$Plan" "kindLayers" "[I") ∈ lw_tbl := List.mem_of_getElem? (i := 188) (by decide +kernel)
theorem q_210 : (Cond.fieldLink "DeviceFind$Devices" (49 : Nat) "DeviceFind$Plan" "kinds" "I") ∈ lw_tbl := List.mem_of_getElem? (i := 210) (by decide +kernel)
theorem q_324 : (Cond.fieldLink "DeviceFind$Devices" (53 : Nat) "DeviceFind$Layers" "rows" "[[J") ∈ lw_tbl := List.mem_of_getElem? (i := 324) (by decide +kernel)
theorem q_441 : (Cond.fieldLink "DeviceFind$Devices" (37 : Nat) "DeviceFind$Devices" "layers" "LDeviceFind$Layers;") ∈ lw_tbl := List.mem_of_getElem? (i := 441) (by decide +kernel)
theorem q_919 : (Cond.instanceMethod ({ cls := "DeviceFind$Peeler", name := "open", desc := "([J)V" } : Jvm.MethodName)) ∈ lw_tbl := List.mem_of_getElem? (i := 919) (by decide +kernel)
theorem q_920 : (Cond.selects "DeviceFind$Peeler" ({ cls := "DeviceFind$Peeler", name := "open", desc := "([J)V" } : Jvm.MethodName) ({ cls := "DeviceFind$Peeler", name := "open", desc := "([J)V" } : Jvm.MethodName)) ∈ lw_tbl := List.mem_of_getElem? (i := 920) (by decide +kernel)
theorem q_930 : (Cond.instanceMethod ({ cls := "DeviceFind$Peeler", name := "next", desc := "()Z" } : Jvm.MethodName)) ∈ lw_tbl := List.mem_of_getElem? (i := 930) (by decide +kernel)
theorem q_931 : (Cond.selects "DeviceFind$Peeler" ({ cls := "DeviceFind$Peeler", name := "next", desc := "()Z" } : Jvm.MethodName) ({ cls := "DeviceFind$Peeler", name := "next", desc := "()Z" } : Jvm.MethodName)) ∈ lw_tbl := List.mem_of_getElem? (i := 931) (by decide +kernel)
theorem q_991 : (Cond.code ({ cls := "DeviceFind$Devices", name := "find", desc := "(LDeviceFind$Plan;)Z" } : Jvm.MethodName) prog_2_method_2_code (4 : Nat) (Option.some Jvm.ClassFile.FieldType.boolean)) ∈ lw_tbl := List.mem_of_getElem? (i := 991) (by decide +kernel)
theorem q_992 : (Cond.methodLink "DeviceFind$Devices" (62 : Nat) ({ cls := "DeviceFind$Peeler", name := "open", desc := "([J)V" } : Jvm.MethodName)) ∈ lw_tbl := List.mem_of_getElem? (i := 992) (by decide +kernel)
theorem q_993 : (Cond.methodLink "DeviceFind$Devices" (68 : Nat) ({ cls := "DeviceFind$Peeler", name := "next", desc := "()Z" } : Jvm.MethodName)) ∈ lw_tbl := List.mem_of_getElem? (i := 993) (by decide +kernel)
theorem q_994 : (Cond.methodLink "DeviceFind$Devices" (72 : Nat) ({ cls := "DeviceFind$Devices", name := "add", desc := "(LDeviceFind$Plan;II)V" } : Jvm.MethodName)) ∈ lw_tbl := List.mem_of_getElem? (i := 994) (by decide +kernel)
theorem q_996 : (Cond.instanceMethod ({ cls := "DeviceFind$Devices", name := "add", desc := "(LDeviceFind$Plan;II)V" } : Jvm.MethodName)) ∈ lw_tbl := List.mem_of_getElem? (i := 996) (by decide +kernel)
theorem yy_X0_find : zY yX0_find cX0_find 4 (some .boolean) 1 := ⟨q_991, q_86, by decide +kernel, by decide +kernel, by decide +kernel⟩
noncomputable def f_X0_find_87 (k7 : Int32 → zI → zL → Option (Int32 × zI × zL)) (P : Nat) (v2 : Int32) (I : zI) (L : zL) : Option (Int32 × zI × zL) :=
  zlt (v2 + 1) (fun x18 => k7 x18 I L)
noncomputable def f_X0_find_45 (k7 : Int32 → zI → zL → Option (Int32 × zI × zL)) (P : Nat) (k45 : Int32 → Int32 → zI → zL → Option (Int32 × zI × zL)) (v2 : Int32) (v3 : Int32) (I : zI) (L : zL) : Option (Int32 × zI × zL) :=
  if (2048 : Int32) ≤ v3 then (f_X0_find_87 k7 P v2 I L) else (zb3 (f_X5_next I L) (fun x11 I12 L13 => if x11 = 0 then (f_X0_find_87 k7 P v2 I12 L13) else (if (I12 73 7) < (300 : Int32) then (zb2 (f_X0_add P v2 v3 I12 L13) (fun I15 L16 => zlt (v3 + 1) (fun x17 => k45 v2 x17 I15 L16))) else (some ((0 : Int32), I12, L13)))))
noncomputable def f_X0_find_7 (P : Nat) (k7 : Int32 → zI → zL → Option (Int32 × zI × zL)) (v2 : Int32) (I : zI) (L : zL) : Option (Int32 × zI × zL) :=
  if (I P 15) ≤ v2 then (some ((1 : Int32), I, L)) else (zck (zbd v2 8) (zlt (I ((P + 1 + 9)) v2.toNatClampNeg) (fun x3 => zck (zbd x3 24) (zb2 (f_X5_open ((33 + x3.toNatClampNeg)) I L) (fun I6 L7 => zck (zbd v2 8) (zlt (zu I6 83 v2.toNatClampNeg (0 : Int32)) (fun I9 => zlp4 (f_X0_find_45 k7 P) zF v2 (0 : Int32) I9 L7)))))))
noncomputable def f_X0_find (P : Nat) (I : zI) (L : zL) : Option (Int32 × zI × zL) :=
  zlt (zu I 73 7 (0 : Int32)) (fun I1 => zlp3 (f_X0_find_7 P) zF (0 : Int32) I1 L)
set_option maxHeartbeats 4000000 in
set_option maxRecDepth 100000 in
theorem l_X0_find_87 {r : Int32 × zI × zL} (C : zC p l e R s m args below meth c s0 a0 d cy B0 yX0_find.cls cX0_find 4 (some .boolean) bc bs bc bs 5 137 []) {P : Nat} (hP : zpl P) (k7 : Int32 → zI → zL → Option (Int32 × zI × zL)) (hk7 : ∀ (v2 : Int32) (I : zI) (L : zL), k7 v2 I L = some r → zG p l e R s m args below meth c d cy B0 4 bc bs (zQ below s args d cy B0 bc bs (.inl (some (.int r.1))) zSH zKn bc bs r.2.1 r.2.2) 7 [(0, .ref (B0 + 73)), (1, .ref (B0 + P)), (2, .int v2)] [] zSH zKn bc bs I L) (v2 : Int32) (I : zI) (L : zL) (h : f_X0_find_87 k7 P v2 I L = some r) : zG p l e R s m args below meth c d cy B0 4 bc bs (zQ below s args d cy B0 bc bs (.inl (some (.int r.1))) zSH zKn bc bs r.2.1 r.2.2) 87 [(0, .ref (B0 + 73)), (1, .ref (B0 + P)), (2, .int v2)] [] zSH zKn bc bs I L := by
  unfold f_X0_find_87 at h
  obtain ⟨x18, ex18, h⟩ := zlt_e h
  refine z_iinc C (j := 2) (v := x18) (lv' := [(2, .int x18), (0, .ref (B0 + 73)), (1, .ref (B0 + P))]) rfl (by rw [ex18]; rfl) (by decide) rfl dX0_find_87 ?_
  refine z_goto C 7 (by decide) dX0_find_90 ?_
  refine z_lv [1, 2, 0] (lv' := [(0, .ref (B0 + 73)), (1, .ref (B0 + P)), (2, .int x18)]) rfl ?_
  exact hk7 x18 I L h
set_option maxHeartbeats 4000000 in
set_option maxRecDepth 100000 in
theorem l_X0_find_45 {r : Int32 × zI × zL} (C : zC p l e R s m args below meth c s0 a0 d cy B0 yX0_find.cls cX0_find 4 (some .boolean) bc bs bc bs 5 137 []) {P : Nat} (hP : zpl P) (k7 : Int32 → zI → zL → Option (Int32 × zI × zL)) (hk7 : ∀ (v2 : Int32) (I : zI) (L : zL), k7 v2 I L = some r → zG p l e R s m args below meth c d cy B0 4 bc bs (zQ below s args d cy B0 bc bs (.inl (some (.int r.1))) zSH zKn bc bs r.2.1 r.2.2) 7 [(0, .ref (B0 + 73)), (1, .ref (B0 + P)), (2, .int v2)] [] zSH zKn bc bs I L) (k45 : Int32 → Int32 → zI → zL → Option (Int32 × zI × zL)) (hk45 : ∀ (v2 : Int32) (v3 : Int32) (I : zI) (L : zL), k45 v2 v3 I L = some r → zG p l e R s m args below meth c d cy B0 4 bc bs (zQ below s args d cy B0 bc bs (.inl (some (.int r.1))) zSH zKn bc bs r.2.1 r.2.2) 45 [(0, .ref (B0 + 73)), (1, .ref (B0 + P)), (2, .int v2), (3, .int v3)] [] zSH zKn bc bs I L) (v2 : Int32) (v3 : Int32) (I : zI) (L : zL) (h : f_X0_find_45 k7 P k45 v2 v3 I L = some r) : zG p l e R s m args below meth c d cy B0 4 bc bs (zQ below s args d cy B0 bc bs (.inl (some (.int r.1))) zSH zKn bc bs r.2.1 r.2.2) 45 [(0, .ref (B0 + 73)), (1, .ref (B0 + P)), (2, .int v2), (3, .int v3)] [] zSH zKn bc bs I L := by
  unfold f_X0_find_45 at h
  refine z_iload_n C rfl 3 rfl dX0_find_45 ?_
  refine z_sipush C (v := 2048) (by decide) dX0_find_46 ?_
  refine z_icmp_ge C 87 (by decide) dX0_find_49 (fun hc => ?_) (fun hc => ?_)
  · have h := zif_t hc h
    refine z_lv [0, 1, 2] (lv' := [(0, .ref (B0 + 73)), (1, .ref (B0 + P)), (2, .int v2)]) rfl ?_
    exact l_X0_find_87 C hP k7 hk7 v2 I L h
  · have h := zif_f hc h
    refine z_aload_n C rfl 0 rfl dX0_find_52 ?_
    refine z_getr C zc_0 dX0_find_53 9 73 57 rfl (by decide) (by decide) q_442 rfl rfl ?_
    obtain ⟨x11, I12, L13, hg10, h⟩ := zb3_e h
    refine z_callV C zc_5 rfl (by decide) dX0_find_56 yy_X5_next (c_X5_next C.2.2.2.2.1  I L hg10) q_993 q_930 q_931 (by decide) (by decide) rfl rfl (Nat.le_of_ble_eq_true rfl) ⟨Nat.le_refl _, Nat.le_refl _, Nat.le_refl _, Nat.le_refl _⟩ ?_
    refine z_if_eq C 87 (by decide) dX0_find_59 (fun hc => ?_) (fun hc => ?_)
    · have h := zif_t hc h
      refine z_lv [0, 1, 2] (lv' := [(0, .ref (B0 + 73)), (1, .ref (B0 + P)), (2, .int v2)]) rfl ?_
      exact l_X0_find_87 C hP k7 hk7 v2 I12 L13 h
    · have h := zif_f hc h
      refine z_aload_n C rfl 0 rfl dX0_find_62 ?_
      refine z_geti C zc_0 dX0_find_63 7 73 rfl (by decide) (by decide) q_439 rfl ?_
      refine z_sipush C (v := 300) (by decide) dX0_find_66 ?_
      refine z_icmp_lt C 74 (by decide) dX0_find_69 (fun hc => ?_) (fun hc => ?_)
      · have h := zif_t hc h
        refine z_aload_n C rfl 0 rfl dX0_find_74 ?_
        refine z_aload_n C rfl 1 rfl dX0_find_75 ?_
        refine z_iload_n C rfl 2 rfl dX0_find_76 ?_
        refine z_iload_n C rfl 3 rfl dX0_find_77 ?_
        obtain ⟨I15, L16, hg14, h⟩ := zb2_e h
        refine z_callV C zc_0 rfl (by decide) dX0_find_78 yy_X0_add (c_X0_add C.2.2.2.2.1 hP v2 v3 I12 L13 hg14) q_994 q_996 q_33 (by decide) (by decide) rfl rfl (Nat.le_of_ble_eq_true rfl) ⟨Nat.le_refl _, Nat.le_refl _, Nat.le_refl _, Nat.le_refl _⟩ ?_
        obtain ⟨x17, ex17, h⟩ := zlt_e h
        refine z_iinc C (j := 3) (v := x17) (lv' := [(3, .int x17), (0, .ref (B0 + 73)), (1, .ref (B0 + P)), (2, .int v2)]) rfl (by rw [ex17]; rfl) (by decide) rfl dX0_find_81 ?_
        refine z_goto C 45 (by decide) dX0_find_84 ?_
        refine z_lv [1, 2, 3, 0] (lv' := [(0, .ref (B0 + 73)), (1, .ref (B0 + P)), (2, .int v2), (3, .int x17)]) rfl ?_
        exact hk45 v2 x17 I15 L16 h
      · have h := zif_f hc h
        refine z_iconst C (v := 0) (by decide) dX0_find_72 ?_
        obtain rfl := Option.some.inj h
        exact z_iret C dX0_find_73 .boolean rfl rfl rfl
set_option maxHeartbeats 4000000 in
set_option maxRecDepth 100000 in
theorem L_X0_find_45 {r : Int32 × zI × zL} (C : zC p l e R s m args below meth c s0 a0 d cy B0 yX0_find.cls cX0_find 4 (some .boolean) bc bs bc bs 5 137 []) {P : Nat} (hP : zpl P) (k7 : Int32 → zI → zL → Option (Int32 × zI × zL)) (hk7 : ∀ (v2 : Int32) (I : zI) (L : zL), k7 v2 I L = some r → zG p l e R s m args below meth c d cy B0 4 bc bs (zQ below s args d cy B0 bc bs (.inl (some (.int r.1))) zSH zKn bc bs r.2.1 r.2.2) 7 [(0, .ref (B0 + 73)), (1, .ref (B0 + P)), (2, .int v2)] [] zSH zKn bc bs I L) (v2 : Int32) (v3 : Int32) (I : zI) (L : zL) (h : zlp4 (f_X0_find_45 k7 P) zF v2 v3 I L = some r) : zG p l e R s m args below meth c d cy B0 4 bc bs (zQ below s args d cy B0 bc bs (.inl (some (.int r.1))) zSH zKn bc bs r.2.1 r.2.2) 45 [(0, .ref (B0 + 73)), (1, .ref (B0 + P)), (2, .int v2), (3, .int v3)] [] zSH zKn bc bs I L :=
 zlp4_e (fun (v2 : Int32) (v3 : Int32) (I : zI) (L : zL) => zG p l e R s m args below meth c d cy B0 4 bc bs (zQ below s args d cy B0 bc bs (.inl (some (.int r.1))) zSH zKn bc bs r.2.1 r.2.2) 45 [(0, .ref (B0 + 73)), (1, .ref (B0 + P)), (2, .int v2), (3, .int v3)] [] zSH zKn bc bs I L) (fun k9 hk9 v2 v3 I L h => l_X0_find_45 C hP k7 hk7 k9 hk9 v2 v3 I L h) zF v2 v3 I L h
set_option maxHeartbeats 4000000 in
set_option maxRecDepth 100000 in
theorem l_X0_find_7 {r : Int32 × zI × zL} (C : zC p l e R s m args below meth c s0 a0 d cy B0 yX0_find.cls cX0_find 4 (some .boolean) bc bs bc bs 5 137 []) {P : Nat} (hP : zpl P) (k7 : Int32 → zI → zL → Option (Int32 × zI × zL)) (hk7 : ∀ (v2 : Int32) (I : zI) (L : zL), k7 v2 I L = some r → zG p l e R s m args below meth c d cy B0 4 bc bs (zQ below s args d cy B0 bc bs (.inl (some (.int r.1))) zSH zKn bc bs r.2.1 r.2.2) 7 [(0, .ref (B0 + 73)), (1, .ref (B0 + P)), (2, .int v2)] [] zSH zKn bc bs I L) (v2 : Int32) (I : zI) (L : zL) (h : f_X0_find_7 P k7 v2 I L = some r) : zG p l e R s m args below meth c d cy B0 4 bc bs (zQ below s args d cy B0 bc bs (.inl (some (.int r.1))) zSH zKn bc bs r.2.1 r.2.2) 7 [(0, .ref (B0 + 73)), (1, .ref (B0 + P)), (2, .int v2)] [] zSH zKn bc bs I L := by
  unfold f_X0_find_7 at h
  refine z_iload_n C rfl 2 rfl dX0_find_7 ?_
  refine z_aload_n C rfl 1 rfl dX0_find_8 ?_
  refine z_geti C zc_7 dX0_find_9 15 P (zpl_k hP) (zpl_lt hP) (by decide) q_210 rfl ?_
  refine z_icmp_ge C 93 (by decide) dX0_find_12 (fun hc => ?_) (fun hc => ?_)
  · have h := zif_t hc h
    refine z_iconst C (v := 1) (by decide) dX0_find_93 ?_
    obtain rfl := Option.some.inj h
    exact z_iret C dX0_find_94 .boolean rfl rfl rfl
  · have h := zif_f hc h
    refine z_aload_n C rfl 0 rfl dX0_find_15 ?_
    refine z_getr C zc_0 dX0_find_16 9 73 57 rfl (by decide) (by decide) q_442 rfl rfl ?_
    refine z_aload_n C rfl 0 rfl dX0_find_19 ?_
    refine z_getr C zc_0 dX0_find_20 8 73 31 rfl (by decide) (by decide) q_441 rfl rfl ?_
    refine z_getr C zc_2 dX0_find_23 0 31 32 rfl (by decide) (by decide) q_324 rfl rfl ?_
    refine z_aload_n C rfl 1 rfl dX0_find_26 ?_
    refine z_getr C zc_7 dX0_find_27 9 P (P + 1 + 9) (zpl_k hP) (zpl_lt hP) (by decide) q_188 rfl (zpl_r hP 9 (by decide)) ?_
    refine z_iload_n C rfl 2 rfl dX0_find_30 ?_
    obtain ⟨hb2, h⟩ := zck_e h
    refine z_iaload C dX0_find_31 (zpl_ak hP 9 (by decide)) (zpl_an hP 9 (by decide)) (zpl_a hP 9 (by decide)) (zbd_in hb2) ?_
    obtain ⟨x3, ex3, h⟩ := zlt_e h
    refine z_eqi C ex3 ?_
    obtain ⟨hb4, h⟩ := zck_e h
    refine z_aaload C dX0_find_32 (t := 5) rfl (by decide) rfl (by decide) (zbd_in hb4) (z_rowJ (zbd_lt hb4)).1 ?_
    obtain ⟨I6, L7, hg5, h⟩ := zb2_e h
    refine z_callV C zc_5 rfl (by decide) dX0_find_33 yy_X5_open (c_X5_open C.2.2.2.2.1 (z_rowJ (zbd_lt hb4)).2 I L hg5) q_992 q_919 q_920 (by decide) (by decide) rfl rfl (Nat.le_of_ble_eq_true rfl) ⟨Nat.le_refl _, Nat.le_refl _, Nat.le_refl _, Nat.le_refl _⟩ ?_
    refine z_aload_n C rfl 0 rfl dX0_find_36 ?_
    refine z_getr C zc_0 dX0_find_37 6 73 83 rfl (by decide) (by decide) q_437 rfl rfl ?_
    refine z_iload_n C rfl 2 rfl dX0_find_40 ?_
    refine z_iconst C (v := 0) (by decide) dX0_find_41 ?_
    obtain ⟨hb8, h⟩ := zck_e h
    refine z_iastore C dX0_find_42 rfl rfl (by decide) (zbd_in hb8) ?_
    obtain ⟨I9, eI9, h⟩ := zlt_e h
    refine z_eqI C eI9 ?_
    refine z_iconst C (v := 0) (by decide) dX0_find_43 ?_
    refine z_istore_n C (lv' := [(3, .int (0 : Int32)), (0, .ref (B0 + 73)), (1, .ref (B0 + P)), (2, .int v2)]) rfl (by decide) rfl dX0_find_44 ?_
    refine z_lv [1, 2, 3, 0] (lv' := [(0, .ref (B0 + 73)), (1, .ref (B0 + P)), (2, .int v2), (3, .int (0 : Int32))]) rfl ?_
    exact L_X0_find_45 C hP k7 hk7 v2 (0 : Int32) I9 L7 h
set_option maxHeartbeats 4000000 in
set_option maxRecDepth 100000 in
theorem L_X0_find_7 {r : Int32 × zI × zL} (C : zC p l e R s m args below meth c s0 a0 d cy B0 yX0_find.cls cX0_find 4 (some .boolean) bc bs bc bs 5 137 []) {P : Nat} (hP : zpl P) (v2 : Int32) (I : zI) (L : zL) (h : zlp3 (f_X0_find_7 P) zF v2 I L = some r) : zG p l e R s m args below meth c d cy B0 4 bc bs (zQ below s args d cy B0 bc bs (.inl (some (.int r.1))) zSH zKn bc bs r.2.1 r.2.2) 7 [(0, .ref (B0 + 73)), (1, .ref (B0 + P)), (2, .int v2)] [] zSH zKn bc bs I L :=
 zlp3_e (fun (v2 : Int32) (I : zI) (L : zL) => zG p l e R s m args below meth c d cy B0 4 bc bs (zQ below s args d cy B0 bc bs (.inl (some (.int r.1))) zSH zKn bc bs r.2.1 r.2.2) 7 [(0, .ref (B0 + 73)), (1, .ref (B0 + P)), (2, .int v2)] [] zSH zKn bc bs I L) (fun k9 hk9 v2 I L h => l_X0_find_7 C hP k9 hk9 v2 I L h) zF v2 I L h
set_option maxHeartbeats 4000000 in
set_option maxRecDepth 100000 in
theorem c_X0_find {r : Int32 × zI × zL} (hE : zE0 l s0 a0 d cy B0) {P : Nat} (hP : zpl P) (I : zI) (L : zL) (h : f_X0_find P I L = some r) : zM l s0 d cy B0 yX0_find cX0_find 4 (some .boolean) 5 137 [.ref (B0 + 73), .ref (B0 + P)] zSH zKn bc bs I L (.inl (some (.int r.1))) zSH zKn bc bs r.2.1 r.2.2 := by
  refine z_meth yy_X0_find hE (Nat.le_of_ble_eq_true rfl) (fun p e R s m args below meth c C => ?_)
  show zG p l e R s m args below meth c d cy B0 4 bc bs (zQ below s args d cy B0 bc bs (.inl (some (.int r.1))) zSH zKn bc bs r.2.1 r.2.2) 0 [(0, .ref (B0 + 73)), (1, .ref (B0 + P))] [] zSH zKn bc bs I L
  unfold f_X0_find at h
  refine z_aload_n C rfl 0 rfl dX0_find_0 ?_
  refine z_iconst C (v := 0) (by decide) dX0_find_1 ?_
  refine z_puti C zc_0 dX0_find_2 7 73 rfl (by decide) (by decide) rfl q_439 rfl rfl rfl ?_
  obtain ⟨I1, eI1, h⟩ := zlt_e h
  refine z_eqI C eI1 ?_
  refine z_iconst C (v := 0) (by decide) dX0_find_5 ?_
  refine z_istore_n C (lv' := [(2, .int (0 : Int32)), (0, .ref (B0 + 73)), (1, .ref (B0 + P))]) rfl (by decide) rfl dX0_find_6 ?_
  refine z_lv [1, 2, 0] (lv' := [(0, .ref (B0 + 73)), (1, .ref (B0 + P)), (2, .int (0 : Int32))]) rfl ?_
  exact L_X0_find_7 C hP (0 : Int32) I1 L h
theorem q_1145 : (Cond.code ({ cls := "DeviceFind$Devices", name := "faulty", desc := "(I)I" } : Jvm.MethodName) prog_2_method_3_code (4 : Nat) (Option.some Jvm.ClassFile.FieldType.int)) ∈ lw_tbl := List.mem_of_getElem? (i := 1145) (by decide +kernel)
theorem yy_X0_faulty : zY yX0_faulty cX0_faulty 4 (some .int) 1 := ⟨q_1145, q_86, by decide +kernel, by decide +kernel, by decide +kernel⟩
noncomputable def f_X0_faulty_32 (k4 : Int32 → Int32 → Int32 → zI → Option Int32) (v1 : Int32) (v2 : Int32) (v3 : Int32) (I : zI) : Option Int32 :=
  zlt (v3 + 1) (fun x3 => k4 v1 v2 x3 I)
noncomputable def f_X0_faulty_4 (k4 : Int32 → Int32 → Int32 → zI → Option Int32) (v1 : Int32) (v2 : Int32) (v3 : Int32) (I : zI) : Option Int32 :=
  if (I 73 7) ≤ v3 then (some (-1 : Int32)) else (zck (zbd v3 300) (if (I 79 v3.toNatClampNeg) = (1 : Int32) then (if v2 = v1 then (some v3) else (zlt (v2 + 1) (fun x2 => f_X0_faulty_32 k4 v1 x2 v3 I))) else (f_X0_faulty_32 k4 v1 v2 v3 I)))
noncomputable def f_X0_faulty (a1 : Int32) (I : zI) : Option Int32 :=
  zlp4 (f_X0_faulty_4) zF a1 (0 : Int32) (0 : Int32) I
set_option maxHeartbeats 4000000 in
set_option maxRecDepth 100000 in
theorem l_X0_faulty_32 {r : Int32} (C : zC p l e R s m args below meth c s0 a0 d cy B0 yX0_faulty.cls cX0_faulty 4 (some .int) bc bs bc bs 0 0 []) (L : zL) (k4 : Int32 → Int32 → Int32 → zI → Option Int32) (hk4 : ∀ (v1 : Int32) (v2 : Int32) (v3 : Int32) (I : zI), k4 v1 v2 v3 I = some r → zG p l e R s m args below meth c d cy B0 4 bc bs (zQ below s args d cy B0 bc bs (.inl (some (.int r))) zSH zKn bc bs I L) 4 [(0, .ref (B0 + 73)), (1, .int v1), (2, .int v2), (3, .int v3)] [] zSH zKn bc bs I L) (v1 : Int32) (v2 : Int32) (v3 : Int32) (I : zI) (h : f_X0_faulty_32 k4 v1 v2 v3 I = some r) : zG p l e R s m args below meth c d cy B0 4 bc bs (zQ below s args d cy B0 bc bs (.inl (some (.int r))) zSH zKn bc bs I L) 32 [(0, .ref (B0 + 73)), (1, .int v1), (2, .int v2), (3, .int v3)] [] zSH zKn bc bs I L := by
  unfold f_X0_faulty_32 at h
  obtain ⟨x3, ex3, h⟩ := zlt_e h
  refine z_iinc C (j := 3) (v := x3) (lv' := [(3, .int x3), (0, .ref (B0 + 73)), (1, .int v1), (2, .int v2)]) rfl (by rw [ex3]; rfl) (by decide) rfl dX0_faulty_32 ?_
  refine z_goto C 4 (by decide) dX0_faulty_35 ?_
  refine z_lv [1, 2, 3, 0] (lv' := [(0, .ref (B0 + 73)), (1, .int v1), (2, .int v2), (3, .int x3)]) rfl ?_
  exact hk4 v1 v2 x3 I h
set_option maxHeartbeats 4000000 in
set_option maxRecDepth 100000 in
theorem l_X0_faulty_4 {r : Int32} (C : zC p l e R s m args below meth c s0 a0 d cy B0 yX0_faulty.cls cX0_faulty 4 (some .int) bc bs bc bs 0 0 []) (L : zL) (k4 : Int32 → Int32 → Int32 → zI → Option Int32) (hk4 : ∀ (v1 : Int32) (v2 : Int32) (v3 : Int32) (I : zI), k4 v1 v2 v3 I = some r → zG p l e R s m args below meth c d cy B0 4 bc bs (zQ below s args d cy B0 bc bs (.inl (some (.int r))) zSH zKn bc bs I L) 4 [(0, .ref (B0 + 73)), (1, .int v1), (2, .int v2), (3, .int v3)] [] zSH zKn bc bs I L) (v1 : Int32) (v2 : Int32) (v3 : Int32) (I : zI) (h : f_X0_faulty_4 k4 v1 v2 v3 I = some r) : zG p l e R s m args below meth c d cy B0 4 bc bs (zQ below s args d cy B0 bc bs (.inl (some (.int r))) zSH zKn bc bs I L) 4 [(0, .ref (B0 + 73)), (1, .int v1), (2, .int v2), (3, .int v3)] [] zSH zKn bc bs I L := by
  unfold f_X0_faulty_4 at h
  refine z_iload_n C rfl 3 rfl dX0_faulty_4 ?_
  refine z_aload_n C rfl 0 rfl dX0_faulty_5 ?_
  refine z_geti C zc_0 dX0_faulty_6 7 73 rfl (by decide) (by decide) q_439 rfl ?_
  refine z_icmp_ge C 38 (by decide) dX0_faulty_9 (fun hc => ?_) (fun hc => ?_)
  · have h := zif_t hc h
    refine z_iconst C (v := -1) (by decide) dX0_faulty_38 ?_
    obtain rfl := Option.some.inj h
    exact z_iret C dX0_faulty_39 .int rfl rfl rfl
  · have h := zif_f hc h
    refine z_aload_n C rfl 0 rfl dX0_faulty_12 ?_
    refine z_getr C zc_0 dX0_faulty_13 2 73 79 rfl (by decide) (by decide) q_429 rfl rfl ?_
    refine z_iload_n C rfl 3 rfl dX0_faulty_16 ?_
    obtain ⟨hb1, h⟩ := zck_e h
    refine z_iaload C dX0_faulty_17 rfl rfl (by decide) (zbd_in hb1) ?_
    refine z_iconst C (v := 1) (by decide) dX0_faulty_18 ?_
    refine z_icmp_ne C 32 (by decide) dX0_faulty_19 (fun hc => ?_) (fun hc => ?_)
    · have h := zif_f hc h
      exact l_X0_faulty_32 C L k4 hk4 v1 v2 v3 I h
    · have h := zif_t hc h
      refine z_iload_n C rfl 2 rfl dX0_faulty_22 ?_
      refine z_iload_n C rfl 1 rfl dX0_faulty_23 ?_
      refine z_icmp_ne C 29 (by decide) dX0_faulty_24 (fun hc => ?_) (fun hc => ?_)
      · have h := zif_f hc h
        obtain ⟨x2, ex2, h⟩ := zlt_e h
        refine z_iinc C (j := 2) (v := x2) (lv' := [(2, .int x2), (0, .ref (B0 + 73)), (1, .int v1), (3, .int v3)]) rfl (by rw [ex2]; rfl) (by decide) rfl dX0_faulty_29 ?_
        refine z_lv [1, 2, 0, 3] (lv' := [(0, .ref (B0 + 73)), (1, .int v1), (2, .int x2), (3, .int v3)]) rfl ?_
        exact l_X0_faulty_32 C L k4 hk4 v1 x2 v3 I h
      · have h := zif_t hc h
        refine z_iload_n C rfl 3 rfl dX0_faulty_27 ?_
        obtain rfl := Option.some.inj h
        exact z_iret C dX0_faulty_28 .int rfl rfl rfl
set_option maxHeartbeats 4000000 in
set_option maxRecDepth 100000 in
theorem L_X0_faulty_4 {r : Int32} (C : zC p l e R s m args below meth c s0 a0 d cy B0 yX0_faulty.cls cX0_faulty 4 (some .int) bc bs bc bs 0 0 []) (L : zL) (v1 : Int32) (v2 : Int32) (v3 : Int32) (I : zI) (h : zlp4 (f_X0_faulty_4) zF v1 v2 v3 I = some r) : zG p l e R s m args below meth c d cy B0 4 bc bs (zQ below s args d cy B0 bc bs (.inl (some (.int r))) zSH zKn bc bs I L) 4 [(0, .ref (B0 + 73)), (1, .int v1), (2, .int v2), (3, .int v3)] [] zSH zKn bc bs I L :=
 zlp4_e (fun (v1 : Int32) (v2 : Int32) (v3 : Int32) (I : zI) => zG p l e R s m args below meth c d cy B0 4 bc bs (zQ below s args d cy B0 bc bs (.inl (some (.int r))) zSH zKn bc bs I L) 4 [(0, .ref (B0 + 73)), (1, .int v1), (2, .int v2), (3, .int v3)] [] zSH zKn bc bs I L) (fun k9 hk9 v1 v2 v3 I h => l_X0_faulty_4 C L k9 hk9 v1 v2 v3 I h) zF v1 v2 v3 I h
set_option maxHeartbeats 4000000 in
set_option maxRecDepth 100000 in
theorem c_X0_faulty {r : Int32} (hE : zE0 l s0 a0 d cy B0) (a1 : Int32) (I : zI) (L : zL) (h : f_X0_faulty a1 I = some r) : zM l s0 d cy B0 yX0_faulty cX0_faulty 4 (some .int) 0 0 [.ref (B0 + 73), .int a1] zSH zKn bc bs I L (.inl (some (.int r))) zSH zKn bc bs I L := by
  refine z_meth yy_X0_faulty hE (Nat.le_of_ble_eq_true rfl) (fun p e R s m args below meth c C => ?_)
  show zG p l e R s m args below meth c d cy B0 4 bc bs (zQ below s args d cy B0 bc bs (.inl (some (.int r))) zSH zKn bc bs I L) 0 [(0, .ref (B0 + 73)), (1, .int a1)] [] zSH zKn bc bs I L
  unfold f_X0_faulty at h
  refine z_iconst C (v := 0) (by decide) dX0_faulty_0 ?_
  refine z_istore_n C (lv' := [(2, .int (0 : Int32)), (0, .ref (B0 + 73)), (1, .int a1)]) rfl (by decide) rfl dX0_faulty_1 ?_
  refine z_iconst C (v := 0) (by decide) dX0_faulty_2 ?_
  refine z_istore_n C (lv' := [(3, .int (0 : Int32)), (2, .int (0 : Int32)), (0, .ref (B0 + 73)), (1, .int a1)]) rfl (by decide) rfl dX0_faulty_3 ?_
  refine z_lv [2, 3, 1, 0] (lv' := [(0, .ref (B0 + 73)), (1, .int a1), (2, .int (0 : Int32)), (3, .int (0 : Int32))]) rfl ?_
  exact L_X0_faulty_4 C L a1 (0 : Int32) (0 : Int32) I h
theorem q_81 : (Cond.initialized "DeviceFind$Drawing") ∈ lw_tbl := List.mem_of_getElem? (i := 81) (by decide +kernel)
theorem q_268 : (Cond.fieldLink "DeviceFind$Drawing" (9 : Nat) "DeviceFind$Drawing" "inputs" "[I") ∈ lw_tbl := List.mem_of_getElem? (i := 268) (by decide +kernel)
theorem q_276 : (Cond.fieldLink "DeviceFind$Drawing" (28 : Nat) "DeviceFind$Drawing" "polygons" "I") ∈ lw_tbl := List.mem_of_getElem? (i := 276) (by decide +kernel)
theorem q_814 : (Cond.code ({ cls := "DeviceFind$Drawing", name := "add", desc := "(I)I" } : Jvm.MethodName) prog_3_method_2_code (2 : Nat) (Option.some Jvm.ClassFile.FieldType.int)) ∈ lw_tbl := List.mem_of_getElem? (i := 814) (by decide +kernel)
theorem yy_X1_add : zY yX1_add cX1_add 2 (some .int) 1 := ⟨q_814, q_81, by decide +kernel, by decide +kernel, by decide +kernel⟩
noncomputable def f_X1_add (a1 : Int32) (I : zI) : Option (Int32 × zI) :=
  zck (zbd (I 20 5) 60) (zlt (zu I 21 (I 20 5).toNatClampNeg a1) (fun I2 => zlt ((I2 20 5) + (1 : Int32)) (fun x3 => zlt (zu I2 20 5 x3) (fun I4 => zlt ((I4 20 5) - (1 : Int32)) (fun x5 => some (x5, I4))))))
set_option maxHeartbeats 4000000 in
set_option maxRecDepth 100000 in
theorem c_X1_add {r : Int32 × zI} (hE : zE0 l s0 a0 d cy B0) (a1 : Int32) (I : zI) (L : zL) (h : f_X1_add a1 I = some r) : zM l s0 d cy B0 yX1_add cX1_add 2 (some .int) 0 0 [.ref (B0 + 20), .int a1] zSH zKn bc bs I L (.inl (some (.int r.1))) zSH zKn bc bs r.2 L := by
  refine z_meth yy_X1_add hE (Nat.le_of_ble_eq_true rfl) (fun p e R s m args below meth c C => ?_)
  show zG p l e R s m args below meth c d cy B0 2 bc bs (zQ below s args d cy B0 bc bs (.inl (some (.int r.1))) zSH zKn bc bs r.2 L) 0 [(0, .ref (B0 + 20)), (1, .int a1)] [] zSH zKn bc bs I L
  unfold f_X1_add at h
  refine z_aload_n C rfl 0 rfl dX1_add_0 ?_
  refine z_getr C zc_1 dX1_add_1 0 20 21 rfl (by decide) (by decide) q_268 rfl rfl ?_
  refine z_aload_n C rfl 0 rfl dX1_add_4 ?_
  refine z_geti C zc_1 dX1_add_5 5 20 rfl (by decide) (by decide) q_276 rfl ?_
  refine z_iload_n C rfl 1 rfl dX1_add_8 ?_
  obtain ⟨hb1, h⟩ := zck_e h
  refine z_iastore C dX1_add_9 rfl rfl (by decide) (zbd_in hb1) ?_
  obtain ⟨I2, eI2, h⟩ := zlt_e h
  refine z_eqI C eI2 ?_
  refine z_aload_n C rfl 0 rfl dX1_add_10 ?_
  refine z_dup C rfl dX1_add_11 ?_
  refine z_geti C zc_1 dX1_add_12 5 20 rfl (by decide) (by decide) q_276 rfl ?_
  refine z_iconst C (v := 1) (by decide) dX1_add_15 ?_
  refine z_iadd C dX1_add_16 ?_
  obtain ⟨x3, ex3, h⟩ := zlt_e h
  refine z_eqi C ex3 ?_
  refine z_puti C zc_1 dX1_add_17 5 20 rfl (by decide) (by decide) rfl q_276 rfl rfl rfl ?_
  obtain ⟨I4, eI4, h⟩ := zlt_e h
  refine z_eqI C eI4 ?_
  refine z_aload_n C rfl 0 rfl dX1_add_20 ?_
  refine z_geti C zc_1 dX1_add_21 5 20 rfl (by decide) (by decide) q_276 rfl ?_
  refine z_iconst C (v := 1) (by decide) dX1_add_24 ?_
  refine z_isub C dX1_add_25 ?_
  obtain ⟨x5, ex5, h⟩ := zlt_e h
  refine z_eqi C ex5 ?_
  obtain rfl := Option.some.inj h
  exact z_iret C dX1_add_26 .int rfl rfl rfl
theorem q_272 : (Cond.fieldLink "DeviceFind$Drawing" (18 : Nat) "DeviceFind$Drawing" "xs" "[I") ∈ lw_tbl := List.mem_of_getElem? (i := 272) (by decide +kernel)
theorem q_273 : (Cond.fieldLink "DeviceFind$Drawing" (21 : Nat) "DeviceFind$Drawing" "ys" "[I") ∈ lw_tbl := List.mem_of_getElem? (i := 273) (by decide +kernel)
theorem q_846 : (Cond.code ({ cls := "DeviceFind$Drawing", name := "differInOne", desc := "(II)Z" } : Jvm.MethodName) prog_3_method_6_code (3 : Nat) (Option.some Jvm.ClassFile.FieldType.boolean)) ∈ lw_tbl := List.mem_of_getElem? (i := 846) (by decide +kernel)
theorem yy_X1_differInOne : zY yX1_differInOne cX1_differInOne 3 (some .boolean) 2 := ⟨q_846, q_81, by decide +kernel, by decide +kernel, by decide +kernel⟩
noncomputable def f_X1_differInOne_48 (w0 : Int32) (I : zI) : Option Int32 :=
  zck (zbo w0) (some w0)
noncomputable def f_X1_differInOne_40 (w0 : Int32) (w1 : Int32) (I : zI) : Option Int32 :=
  if w0 = w1 then (f_X1_differInOne_48 (0 : Int32) I) else (f_X1_differInOne_48 (1 : Int32) I)
noncomputable def f_X1_differInOne_20 (v1 : Int32) (v2 : Int32) (w0 : Int32) (I : zI) : Option Int32 :=
  zck (zbd v1 960) (zck (zbd v2 960) (if (I 24 v1.toNatClampNeg) = (I 24 v2.toNatClampNeg) then (f_X1_differInOne_40 w0 (0 : Int32) I) else (f_X1_differInOne_40 w0 (1 : Int32) I)))
noncomputable def f_X1_differInOne (a1 : Int32) (a2 : Int32) (I : zI) : Option Int32 :=
  zck (zbd a1 960) (zck (zbd a2 960) (if (I 23 a1.toNatClampNeg) = (I 23 a2.toNatClampNeg) then (f_X1_differInOne_20 a1 a2 (0 : Int32) I) else (f_X1_differInOne_20 a1 a2 (1 : Int32) I)))
set_option maxHeartbeats 4000000 in
set_option maxRecDepth 100000 in
theorem l_X1_differInOne_48 {r : Int32} (C : zC p l e R s m args below meth c s0 a0 d cy B0 yX1_differInOne.cls cX1_differInOne 3 (some .boolean) bc bs bc bs 0 0 []) (L : zL) (w0 : Int32) (I : zI) (h : f_X1_differInOne_48 w0 I = some r) : zG p l e R s m args below meth c d cy B0 3 bc bs (zQ below s args d cy B0 bc bs (.inl (some (.int r))) zSH zKn bc bs I L) 48 [] [.int w0] zSH zKn bc bs I L := by
  unfold f_X1_differInOne_48 at h
  obtain ⟨hb5, h⟩ := zck_e h
  obtain rfl := Option.some.inj h
  exact z_iret C dX1_differInOne_48 .boolean rfl (zbo_n hb5).1 rfl
set_option maxHeartbeats 4000000 in
set_option maxRecDepth 100000 in
theorem l_X1_differInOne_40 {r : Int32} (C : zC p l e R s m args below meth c s0 a0 d cy B0 yX1_differInOne.cls cX1_differInOne 3 (some .boolean) bc bs bc bs 0 0 []) (L : zL) (w0 : Int32) (w1 : Int32) (I : zI) (h : f_X1_differInOne_40 w0 w1 I = some r) : zG p l e R s m args below meth c d cy B0 3 bc bs (zQ below s args d cy B0 bc bs (.inl (some (.int r))) zSH zKn bc bs I L) 40 [] [.int w1, .int w0] zSH zKn bc bs I L := by
  unfold f_X1_differInOne_40 at h
  refine z_icmp_eq C 47 (by decide) dX1_differInOne_40 (fun hc => ?_) (fun hc => ?_)
  · have h := zif_t hc h
    refine z_iconst C (v := 0) (by decide) dX1_differInOne_47 ?_
    exact l_X1_differInOne_48 C L (0 : Int32) I h
  · have h := zif_f hc h
    refine z_iconst C (v := 1) (by decide) dX1_differInOne_43 ?_
    refine z_goto C 48 (by decide) dX1_differInOne_44 ?_
    exact l_X1_differInOne_48 C L (1 : Int32) I h
set_option maxHeartbeats 4000000 in
set_option maxRecDepth 100000 in
theorem l_X1_differInOne_20 {r : Int32} (C : zC p l e R s m args below meth c s0 a0 d cy B0 yX1_differInOne.cls cX1_differInOne 3 (some .boolean) bc bs bc bs 0 0 []) (L : zL) (v1 : Int32) (v2 : Int32) (w0 : Int32) (I : zI) (h : f_X1_differInOne_20 v1 v2 w0 I = some r) : zG p l e R s m args below meth c d cy B0 3 bc bs (zQ below s args d cy B0 bc bs (.inl (some (.int r))) zSH zKn bc bs I L) 20 [(0, .ref (B0 + 20)), (1, .int v1), (2, .int v2)] [.int w0] zSH zKn bc bs I L := by
  unfold f_X1_differInOne_20 at h
  refine z_aload_n C rfl 0 rfl dX1_differInOne_20 ?_
  refine z_getr C zc_1 dX1_differInOne_21 3 20 24 rfl (by decide) (by decide) q_273 rfl rfl ?_
  refine z_iload_n C rfl 1 rfl dX1_differInOne_24 ?_
  obtain ⟨hb3, h⟩ := zck_e h
  refine z_iaload C dX1_differInOne_25 rfl rfl (by decide) (zbd_in hb3) ?_
  refine z_aload_n C rfl 0 rfl dX1_differInOne_26 ?_
  refine z_getr C zc_1 dX1_differInOne_27 3 20 24 rfl (by decide) (by decide) q_273 rfl rfl ?_
  refine z_iload_n C rfl 2 rfl dX1_differInOne_30 ?_
  obtain ⟨hb4, h⟩ := zck_e h
  refine z_iaload C dX1_differInOne_31 rfl rfl (by decide) (zbd_in hb4) ?_
  refine z_icmp_eq C 39 (by decide) dX1_differInOne_32 (fun hc => ?_) (fun hc => ?_)
  · have h := zif_t hc h
    refine z_iconst C (v := 0) (by decide) dX1_differInOne_39 ?_
    refine z_lv [] (lv' := []) rfl ?_
    exact l_X1_differInOne_40 C L w0 (0 : Int32) I h
  · have h := zif_f hc h
    refine z_iconst C (v := 1) (by decide) dX1_differInOne_35 ?_
    refine z_goto C 40 (by decide) dX1_differInOne_36 ?_
    refine z_lv [] (lv' := []) rfl ?_
    exact l_X1_differInOne_40 C L w0 (1 : Int32) I h
set_option maxHeartbeats 4000000 in
set_option maxRecDepth 100000 in
theorem c_X1_differInOne {r : Int32} (hE : zE0 l s0 a0 d cy B0) (a1 : Int32) (a2 : Int32) (I : zI) (L : zL) (h : f_X1_differInOne a1 a2 I = some r) : zM l s0 d cy B0 yX1_differInOne cX1_differInOne 3 (some .boolean) 0 0 [.ref (B0 + 20), .int a1, .int a2] zSH zKn bc bs I L (.inl (some (.int r))) zSH zKn bc bs I L := by
  refine z_meth yy_X1_differInOne hE (Nat.le_of_ble_eq_true rfl) (fun p e R s m args below meth c C => ?_)
  show zG p l e R s m args below meth c d cy B0 3 bc bs (zQ below s args d cy B0 bc bs (.inl (some (.int r))) zSH zKn bc bs I L) 0 [(0, .ref (B0 + 20)), (1, .int a1), (2, .int a2)] [] zSH zKn bc bs I L
  unfold f_X1_differInOne at h
  refine z_aload_n C rfl 0 rfl dX1_differInOne_0 ?_
  refine z_getr C zc_1 dX1_differInOne_1 2 20 23 rfl (by decide) (by decide) q_272 rfl rfl ?_
  refine z_iload_n C rfl 1 rfl dX1_differInOne_4 ?_
  obtain ⟨hb1, h⟩ := zck_e h
  refine z_iaload C dX1_differInOne_5 rfl rfl (by decide) (zbd_in hb1) ?_
  refine z_aload_n C rfl 0 rfl dX1_differInOne_6 ?_
  refine z_getr C zc_1 dX1_differInOne_7 2 20 23 rfl (by decide) (by decide) q_272 rfl rfl ?_
  refine z_iload_n C rfl 2 rfl dX1_differInOne_10 ?_
  obtain ⟨hb2, h⟩ := zck_e h
  refine z_iaload C dX1_differInOne_11 rfl rfl (by decide) (zbd_in hb2) ?_
  refine z_icmp_eq C 19 (by decide) dX1_differInOne_12 (fun hc => ?_) (fun hc => ?_)
  · have h := zif_t hc h
    refine z_iconst C (v := 0) (by decide) dX1_differInOne_19 ?_
    exact l_X1_differInOne_20 C L a1 a2 (0 : Int32) I h
  · have h := zif_f hc h
    refine z_iconst C (v := 1) (by decide) dX1_differInOne_15 ?_
    refine z_goto C 20 (by decide) dX1_differInOne_16 ?_
    exact l_X1_differInOne_20 C L a1 a2 (1 : Int32) I h
theorem q_20 : Cond.selects "DeviceFind$Drawing" ⟨"DeviceFind$Drawing", "differInOne", "(II)Z"⟩ ⟨"DeviceFind$Drawing", "differInOne", "(II)Z"⟩ ∈ lw_tbl := List.mem_of_getElem? (i := 20) (by decide +kernel)
theorem q_270 : (Cond.fieldLink "DeviceFind$Drawing" (15 : Nat) "DeviceFind$Drawing" "corners" "[I") ∈ lw_tbl := List.mem_of_getElem? (i := 270) (by decide +kernel)
theorem q_842 : (Cond.code ({ cls := "DeviceFind$Drawing", name := "addCorner", desc := "(III)Z" } : Jvm.MethodName) prog_3_method_3_code (5 : Nat) (Option.some Jvm.ClassFile.FieldType.boolean)) ∈ lw_tbl := List.mem_of_getElem? (i := 842) (by decide +kernel)
theorem q_843 : (Cond.methodLink "DeviceFind$Drawing" (32 : Nat) ({ cls := "DeviceFind$Drawing", name := "differInOne", desc := "(II)Z" } : Jvm.MethodName)) ∈ lw_tbl := List.mem_of_getElem? (i := 843) (by decide +kernel)
theorem q_845 : (Cond.instanceMethod ({ cls := "DeviceFind$Drawing", name := "differInOne", desc := "(II)Z" } : Jvm.MethodName)) ∈ lw_tbl := List.mem_of_getElem? (i := 845) (by decide +kernel)
theorem yy_X1_addCorner : zY yX1_addCorner cX1_addCorner 5 (some .boolean) 3 := ⟨q_842, q_81, by decide +kernel, by decide +kernel, by decide +kernel⟩
noncomputable def f_X1_addCorner_53 (v1 : Int32) (I : zI) : Option (Int32 × zI) :=
  zck (zbd v1 60) (zlt ((I 22 v1.toNatClampNeg) + (1 : Int32)) (fun x11 => zck (zbd v1 60) (zlt (zu I 22 v1.toNatClampNeg x11) (fun I13 => some ((1 : Int32), I13)))))
noncomputable def f_X1_addCorner (a1 : Int32) (a2 : Int32) (a3 : Int32) (I : zI) : Option (Int32 × zI) :=
  zck (zbd a1 60) (zlt ((a1 * (16 : Int32)) + (I 22 a1.toNatClampNeg)) (fun x2 => zck (zbd x2 960) (zlt (zu I 23 x2.toNatClampNeg a2) (fun I4 => zck (zbd x2 960) (zlt (zu I4 24 x2.toNatClampNeg a3) (fun I6 => zck (zbd a1 60) (if (I6 22 a1.toNatClampNeg) ≤ 0 then (f_X1_addCorner_53 a1 I6) else (zb1 (f_X1_differInOne (x2 - (1 : Int32)) x2 I6) (fun x9 => if x9 = 0 then (some ((0 : Int32), I6)) else (f_X1_addCorner_53 a1 I6))))))))))
set_option maxHeartbeats 4000000 in
set_option maxRecDepth 100000 in
theorem l_X1_addCorner_53 {r : Int32 × zI} (C : zC p l e R s m args below meth c s0 a0 d cy B0 yX1_addCorner.cls cX1_addCorner 5 (some .boolean) bc bs bc bs 1 22 []) (L : zL) (v1 : Int32) (I : zI) (h : f_X1_addCorner_53 v1 I = some r) : zG p l e R s m args below meth c d cy B0 5 bc bs (zQ below s args d cy B0 bc bs (.inl (some (.int r.1))) zSH zKn bc bs r.2 L) 53 [(0, .ref (B0 + 20)), (1, .int v1)] [] zSH zKn bc bs I L := by
  unfold f_X1_addCorner_53 at h
  refine z_aload_n C rfl 0 rfl dX1_addCorner_53 ?_
  refine z_getr C zc_1 dX1_addCorner_54 1 20 22 rfl (by decide) (by decide) q_270 rfl rfl ?_
  refine z_iload_n C rfl 1 rfl dX1_addCorner_57 ?_
  refine z_dup2_11 C rfl rfl dX1_addCorner_58 ?_
  obtain ⟨hb10, h⟩ := zck_e h
  refine z_iaload C dX1_addCorner_59 rfl rfl (by decide) (zbd_in hb10) ?_
  refine z_iconst C (v := 1) (by decide) dX1_addCorner_60 ?_
  refine z_iadd C dX1_addCorner_61 ?_
  obtain ⟨x11, ex11, h⟩ := zlt_e h
  refine z_eqi C ex11 ?_
  obtain ⟨hb12, h⟩ := zck_e h
  refine z_iastore C dX1_addCorner_62 rfl rfl (by decide) (zbd_in hb12) ?_
  obtain ⟨I13, eI13, h⟩ := zlt_e h
  refine z_eqI C eI13 ?_
  refine z_iconst C (v := 1) (by decide) dX1_addCorner_63 ?_
  obtain rfl := Option.some.inj h
  exact z_iret C dX1_addCorner_64 .boolean rfl rfl rfl
set_option maxHeartbeats 4000000 in
set_option maxRecDepth 100000 in
theorem c_X1_addCorner {r : Int32 × zI} (hE : zE0 l s0 a0 d cy B0) (a1 : Int32) (a2 : Int32) (a3 : Int32) (I : zI) (L : zL) (h : f_X1_addCorner a1 a2 a3 I = some r) : zM l s0 d cy B0 yX1_addCorner cX1_addCorner 5 (some .boolean) 1 22 [.ref (B0 + 20), .int a1, .int a2, .int a3] zSH zKn bc bs I L (.inl (some (.int r.1))) zSH zKn bc bs r.2 L := by
  refine z_meth yy_X1_addCorner hE (Nat.le_of_ble_eq_true rfl) (fun p e R s m args below meth c C => ?_)
  show zG p l e R s m args below meth c d cy B0 5 bc bs (zQ below s args d cy B0 bc bs (.inl (some (.int r.1))) zSH zKn bc bs r.2 L) 0 [(0, .ref (B0 + 20)), (1, .int a1), (2, .int a2), (3, .int a3)] [] zSH zKn bc bs I L
  unfold f_X1_addCorner at h
  refine z_iload_n C rfl 1 rfl dX1_addCorner_0 ?_
  refine z_bipush C (v := 16) (by decide) dX1_addCorner_1 ?_
  refine z_imul C dX1_addCorner_3 ?_
  refine z_aload_n C rfl 0 rfl dX1_addCorner_4 ?_
  refine z_getr C zc_1 dX1_addCorner_5 1 20 22 rfl (by decide) (by decide) q_270 rfl rfl ?_
  refine z_iload_n C rfl 1 rfl dX1_addCorner_8 ?_
  obtain ⟨hb1, h⟩ := zck_e h
  refine z_iaload C dX1_addCorner_9 rfl rfl (by decide) (zbd_in hb1) ?_
  refine z_iadd C dX1_addCorner_10 ?_
  obtain ⟨x2, ex2, h⟩ := zlt_e h
  refine z_eqi C ex2 ?_
  refine z_istore C (lv' := [(4, .int x2), (0, .ref (B0 + 20)), (1, .int a1), (2, .int a2), (3, .int a3)]) (by decide) rfl dX1_addCorner_11 ?_
  refine z_aload_n C rfl 1 rfl dX1_addCorner_13 ?_
  refine z_getr C zc_1 dX1_addCorner_14 2 20 23 rfl (by decide) (by decide) q_272 rfl rfl ?_
  refine z_iload C 0 rfl dX1_addCorner_17 ?_
  refine z_iload_n C rfl 3 rfl dX1_addCorner_19 ?_
  obtain ⟨hb3, h⟩ := zck_e h
  refine z_iastore C dX1_addCorner_20 rfl rfl (by decide) (zbd_in hb3) ?_
  obtain ⟨I4, eI4, h⟩ := zlt_e h
  refine z_eqI C eI4 ?_
  refine z_aload_n C rfl 1 rfl dX1_addCorner_21 ?_
  refine z_getr C zc_1 dX1_addCorner_22 3 20 24 rfl (by decide) (by decide) q_273 rfl rfl ?_
  refine z_iload C 0 rfl dX1_addCorner_25 ?_
  refine z_iload_n C rfl 4 rfl dX1_addCorner_27 ?_
  obtain ⟨hb5, h⟩ := zck_e h
  refine z_iastore C dX1_addCorner_28 rfl rfl (by decide) (zbd_in hb5) ?_
  obtain ⟨I6, eI6, h⟩ := zlt_e h
  refine z_eqI C eI6 ?_
  refine z_aload_n C rfl 1 rfl dX1_addCorner_29 ?_
  refine z_getr C zc_1 dX1_addCorner_30 1 20 22 rfl (by decide) (by decide) q_270 rfl rfl ?_
  refine z_iload_n C rfl 2 rfl dX1_addCorner_33 ?_
  obtain ⟨hb7, h⟩ := zck_e h
  refine z_iaload C dX1_addCorner_34 rfl rfl (by decide) (zbd_in hb7) ?_
  refine z_if_le C 53 (by decide) dX1_addCorner_35 (fun hc => ?_) (fun hc => ?_)
  · have h := zif_t hc h
    refine z_lv [1, 2] (lv' := [(0, .ref (B0 + 20)), (1, .int a1)]) rfl ?_
    exact l_X1_addCorner_53 C L a1 I6 h
  · have h := zif_f hc h
    refine z_aload_n C rfl 1 rfl dX1_addCorner_38 ?_
    refine z_iload C 0 rfl dX1_addCorner_39 ?_
    refine z_iconst C (v := 1) (by decide) dX1_addCorner_41 ?_
    refine z_isub C dX1_addCorner_42 ?_
    refine z_iload C 0 rfl dX1_addCorner_43 ?_
    obtain ⟨x9, hg8, h⟩ := zb1_e h
    refine z_callV C zc_1 rfl (by decide) dX1_addCorner_45 yy_X1_differInOne (c_X1_differInOne C.2.2.2.2.1  (x2 - (1 : Int32)) x2 I6 L hg8) q_843 q_845 q_20 (by decide) (by decide) rfl rfl (Nat.le_of_ble_eq_true rfl) ⟨Nat.le_refl _, Nat.le_refl _, Nat.le_refl _, Nat.le_refl _⟩ ?_
    refine z_if_ne C 53 (by decide) dX1_addCorner_48 (fun hc => ?_) (fun hc => ?_)
    · have h := zif_f hc h
      refine z_lv [1, 2] (lv' := [(0, .ref (B0 + 20)), (1, .int a1)]) rfl ?_
      exact l_X1_addCorner_53 C L a1 I6 h
    · have h := zif_t hc h
      refine z_iconst C (v := 0) (by decide) dX1_addCorner_51 ?_
      obtain rfl := Option.some.inj h
      exact z_iret C dX1_addCorner_52 .boolean rfl rfl rfl
theorem q_99 : (Cond.initialized "java/util/Arrays") ∈ lw_tbl := List.mem_of_getElem? (i := 99) (by decide +kernel)
theorem q_882 : (Cond.code ({ cls := "java/util/Arrays", name := "fill", desc := "([JJ)V" } : Jvm.MethodName) prog_28_method_101_code (5 : Nat) (Option.none : Option Jvm.ClassFile.FieldType)) ∈ lw_tbl := List.mem_of_getElem? (i := 882) (by decide +kernel)
theorem yy_J7_fill_d0a16 : zY yJ7_fill_d0a16 cJ7_fill_d0a16 5 none 2 := ⟨q_882, q_99, by decide +kernel, by decide +kernel, by decide +kernel⟩
noncomputable def f_J7_fill_d0a16_6 (r0 : Nat) (k6 : Int64 → Int32 → Int32 → zL → Option zL) (v1 : Int64) (v3 : Int32) (v4 : Int32) (L : zL) : Option zL :=
  if v4 ≤ v3 then (some L) else (zck (zbd v3 64) (zlt (zul L r0 v3.toNatClampNeg v1) (fun L2 => zlt (v3 + 1) (fun x3 => k6 v1 x3 v4 L2))))
noncomputable def f_J7_fill_d0a16 (r0 : Nat) (a1 : Int64) (L : zL) : Option zL :=
  zlp4 (f_J7_fill_d0a16_6 r0) zF a1 (0 : Int32) (64 : Int32) L
set_option maxHeartbeats 4000000 in
set_option maxRecDepth 100000 in
theorem l_J7_fill_d0a16_6 {r : zL} (C : zC p l e R s m args below meth c s0 a0 d cy B0 yJ7_fill_d0a16.cls cJ7_fill_d0a16 5 none bc bs bc bs 0 0 []) {r0 : Nat} (hr0 : zar 15 64 r0) (I : zI) (k6 : Int64 → Int32 → Int32 → zL → Option zL) (hk6 : ∀ (v1 : Int64) (v3 : Int32) (v4 : Int32) (L : zL), k6 v1 v3 v4 L = some r → zG p l e R s m args below meth c d cy B0 5 bc bs (zQ below s args d cy B0 bc bs (.inl none) zSH zKn bc bs I r) 6 [(0, .ref (B0 + r0)), (1, .long v1), (3, .int v3), (4, .int v4)] [] zSH zKn bc bs I L) (v1 : Int64) (v3 : Int32) (v4 : Int32) (L : zL) (h : f_J7_fill_d0a16_6 r0 k6 v1 v3 v4 L = some r) : zG p l e R s m args below meth c d cy B0 5 bc bs (zQ below s args d cy B0 bc bs (.inl none) zSH zKn bc bs I r) 6 [(0, .ref (B0 + r0)), (1, .long v1), (3, .int v3), (4, .int v4)] [] zSH zKn bc bs I L := by
  unfold f_J7_fill_d0a16_6 at h
  refine z_iload_n C rfl 2 rfl dJ7_fill_d0a16_6 ?_
  refine z_iload C 3 rfl dJ7_fill_d0a16_7 ?_
  refine z_icmp_ge C 22 (by decide) dJ7_fill_d0a16_9 (fun hc => ?_) (fun hc => ?_)
  · have h := zif_t hc h
    obtain rfl := Option.some.inj h
    exact z_vret C dJ7_fill_d0a16_22 rfl rfl
  · have h := zif_f hc h
    refine z_aload_n C rfl 0 rfl dJ7_fill_d0a16_12 ?_
    refine z_iload_n C rfl 2 rfl dJ7_fill_d0a16_13 ?_
    refine z_lload_n C rfl 1 rfl dJ7_fill_d0a16_14 ?_
    obtain ⟨hb1, h⟩ := zck_e h
    refine z_lastore C dJ7_fill_d0a16_15 hr0.1 hr0.2.1 hr0.2.2 (zbd_in hb1) ?_
    obtain ⟨L2, eL2, h⟩ := zlt_e h
    refine z_eqL C eL2 ?_
    obtain ⟨x3, ex3, h⟩ := zlt_e h
    refine z_iinc C (j := 2) (v := x3) (lv' := [(3, .int x3), (0, .ref (B0 + r0)), (1, .long v1), (4, .int v4)]) rfl (by rw [ex3]; rfl) (by decide) rfl dJ7_fill_d0a16_16 ?_
    refine z_goto C 6 (by decide) dJ7_fill_d0a16_19 ?_
    refine z_lv [1, 2, 0, 3] (lv' := [(0, .ref (B0 + r0)), (1, .long v1), (3, .int x3), (4, .int v4)]) rfl ?_
    exact hk6 v1 x3 v4 L2 h
set_option maxHeartbeats 4000000 in
set_option maxRecDepth 100000 in
theorem L_J7_fill_d0a16_6 {r : zL} (C : zC p l e R s m args below meth c s0 a0 d cy B0 yJ7_fill_d0a16.cls cJ7_fill_d0a16 5 none bc bs bc bs 0 0 []) {r0 : Nat} (hr0 : zar 15 64 r0) (I : zI) (v1 : Int64) (v3 : Int32) (v4 : Int32) (L : zL) (h : zlp4 (f_J7_fill_d0a16_6 r0) zF v1 v3 v4 L = some r) : zG p l e R s m args below meth c d cy B0 5 bc bs (zQ below s args d cy B0 bc bs (.inl none) zSH zKn bc bs I r) 6 [(0, .ref (B0 + r0)), (1, .long v1), (3, .int v3), (4, .int v4)] [] zSH zKn bc bs I L :=
 zlp4_e (fun (v1 : Int64) (v3 : Int32) (v4 : Int32) (L : zL) => zG p l e R s m args below meth c d cy B0 5 bc bs (zQ below s args d cy B0 bc bs (.inl none) zSH zKn bc bs I r) 6 [(0, .ref (B0 + r0)), (1, .long v1), (3, .int v3), (4, .int v4)] [] zSH zKn bc bs I L) (fun k9 hk9 v1 v3 v4 L h => l_J7_fill_d0a16_6 C hr0 I k9 hk9 v1 v3 v4 L h) zF v1 v3 v4 L h
set_option maxHeartbeats 4000000 in
set_option maxRecDepth 100000 in
theorem c_J7_fill_d0a16 {r : zL} (hE : zE0 l s0 a0 d cy B0) {r0 : Nat} (hr0 : zar 15 64 r0) (a1 : Int64) (I : zI) (L : zL) (h : f_J7_fill_d0a16 r0 a1 L = some r) : zM l s0 d cy B0 yJ7_fill_d0a16 cJ7_fill_d0a16 5 none 0 0 [.ref (B0 + r0), .long a1] zSH zKn bc bs I L (.inl none) zSH zKn bc bs I r := by
  refine z_meth yy_J7_fill_d0a16 hE (Nat.le_of_ble_eq_true rfl) (fun p e R s m args below meth c C => ?_)
  show zG p l e R s m args below meth c d cy B0 5 bc bs (zQ below s args d cy B0 bc bs (.inl none) zSH zKn bc bs I r) 0 [(0, .ref (B0 + r0)), (1, .long a1)] [] zSH zKn bc bs I L
  unfold f_J7_fill_d0a16 at h
  refine z_iconst C (v := 0) (by decide) dJ7_fill_d0a16_0 ?_
  refine z_istore_n C (lv' := [(3, .int (0 : Int32)), (0, .ref (B0 + r0)), (1, .long a1)]) rfl (by decide) rfl dJ7_fill_d0a16_1 ?_
  refine z_aload_n C rfl 1 rfl dJ7_fill_d0a16_2 ?_
  refine z_alenL C dJ7_fill_d0a16_3 hr0.1 hr0.2.1 hr0.2.2 (v := 64) (by decide) ?_
  refine z_istore C (lv' := [(4, .int (64 : Int32)), (3, .int (0 : Int32)), (0, .ref (B0 + r0)), (1, .long a1)]) (by decide) rfl dJ7_fill_d0a16_4 ?_
  refine z_lv [2, 3, 1, 0] (lv' := [(0, .ref (B0 + r0)), (1, .long a1), (3, .int (0 : Int32)), (4, .int (64 : Int32))]) rfl ?_
  exact L_J7_fill_d0a16_6 C hr0 I a1 (0 : Int32) (64 : Int32) L h
theorem q_891 : (Cond.code ({ cls := "DeviceFind$Drawing", name := "isOpen", desc := "(I)Z" } : Jvm.MethodName) prog_3_method_5_code (3 : Nat) (Option.some Jvm.ClassFile.FieldType.boolean)) ∈ lw_tbl := List.mem_of_getElem? (i := 891) (by decide +kernel)
theorem yy_X1_isOpen : zY yX1_isOpen cX1_isOpen 3 (some .boolean) 1 := ⟨q_891, q_81, by decide +kernel, by decide +kernel, by decide +kernel⟩
noncomputable def f_X1_isOpen_38 (w0 : Int32) (I : zI) : Option Int32 :=
  zck (zbo w0) (some w0)
noncomputable def f_X1_isOpen_33 (I : zI) : Option Int32 :=
  f_X1_isOpen_38 (1 : Int32) I
noncomputable def f_X1_isOpen (a1 : Int32) (I : zI) : Option Int32 :=
  zlt (a1 * (16 : Int32)) (fun x1 => zck (zbd a1 60) (if (I 22 a1.toNatClampNeg) < (4 : Int32) then (f_X1_isOpen_33 I) else (zck (zbd a1 60) (zlt (x1 + (I 22 a1.toNatClampNeg)) (fun x4 => zb1 (f_X1_differInOne x1 (x4 - (1 : Int32)) I) (fun x6 => if x6 = 0 then (f_X1_isOpen_33 I) else (f_X1_isOpen_38 (0 : Int32) I)))))))
set_option maxHeartbeats 4000000 in
set_option maxRecDepth 100000 in
theorem l_X1_isOpen_38 {r : Int32} (C : zC p l e R s m args below meth c s0 a0 d cy B0 yX1_isOpen.cls cX1_isOpen 3 (some .boolean) bc bs bc bs 1 22 []) (L : zL) (w0 : Int32) (I : zI) (h : f_X1_isOpen_38 w0 I = some r) : zG p l e R s m args below meth c d cy B0 3 bc bs (zQ below s args d cy B0 bc bs (.inl (some (.int r))) zSH zKn bc bs I L) 38 [] [.int w0] zSH zKn bc bs I L := by
  unfold f_X1_isOpen_38 at h
  obtain ⟨hb7, h⟩ := zck_e h
  obtain rfl := Option.some.inj h
  exact z_iret C dX1_isOpen_38 .boolean rfl (zbo_n hb7).1 rfl
set_option maxHeartbeats 4000000 in
set_option maxRecDepth 100000 in
theorem l_X1_isOpen_33 {r : Int32} (C : zC p l e R s m args below meth c s0 a0 d cy B0 yX1_isOpen.cls cX1_isOpen 3 (some .boolean) bc bs bc bs 1 22 []) (L : zL) (I : zI) (h : f_X1_isOpen_33 I = some r) : zG p l e R s m args below meth c d cy B0 3 bc bs (zQ below s args d cy B0 bc bs (.inl (some (.int r))) zSH zKn bc bs I L) 33 [] [] zSH zKn bc bs I L := by
  unfold f_X1_isOpen_33 at h
  refine z_iconst C (v := 1) (by decide) dX1_isOpen_33 ?_
  refine z_goto C 38 (by decide) dX1_isOpen_34 ?_
  exact l_X1_isOpen_38 C L (1 : Int32) I h
set_option maxHeartbeats 4000000 in
set_option maxRecDepth 100000 in
theorem c_X1_isOpen {r : Int32} (hE : zE0 l s0 a0 d cy B0) (a1 : Int32) (I : zI) (L : zL) (h : f_X1_isOpen a1 I = some r) : zM l s0 d cy B0 yX1_isOpen cX1_isOpen 3 (some .boolean) 1 22 [.ref (B0 + 20), .int a1] zSH zKn bc bs I L (.inl (some (.int r))) zSH zKn bc bs I L := by
  refine z_meth yy_X1_isOpen hE (Nat.le_of_ble_eq_true rfl) (fun p e R s m args below meth c C => ?_)
  show zG p l e R s m args below meth c d cy B0 3 bc bs (zQ below s args d cy B0 bc bs (.inl (some (.int r))) zSH zKn bc bs I L) 0 [(0, .ref (B0 + 20)), (1, .int a1)] [] zSH zKn bc bs I L
  unfold f_X1_isOpen at h
  refine z_iload_n C rfl 1 rfl dX1_isOpen_0 ?_
  refine z_bipush C (v := 16) (by decide) dX1_isOpen_1 ?_
  refine z_imul C dX1_isOpen_3 ?_
  obtain ⟨x1, ex1, h⟩ := zlt_e h
  refine z_eqi C ex1 ?_
  refine z_istore_n C (lv' := [(2, .int x1), (0, .ref (B0 + 20)), (1, .int a1)]) rfl (by decide) rfl dX1_isOpen_4 ?_
  refine z_aload_n C rfl 1 rfl dX1_isOpen_5 ?_
  refine z_getr C zc_1 dX1_isOpen_6 1 20 22 rfl (by decide) (by decide) q_270 rfl rfl ?_
  refine z_iload_n C rfl 2 rfl dX1_isOpen_9 ?_
  obtain ⟨hb2, h⟩ := zck_e h
  refine z_iaload C dX1_isOpen_10 rfl rfl (by decide) (zbd_in hb2) ?_
  refine z_iconst C (v := 4) (by decide) dX1_isOpen_11 ?_
  refine z_icmp_lt C 33 (by decide) dX1_isOpen_12 (fun hc => ?_) (fun hc => ?_)
  · have h := zif_t hc h
    refine z_lv [] (lv' := []) rfl ?_
    exact l_X1_isOpen_33 C L I h
  · have h := zif_f hc h
    refine z_aload_n C rfl 1 rfl dX1_isOpen_15 ?_
    refine z_iload_n C rfl 0 rfl dX1_isOpen_16 ?_
    refine z_iload_n C rfl 0 rfl dX1_isOpen_17 ?_
    refine z_aload_n C rfl 1 rfl dX1_isOpen_18 ?_
    refine z_getr C zc_1 dX1_isOpen_19 1 20 22 rfl (by decide) (by decide) q_270 rfl rfl ?_
    refine z_iload_n C rfl 2 rfl dX1_isOpen_22 ?_
    obtain ⟨hb3, h⟩ := zck_e h
    refine z_iaload C dX1_isOpen_23 rfl rfl (by decide) (zbd_in hb3) ?_
    refine z_iadd C dX1_isOpen_24 ?_
    obtain ⟨x4, ex4, h⟩ := zlt_e h
    refine z_eqi C ex4 ?_
    refine z_iconst C (v := 1) (by decide) dX1_isOpen_25 ?_
    refine z_isub C dX1_isOpen_26 ?_
    obtain ⟨x6, hg5, h⟩ := zb1_e h
    refine z_callV C zc_1 rfl (by decide) dX1_isOpen_27 yy_X1_differInOne (c_X1_differInOne C.2.2.2.2.1  x1 (x4 - (1 : Int32)) I L hg5) q_843 q_845 q_20 (by decide) (by decide) rfl rfl (Nat.le_of_ble_eq_true rfl) ⟨Nat.le_refl _, Nat.le_refl _, Nat.le_refl _, Nat.le_refl _⟩ ?_
    refine z_if_ne C 37 (by decide) dX1_isOpen_30 (fun hc => ?_) (fun hc => ?_)
    · have h := zif_f hc h
      refine z_iconst C (v := 0) (by decide) dX1_isOpen_37 ?_
      refine z_lv [] (lv' := []) rfl ?_
      exact l_X1_isOpen_38 C L (0 : Int32) I h
    · have h := zif_t hc h
      refine z_lv [] (lv' := []) rfl ?_
      exact l_X1_isOpen_33 C L I h
theorem q_274 : (Cond.fieldLink "DeviceFind$Drawing" (24 : Nat) "DeviceFind$Drawing" "rows" "[J") ∈ lw_tbl := List.mem_of_getElem? (i := 274) (by decide +kernel)
theorem q_895 : (Cond.code ({ cls := "DeviceFind$Drawing", name := "meetSide", desc := "(II)V" } : Jvm.MethodName) prog_3_method_7_code (7 : Nat) (Option.none : Option Jvm.ClassFile.FieldType)) ∈ lw_tbl := List.mem_of_getElem? (i := 895) (by decide +kernel)
theorem q_896 : (Cond.constantLong "DeviceFind$Drawing" (50 : Nat) (-1 : Int64)) ∈ lw_tbl := List.mem_of_getElem? (i := 896) (by decide +kernel)
theorem q_897 : (Cond.methodLink "DeviceFind$Drawing" (52 : Nat) ({ cls := "java/lang/Math", name := "max", desc := "(II)I" } : Jvm.MethodName)) ∈ lw_tbl := List.mem_of_getElem? (i := 897) (by decide +kernel)
theorem q_898 : (Cond.methodLink "DeviceFind$Drawing" (58 : Nat) ({ cls := "java/lang/Math", name := "min", desc := "(II)I" } : Jvm.MethodName)) ∈ lw_tbl := List.mem_of_getElem? (i := 898) (by decide +kernel)
theorem yy_X1_meetSide : zY yX1_meetSide cX1_meetSide 7 none 2 := ⟨q_895, q_81, by decide +kernel, by decide +kernel, by decide +kernel⟩
noncomputable def f_X1_meetSide_78 (k78 : Int64 → Int32 → Int32 → zI → zL → Option zL) (v3 : Int64) (v5 : Int32) (v6 : Int32) (I : zI) (L : zL) : Option zL :=
  if v5 ≤ v6 then (some L) else (zck (zbd v6 64) (zlt ((L 25 v6.toNatClampNeg) ^^^ v3) (fun x13 => zck (zbd v6 64) (zlt (zul L 25 v6.toNatClampNeg x13) (fun L15 => zlt (v6 + 1) (fun x16 => k78 v3 v5 x16 I L15))))))
noncomputable def f_X1_meetSide_43 (v1 : Int32) (v2 : Int32) (w0 : Int64) (I : zI) (L : zL) : Option zL :=
  zck (zbd v1 960) (zck (zbd v2 960) (zlt (zmx (I 24 v1.toNatClampNeg) (I 24 v2.toNatClampNeg)) (fun x8 => zck (zbd v1 960) (zck (zbd v2 960) (zlt (zmn (I 24 v1.toNatClampNeg) (I 24 v2.toNatClampNeg)) (fun x11 => zlp5 (f_X1_meetSide_78) zF w0 x8 x11 I L))))))
noncomputable def f_X1_meetSide (a1 : Int32) (a2 : Int32) (I : zI) (L : zL) : Option zL :=
  zck (zbd a1 960) (zck (zbd a2 960) (if (I 23 a1.toNatClampNeg) = (I 23 a2.toNatClampNeg) then (zck (zbd a1 960) (if (I 23 a1.toNatClampNeg) < (64 : Int32) then (zck (zbd a1 960) (zlt ((1 : Int64) <<< ((I 23 a1.toNatClampNeg).toInt64 &&& 63)) (fun x5 => f_X1_meetSide_43 a1 a2 (x5 - (1 : Int64)) I L))) else (f_X1_meetSide_43 a1 a2 (-1 : Int64) I L))) else (some L)))
set_option maxHeartbeats 4000000 in
set_option maxRecDepth 100000 in
theorem l_X1_meetSide_78 {r : zL} (C : zC p l e R s m args below meth c s0 a0 d cy B0 yX1_meetSide.cls cX1_meetSide 7 none bc bs bc bs 1 40 []) (k78 : Int64 → Int32 → Int32 → zI → zL → Option zL) (hk78 : ∀ (v3 : Int64) (v5 : Int32) (v6 : Int32) (I : zI) (L : zL), k78 v3 v5 v6 I L = some r → zG p l e R s m args below meth c d cy B0 7 bc bs (zQ below s args d cy B0 bc bs (.inl none) zSH zKn bc bs I r) 78 [(0, .ref (B0 + 20)), (3, .long v3), (5, .int v5), (6, .int v6)] [] zSH zKn bc bs I L) (v3 : Int64) (v5 : Int32) (v6 : Int32) (I : zI) (L : zL) (h : f_X1_meetSide_78 k78 v3 v5 v6 I L = some r) : zG p l e R s m args below meth c d cy B0 7 bc bs (zQ below s args d cy B0 bc bs (.inl none) zSH zKn bc bs I r) 78 [(0, .ref (B0 + 20)), (3, .long v3), (5, .int v5), (6, .int v6)] [] zSH zKn bc bs I L := by
  unfold f_X1_meetSide_78 at h
  refine z_iload C 3 rfl dX1_meetSide_78 ?_
  refine z_iload C 2 rfl dX1_meetSide_80 ?_
  refine z_icmp_ge C 102 (by decide) dX1_meetSide_82 (fun hc => ?_) (fun hc => ?_)
  · have h := zif_t hc h
    obtain rfl := Option.some.inj h
    exact z_vret C dX1_meetSide_102 rfl rfl
  · have h := zif_f hc h
    refine z_aload_n C rfl 0 rfl dX1_meetSide_85 ?_
    refine z_getr C zc_1 dX1_meetSide_86 4 20 25 rfl (by decide) (by decide) q_274 rfl rfl ?_
    refine z_iload C 3 rfl dX1_meetSide_89 ?_
    refine z_dup2_11 C rfl rfl dX1_meetSide_91 ?_
    obtain ⟨hb12, h⟩ := zck_e h
    refine z_laload C dX1_meetSide_92 rfl rfl (by decide) (zbd_in hb12) ?_
    refine z_lload_n C rfl 1 rfl dX1_meetSide_93 ?_
    refine z_lxor C dX1_meetSide_94 ?_
    obtain ⟨x13, ex13, h⟩ := zlt_e h
    refine z_eql C ex13 ?_
    obtain ⟨hb14, h⟩ := zck_e h
    refine z_lastore C dX1_meetSide_95 rfl rfl (by decide) (zbd_in hb14) ?_
    obtain ⟨L15, eL15, h⟩ := zlt_e h
    refine z_eqL C eL15 ?_
    obtain ⟨x16, ex16, h⟩ := zlt_e h
    refine z_iinc C (j := 3) (v := x16) (lv' := [(6, .int x16), (0, .ref (B0 + 20)), (3, .long v3), (5, .int v5)]) rfl (by rw [ex16]; rfl) (by decide) rfl dX1_meetSide_96 ?_
    refine z_goto C 78 (by decide) dX1_meetSide_99 ?_
    refine z_lv [1, 2, 3, 0] (lv' := [(0, .ref (B0 + 20)), (3, .long v3), (5, .int v5), (6, .int x16)]) rfl ?_
    exact hk78 v3 v5 x16 I L15 h
set_option maxHeartbeats 4000000 in
set_option maxRecDepth 100000 in
theorem L_X1_meetSide_78 {r : zL} (C : zC p l e R s m args below meth c s0 a0 d cy B0 yX1_meetSide.cls cX1_meetSide 7 none bc bs bc bs 1 40 []) (v3 : Int64) (v5 : Int32) (v6 : Int32) (I : zI) (L : zL) (h : zlp5 (f_X1_meetSide_78) zF v3 v5 v6 I L = some r) : zG p l e R s m args below meth c d cy B0 7 bc bs (zQ below s args d cy B0 bc bs (.inl none) zSH zKn bc bs I r) 78 [(0, .ref (B0 + 20)), (3, .long v3), (5, .int v5), (6, .int v6)] [] zSH zKn bc bs I L :=
 zlp5_e (fun (v3 : Int64) (v5 : Int32) (v6 : Int32) (I : zI) (L : zL) => zG p l e R s m args below meth c d cy B0 7 bc bs (zQ below s args d cy B0 bc bs (.inl none) zSH zKn bc bs I r) 78 [(0, .ref (B0 + 20)), (3, .long v3), (5, .int v5), (6, .int v6)] [] zSH zKn bc bs I L) (fun k9 hk9 v3 v5 v6 I L h => l_X1_meetSide_78 C k9 hk9 v3 v5 v6 I L h) zF v3 v5 v6 I L h
set_option maxHeartbeats 4000000 in
set_option maxRecDepth 100000 in
theorem l_X1_meetSide_43 {r : zL} (C : zC p l e R s m args below meth c s0 a0 d cy B0 yX1_meetSide.cls cX1_meetSide 7 none bc bs bc bs 1 40 []) (v1 : Int32) (v2 : Int32) (w0 : Int64) (I : zI) (L : zL) (h : f_X1_meetSide_43 v1 v2 w0 I L = some r) : zG p l e R s m args below meth c d cy B0 7 bc bs (zQ below s args d cy B0 bc bs (.inl none) zSH zKn bc bs I r) 43 [(0, .ref (B0 + 20)), (1, .int v1), (2, .int v2)] [.long w0] zSH zKn bc bs I L := by
  unfold f_X1_meetSide_43 at h
  refine z_lstore_n C (lv' := [(3, .long w0), (0, .ref (B0 + 20)), (1, .int v1), (2, .int v2)]) rfl (by decide) rfl dX1_meetSide_43 ?_
  refine z_aload_n C rfl 1 rfl dX1_meetSide_44 ?_
  refine z_getr C zc_1 dX1_meetSide_45 3 20 24 rfl (by decide) (by decide) q_273 rfl rfl ?_
  refine z_iload_n C rfl 2 rfl dX1_meetSide_48 ?_
  obtain ⟨hb6, h⟩ := zck_e h
  refine z_iaload C dX1_meetSide_49 rfl rfl (by decide) (zbd_in hb6) ?_
  refine z_aload_n C rfl 1 rfl dX1_meetSide_50 ?_
  refine z_getr C zc_1 dX1_meetSide_51 3 20 24 rfl (by decide) (by decide) q_273 rfl rfl ?_
  refine z_iload_n C rfl 3 rfl dX1_meetSide_54 ?_
  obtain ⟨hb7, h⟩ := zck_e h
  refine z_iaload C dX1_meetSide_55 rfl rfl (by decide) (zbd_in hb7) ?_
  refine z_mmax C dX1_meetSide_56 q_897 q_116 q_76 q_117 (by decide) (Nat.le_of_ble_eq_true rfl) ⟨Nat.le_refl _, Nat.le_refl _⟩ ?_
  obtain ⟨x8, ex8, h⟩ := zlt_e h
  refine z_eqi C ex8 ?_
  refine z_istore C (lv' := [(5, .int x8), (3, .long w0), (0, .ref (B0 + 20)), (1, .int v1), (2, .int v2)]) (by decide) rfl dX1_meetSide_59 ?_
  refine z_aload_n C rfl 2 rfl dX1_meetSide_61 ?_
  refine z_getr C zc_1 dX1_meetSide_62 3 20 24 rfl (by decide) (by decide) q_273 rfl rfl ?_
  refine z_iload_n C rfl 3 rfl dX1_meetSide_65 ?_
  obtain ⟨hb9, h⟩ := zck_e h
  refine z_iaload C dX1_meetSide_66 rfl rfl (by decide) (zbd_in hb9) ?_
  refine z_aload_n C rfl 2 rfl dX1_meetSide_67 ?_
  refine z_getr C zc_1 dX1_meetSide_68 3 20 24 rfl (by decide) (by decide) q_273 rfl rfl ?_
  refine z_iload_n C rfl 4 rfl dX1_meetSide_71 ?_
  obtain ⟨hb10, h⟩ := zck_e h
  refine z_iaload C dX1_meetSide_72 rfl rfl (by decide) (zbd_in hb10) ?_
  refine z_mmin C dX1_meetSide_73 q_898 q_113 q_76 q_114 (by decide) (Nat.le_of_ble_eq_true rfl) ⟨Nat.le_refl _, Nat.le_refl _⟩ ?_
  obtain ⟨x11, ex11, h⟩ := zlt_e h
  refine z_eqi C ex11 ?_
  refine z_istore C (lv' := [(6, .int x11), (5, .int x8), (3, .long w0), (0, .ref (B0 + 20)), (1, .int v1), (2, .int v2)]) (by decide) rfl dX1_meetSide_76 ?_
  refine z_lv [3, 2, 1, 0] (lv' := [(0, .ref (B0 + 20)), (3, .long w0), (5, .int x8), (6, .int x11)]) rfl ?_
  exact L_X1_meetSide_78 C  w0 x8 x11 I L h
set_option maxHeartbeats 4000000 in
set_option maxRecDepth 100000 in
theorem c_X1_meetSide {r : zL} (hE : zE0 l s0 a0 d cy B0) (a1 : Int32) (a2 : Int32) (I : zI) (L : zL) (h : f_X1_meetSide a1 a2 I L = some r) : zM l s0 d cy B0 yX1_meetSide cX1_meetSide 7 none 1 40 [.ref (B0 + 20), .int a1, .int a2] zSH zKn bc bs I L (.inl none) zSH zKn bc bs I r := by
  refine z_meth yy_X1_meetSide hE (Nat.le_of_ble_eq_true rfl) (fun p e R s m args below meth c C => ?_)
  show zG p l e R s m args below meth c d cy B0 7 bc bs (zQ below s args d cy B0 bc bs (.inl none) zSH zKn bc bs I r) 0 [(0, .ref (B0 + 20)), (1, .int a1), (2, .int a2)] [] zSH zKn bc bs I L
  unfold f_X1_meetSide at h
  refine z_aload_n C rfl 0 rfl dX1_meetSide_0 ?_
  refine z_getr C zc_1 dX1_meetSide_1 2 20 23 rfl (by decide) (by decide) q_272 rfl rfl ?_
  refine z_iload_n C rfl 1 rfl dX1_meetSide_4 ?_
  obtain ⟨hb1, h⟩ := zck_e h
  refine z_iaload C dX1_meetSide_5 rfl rfl (by decide) (zbd_in hb1) ?_
  refine z_aload_n C rfl 0 rfl dX1_meetSide_6 ?_
  refine z_getr C zc_1 dX1_meetSide_7 2 20 23 rfl (by decide) (by decide) q_272 rfl rfl ?_
  refine z_iload_n C rfl 2 rfl dX1_meetSide_10 ?_
  obtain ⟨hb2, h⟩ := zck_e h
  refine z_iaload C dX1_meetSide_11 rfl rfl (by decide) (zbd_in hb2) ?_
  refine z_icmp_eq C 16 (by decide) dX1_meetSide_12 (fun hc => ?_) (fun hc => ?_)
  · have h := zif_t hc h
    refine z_aload_n C rfl 0 rfl dX1_meetSide_16 ?_
    refine z_getr C zc_1 dX1_meetSide_17 2 20 23 rfl (by decide) (by decide) q_272 rfl rfl ?_
    refine z_iload_n C rfl 1 rfl dX1_meetSide_20 ?_
    obtain ⟨hb3, h⟩ := zck_e h
    refine z_iaload C dX1_meetSide_21 rfl rfl (by decide) (zbd_in hb3) ?_
    refine z_bipush C (v := 64) (by decide) dX1_meetSide_22 ?_
    refine z_icmp_lt C 33 (by decide) dX1_meetSide_24 (fun hc => ?_) (fun hc => ?_)
    · have h := zif_t hc h
      refine z_lconst C (v := 1) (by decide) dX1_meetSide_33 ?_
      refine z_aload_n C rfl 0 rfl dX1_meetSide_34 ?_
      refine z_getr C zc_1 dX1_meetSide_35 2 20 23 rfl (by decide) (by decide) q_272 rfl rfl ?_
      refine z_iload_n C rfl 1 rfl dX1_meetSide_38 ?_
      obtain ⟨hb4, h⟩ := zck_e h
      refine z_iaload C dX1_meetSide_39 rfl rfl (by decide) (zbd_in hb4) ?_
      refine z_lshl C dX1_meetSide_40 ?_
      obtain ⟨x5, ex5, h⟩ := zlt_e h
      refine z_eql C ex5 ?_
      refine z_lconst C (v := 1) (by decide) dX1_meetSide_41 ?_
      refine z_lsub C dX1_meetSide_42 ?_
      exact l_X1_meetSide_43 C  a1 a2 (x5 - (1 : Int64)) I L h
    · have h := zif_f hc h
      refine z_ldc2 C dX1_meetSide_27 q_896 ?_
      refine z_goto C 43 (by decide) dX1_meetSide_30 ?_
      exact l_X1_meetSide_43 C  a1 a2 (-1 : Int64) I L h
  · have h := zif_f hc h
    obtain rfl := Option.some.inj h
    exact z_vret C dX1_meetSide_15 rfl rfl
end Zp05_04_walk
