section Zp05_19_walk
variable {p : Program} {l : Launch} {e : Env} {R : Room} {s : State} {m : MethodId} {args : Array Value} {below : List Frame} {meth : Method} {c : Code} {s0 : State} {a0 : Array Value} {d : va_G} {cy : Nat → ClassId} {B0 : Nat} {bc bs : Nat}
theorem q_1223 : (Cond.fieldLink "DeviceFindModel" (110 : Nat) "DeviceFindModel" "row" "[I") ∈ lw_tbl := List.mem_of_getElem? (i := 1223) (by decide +kernel)
theorem q_1472 : (Cond.code ({ cls := "DeviceFindModel", name := "flood", desc := "(III)V" } : Jvm.MethodName) prog_14_method_33_code (9 : Nat) (Option.none : Option Jvm.ClassFile.FieldType)) ∈ lw_tbl := List.mem_of_getElem? (i := 1472) (by decide +kernel)
theorem q_1473 : (Cond.methodLink "DeviceFindModel" (259 : Nat) ({ cls := "DeviceFindModel", name := "beside", desc := "(II)I" } : Jvm.MethodName)) ∈ lw_tbl := List.mem_of_getElem? (i := 1473) (by decide +kernel)
theorem q_1474 : (Cond.static ({ cls := "DeviceFindModel", name := "beside", desc := "(II)I" } : Jvm.MethodName)) ∈ lw_tbl := List.mem_of_getElem? (i := 1474) (by decide +kernel)
theorem yy_X12_flood : zY yX12_flood cX12_flood 9 none 3 := ⟨q_1472, q_88, by decide +kernel, by decide +kernel, by decide +kernel⟩
noncomputable def f_X12_flood_116 (k30 : Int32 → Int32 → Int32 → Int32 → zI → Option zI) (k40 : Int32 → Int32 → Int32 → Int32 → Int32 → zI → Option zI) (v3 : Int32) (v4 : Int32) (v5 : Int32) (v6 : Int32) (v7 : Int32) (I : zI) : Option zI :=
  zlt (v7 + 1) (fun x19 => k40 v3 v4 v5 v6 x19 I)
noncomputable def f_X12_flood_40 (k30 : Int32 → Int32 → Int32 → Int32 → zI → Option zI) (k40 : Int32 → Int32 → Int32 → Int32 → Int32 → zI → Option zI) (v3 : Int32) (v4 : Int32) (v5 : Int32) (v6 : Int32) (v7 : Int32) (I : zI) : Option zI :=
  if (4 : Int32) ≤ v7 then (zlt (v6 + 1) (fun x6 => k30 v3 v4 v5 x6 I)) else (zck (zbd v6 4096) (zb1 (f_X12_beside (I 130 v6.toNatClampNeg) v7) (fun x9 => if x9 = (-1 : Int32) then (f_X12_flood_116 k30 k40 v3 v4 v5 v6 v7 I) else (zlt (v4 + x9) (fun x10 => zck (zbd x10 98304) (if (I 118 x10.toNatClampNeg) = 0 then (f_X12_flood_116 k30 k40 v3 v4 v5 v6 v7 I) else (zlt (v4 + x9) (fun x12 => zck (zbd x12 98304) (if (I 119 x12.toNatClampNeg) = (-1 : Int32) then (zck (zbd (v4 + x9) 98304) (zlt (zu I 119 (v4 + x9).toNatClampNeg v3) (fun I15 => zck (zbd v5 4096) (zlt (zu I15 130 v5.toNatClampNeg x9) (fun I17 => zlt (v5 + 1) (fun x18 => f_X12_flood_116 k30 k40 v3 v4 x18 v6 v7 I17)))))) else (f_X12_flood_116 k30 k40 v3 v4 v5 v6 v7 I))))))))))
noncomputable def f_X12_flood_30 (k30 : Int32 → Int32 → Int32 → Int32 → zI → Option zI) (v3 : Int32) (v4 : Int32) (v5 : Int32) (v6 : Int32) (I : zI) : Option zI :=
  if v5 ≤ v6 then (some I) else (zlp6 (f_X12_flood_40 k30) zF v3 v4 v5 v6 (0 : Int32) I)
noncomputable def f_X12_flood (a1 : Int32) (a2 : Int32) (a3 : Int32) (I : zI) : Option zI :=
  zlt ((4096 : Int32) * a1) (fun x1 => zck (zbd (0 : Int32) 4096) (zlt (zu I 130 (0 : Int32).toNatClampNeg a2) (fun I3 => zck (zbd (x1 + a2) 98304) (zlt (zu I3 119 (x1 + a2).toNatClampNeg a3) (fun I5 => zlp5 (f_X12_flood_30) zF a3 x1 (1 : Int32) (0 : Int32) I5)))))
set_option maxHeartbeats 4000000 in
set_option maxRecDepth 100000 in
theorem l_X12_flood_116 {r : zI} (C : zC p l e R s m args below meth c s0 a0 d cy B0 yX12_flood.cls cX12_flood 9 none bc bs bc bs 2 46 []) (L : zL) (k30 : Int32 → Int32 → Int32 → Int32 → zI → Option zI) (hk30 : ∀ (v3 : Int32) (v4 : Int32) (v5 : Int32) (v6 : Int32) (I : zI), k30 v3 v4 v5 v6 I = some r → zG p l e R s m args below meth c d cy B0 9 bc bs (zQ below s args d cy B0 bc bs (.inl none) zSH zKn bc bs r L) 30 [(0, .ref (B0 + 97)), (3, .int v3), (4, .int v4), (5, .int v5), (6, .int v6)] [] zSH zKn bc bs I L) (k40 : Int32 → Int32 → Int32 → Int32 → Int32 → zI → Option zI) (hk40 : ∀ (v3 : Int32) (v4 : Int32) (v5 : Int32) (v6 : Int32) (v7 : Int32) (I : zI), k40 v3 v4 v5 v6 v7 I = some r → zG p l e R s m args below meth c d cy B0 9 bc bs (zQ below s args d cy B0 bc bs (.inl none) zSH zKn bc bs r L) 40 [(0, .ref (B0 + 97)), (3, .int v3), (4, .int v4), (5, .int v5), (6, .int v6), (7, .int v7)] [] zSH zKn bc bs I L) (v3 : Int32) (v4 : Int32) (v5 : Int32) (v6 : Int32) (v7 : Int32) (I : zI) (h : f_X12_flood_116 k30 k40 v3 v4 v5 v6 v7 I = some r) : zG p l e R s m args below meth c d cy B0 9 bc bs (zQ below s args d cy B0 bc bs (.inl none) zSH zKn bc bs r L) 116 [(0, .ref (B0 + 97)), (3, .int v3), (4, .int v4), (5, .int v5), (6, .int v6), (7, .int v7)] [] zSH zKn bc bs I L := by
  unfold f_X12_flood_116 at h
  obtain ⟨x19, ex19, h⟩ := zlt_e h
  refine z_iinc C (j := 5) (v := x19) (lv' := [(7, .int x19), (0, .ref (B0 + 97)), (3, .int v3), (4, .int v4), (5, .int v5), (6, .int v6)]) rfl (by rw [ex19]; rfl) (by decide) rfl dX12_flood_116 ?_
  refine z_goto C 40 (by decide) dX12_flood_119 ?_
  refine z_lv [1, 2, 3, 4, 5, 0] (lv' := [(0, .ref (B0 + 97)), (3, .int v3), (4, .int v4), (5, .int v5), (6, .int v6), (7, .int x19)]) rfl ?_
  exact hk40 v3 v4 v5 v6 x19 I h
set_option maxHeartbeats 4000000 in
set_option maxRecDepth 100000 in
theorem l_X12_flood_40 {r : zI} (C : zC p l e R s m args below meth c s0 a0 d cy B0 yX12_flood.cls cX12_flood 9 none bc bs bc bs 2 46 []) (L : zL) (k30 : Int32 → Int32 → Int32 → Int32 → zI → Option zI) (hk30 : ∀ (v3 : Int32) (v4 : Int32) (v5 : Int32) (v6 : Int32) (I : zI), k30 v3 v4 v5 v6 I = some r → zG p l e R s m args below meth c d cy B0 9 bc bs (zQ below s args d cy B0 bc bs (.inl none) zSH zKn bc bs r L) 30 [(0, .ref (B0 + 97)), (3, .int v3), (4, .int v4), (5, .int v5), (6, .int v6)] [] zSH zKn bc bs I L) (k40 : Int32 → Int32 → Int32 → Int32 → Int32 → zI → Option zI) (hk40 : ∀ (v3 : Int32) (v4 : Int32) (v5 : Int32) (v6 : Int32) (v7 : Int32) (I : zI), k40 v3 v4 v5 v6 v7 I = some r → zG p l e R s m args below meth c d cy B0 9 bc bs (zQ below s args d cy B0 bc bs (.inl none) zSH zKn bc bs r L) 40 [(0, .ref (B0 + 97)), (3, .int v3), (4, .int v4), (5, .int v5), (6, .int v6), (7, .int v7)] [] zSH zKn bc bs I L) (v3 : Int32) (v4 : Int32) (v5 : Int32) (v6 : Int32) (v7 : Int32) (I : zI) (h : f_X12_flood_40 k30 k40 v3 v4 v5 v6 v7 I = some r) : zG p l e R s m args below meth c d cy B0 9 bc bs (zQ below s args d cy B0 bc bs (.inl none) zSH zKn bc bs r L) 40 [(0, .ref (B0 + 97)), (3, .int v3), (4, .int v4), (5, .int v5), (6, .int v6), (7, .int v7)] [] zSH zKn bc bs I L := by
  unfold f_X12_flood_40 at h
  refine z_iload C 5 rfl dX12_flood_40 ?_
  refine z_iconst C (v := 4) (by decide) dX12_flood_42 ?_
  refine z_icmp_ge C 122 (by decide) dX12_flood_43 (fun hc => ?_) (fun hc => ?_)
  · have h := zif_t hc h
    obtain ⟨x6, ex6, h⟩ := zlt_e h
    refine z_iinc C (j := 4) (v := x6) (lv' := [(6, .int x6), (0, .ref (B0 + 97)), (3, .int v3), (4, .int v4), (5, .int v5), (7, .int v7)]) rfl (by rw [ex6]; rfl) (by decide) rfl dX12_flood_122 ?_
    refine z_goto C 30 (by decide) dX12_flood_125 ?_
    refine z_lv [1, 2, 3, 4, 0] (lv' := [(0, .ref (B0 + 97)), (3, .int v3), (4, .int v4), (5, .int v5), (6, .int x6)]) rfl ?_
    exact hk30 v3 v4 v5 x6 I h
  · have h := zif_f hc h
    refine z_aload_n C rfl 0 rfl dX12_flood_46 ?_
    refine z_getr C zc_12 dX12_flood_47 54 97 130 rfl (by decide) (by decide) q_1223 rfl rfl ?_
    refine z_iload C 4 rfl dX12_flood_50 ?_
    obtain ⟨hb7, h⟩ := zck_e h
    refine z_iaload C dX12_flood_52 rfl rfl (by decide) (zbd_in hb7) ?_
    refine z_iload C 5 rfl dX12_flood_53 ?_
    obtain ⟨x9, hg8, h⟩ := zb1_e h
    refine z_callS C dX12_flood_55 yy_X12_beside (c_X12_beside C.2.2.2.2.1  (I 130 v6.toNatClampNeg) v7 I L hg8) q_1473 q_1474 (by decide) (by decide) rfl rfl (Nat.le_of_ble_eq_true rfl) ⟨Nat.le_refl _, Nat.le_refl _, Nat.le_refl _, Nat.le_refl _⟩ ?_
    refine z_istore C (lv' := [(8, .int x9), (0, .ref (B0 + 97)), (3, .int v3), (4, .int v4), (5, .int v5), (6, .int v6), (7, .int v7)]) (by decide) rfl dX12_flood_58 ?_
    refine z_iload C 0 rfl dX12_flood_60 ?_
    refine z_iconst C (v := -1) (by decide) dX12_flood_62 ?_
    refine z_icmp_eq C 116 (by decide) dX12_flood_63 (fun hc => ?_) (fun hc => ?_)
    · have h := zif_t hc h
      refine z_lv [1, 2, 3, 4, 5, 6] (lv' := [(0, .ref (B0 + 97)), (3, .int v3), (4, .int v4), (5, .int v5), (6, .int v6), (7, .int v7)]) rfl ?_
      exact l_X12_flood_116 C L k30 hk30 k40 hk40 v3 v4 v5 v6 v7 I h
    · have h := zif_f hc h
      refine z_aload_n C rfl 1 rfl dX12_flood_66 ?_
      refine z_getr C zc_12 dX12_flood_67 31 97 118 rfl (by decide) (by decide) q_1200 rfl rfl ?_
      refine z_iload C 3 rfl dX12_flood_70 ?_
      refine z_iload C 0 rfl dX12_flood_72 ?_
      refine z_iadd C dX12_flood_74 ?_
      obtain ⟨x10, ex10, h⟩ := zlt_e h
      refine z_eqi C ex10 ?_
      obtain ⟨hb11, h⟩ := zck_e h
      refine z_zaload C dX12_flood_75 rfl rfl (by decide) (zbd_in hb11) ?_
      refine z_if_eq C 116 (by decide) dX12_flood_76 (fun hc => ?_) (fun hc => ?_)
      · have h := zif_t hc h
        refine z_lv [1, 2, 3, 4, 5, 6] (lv' := [(0, .ref (B0 + 97)), (3, .int v3), (4, .int v4), (5, .int v5), (6, .int v6), (7, .int v7)]) rfl ?_
        exact l_X12_flood_116 C L k30 hk30 k40 hk40 v3 v4 v5 v6 v7 I h
      · have h := zif_f hc h
        refine z_aload_n C rfl 1 rfl dX12_flood_79 ?_
        refine z_getr C zc_12 dX12_flood_80 32 97 119 rfl (by decide) (by decide) q_1201 rfl rfl ?_
        refine z_iload C 3 rfl dX12_flood_83 ?_
        refine z_iload C 0 rfl dX12_flood_85 ?_
        refine z_iadd C dX12_flood_87 ?_
        obtain ⟨x12, ex12, h⟩ := zlt_e h
        refine z_eqi C ex12 ?_
        obtain ⟨hb13, h⟩ := zck_e h
        refine z_iaload C dX12_flood_88 rfl rfl (by decide) (zbd_in hb13) ?_
        refine z_iconst C (v := -1) (by decide) dX12_flood_89 ?_
        refine z_icmp_ne C 116 (by decide) dX12_flood_90 (fun hc => ?_) (fun hc => ?_)
        · have h := zif_f hc h
          refine z_lv [1, 2, 3, 4, 5, 6] (lv' := [(0, .ref (B0 + 97)), (3, .int v3), (4, .int v4), (5, .int v5), (6, .int v6), (7, .int v7)]) rfl ?_
          exact l_X12_flood_116 C L k30 hk30 k40 hk40 v3 v4 v5 v6 v7 I h
        · have h := zif_t hc h
          refine z_aload_n C rfl 1 rfl dX12_flood_93 ?_
          refine z_getr C zc_12 dX12_flood_94 32 97 119 rfl (by decide) (by decide) q_1201 rfl rfl ?_
          refine z_iload C 3 rfl dX12_flood_97 ?_
          refine z_iload C 0 rfl dX12_flood_99 ?_
          refine z_iadd C dX12_flood_101 ?_
          refine z_iload_n C rfl 2 rfl dX12_flood_102 ?_
          obtain ⟨hb14, h⟩ := zck_e h
          refine z_iastore C dX12_flood_103 rfl rfl (by decide) (zbd_in hb14) ?_
          obtain ⟨I15, eI15, h⟩ := zlt_e h
          refine z_eqI C eI15 ?_
          refine z_aload_n C rfl 1 rfl dX12_flood_104 ?_
          refine z_getr C zc_12 dX12_flood_105 54 97 130 rfl (by decide) (by decide) q_1223 rfl rfl ?_
          refine z_iload C 4 rfl dX12_flood_108 ?_
          refine z_iload C 0 rfl dX12_flood_110 ?_
          obtain ⟨hb16, h⟩ := zck_e h
          refine z_iastore C dX12_flood_112 rfl rfl (by decide) (zbd_in hb16) ?_
          obtain ⟨I17, eI17, h⟩ := zlt_e h
          refine z_eqI C eI17 ?_
          obtain ⟨x18, ex18, h⟩ := zlt_e h
          refine z_iinc C (j := 4) (v := x18) (lv' := [(5, .int x18), (8, .int x9), (0, .ref (B0 + 97)), (3, .int v3), (4, .int v4), (6, .int v6), (7, .int v7)]) rfl (by rw [ex18]; rfl) (by decide) rfl dX12_flood_113 ?_
          refine z_lv [2, 3, 4, 0, 5, 6] (lv' := [(0, .ref (B0 + 97)), (3, .int v3), (4, .int v4), (5, .int x18), (6, .int v6), (7, .int v7)]) rfl ?_
          exact l_X12_flood_116 C L k30 hk30 k40 hk40 v3 v4 x18 v6 v7 I17 h
set_option maxHeartbeats 4000000 in
set_option maxRecDepth 100000 in
theorem L_X12_flood_40 {r : zI} (C : zC p l e R s m args below meth c s0 a0 d cy B0 yX12_flood.cls cX12_flood 9 none bc bs bc bs 2 46 []) (L : zL) (k30 : Int32 → Int32 → Int32 → Int32 → zI → Option zI) (hk30 : ∀ (v3 : Int32) (v4 : Int32) (v5 : Int32) (v6 : Int32) (I : zI), k30 v3 v4 v5 v6 I = some r → zG p l e R s m args below meth c d cy B0 9 bc bs (zQ below s args d cy B0 bc bs (.inl none) zSH zKn bc bs r L) 30 [(0, .ref (B0 + 97)), (3, .int v3), (4, .int v4), (5, .int v5), (6, .int v6)] [] zSH zKn bc bs I L) (v3 : Int32) (v4 : Int32) (v5 : Int32) (v6 : Int32) (v7 : Int32) (I : zI) (h : zlp6 (f_X12_flood_40 k30) zF v3 v4 v5 v6 v7 I = some r) : zG p l e R s m args below meth c d cy B0 9 bc bs (zQ below s args d cy B0 bc bs (.inl none) zSH zKn bc bs r L) 40 [(0, .ref (B0 + 97)), (3, .int v3), (4, .int v4), (5, .int v5), (6, .int v6), (7, .int v7)] [] zSH zKn bc bs I L :=
 zlp6_e (fun (v3 : Int32) (v4 : Int32) (v5 : Int32) (v6 : Int32) (v7 : Int32) (I : zI) => zG p l e R s m args below meth c d cy B0 9 bc bs (zQ below s args d cy B0 bc bs (.inl none) zSH zKn bc bs r L) 40 [(0, .ref (B0 + 97)), (3, .int v3), (4, .int v4), (5, .int v5), (6, .int v6), (7, .int v7)] [] zSH zKn bc bs I L) (fun k9 hk9 v3 v4 v5 v6 v7 I h => l_X12_flood_40 C L k30 hk30 k9 hk9 v3 v4 v5 v6 v7 I h) zF v3 v4 v5 v6 v7 I h
set_option maxHeartbeats 4000000 in
set_option maxRecDepth 100000 in
theorem l_X12_flood_30 {r : zI} (C : zC p l e R s m args below meth c s0 a0 d cy B0 yX12_flood.cls cX12_flood 9 none bc bs bc bs 2 46 []) (L : zL) (k30 : Int32 → Int32 → Int32 → Int32 → zI → Option zI) (hk30 : ∀ (v3 : Int32) (v4 : Int32) (v5 : Int32) (v6 : Int32) (I : zI), k30 v3 v4 v5 v6 I = some r → zG p l e R s m args below meth c d cy B0 9 bc bs (zQ below s args d cy B0 bc bs (.inl none) zSH zKn bc bs r L) 30 [(0, .ref (B0 + 97)), (3, .int v3), (4, .int v4), (5, .int v5), (6, .int v6)] [] zSH zKn bc bs I L) (v3 : Int32) (v4 : Int32) (v5 : Int32) (v6 : Int32) (I : zI) (h : f_X12_flood_30 k30 v3 v4 v5 v6 I = some r) : zG p l e R s m args below meth c d cy B0 9 bc bs (zQ below s args d cy B0 bc bs (.inl none) zSH zKn bc bs r L) 30 [(0, .ref (B0 + 97)), (3, .int v3), (4, .int v4), (5, .int v5), (6, .int v6)] [] zSH zKn bc bs I L := by
  unfold f_X12_flood_30 at h
  refine z_iload C 4 rfl dX12_flood_30 ?_
  refine z_iload C 3 rfl dX12_flood_32 ?_
  refine z_icmp_ge C 128 (by decide) dX12_flood_34 (fun hc => ?_) (fun hc => ?_)
  · have h := zif_t hc h
    obtain rfl := Option.some.inj h
    exact z_vret C dX12_flood_128 rfl rfl
  · have h := zif_f hc h
    refine z_iconst C (v := 0) (by decide) dX12_flood_37 ?_
    refine z_istore C (lv' := [(7, .int (0 : Int32)), (0, .ref (B0 + 97)), (3, .int v3), (4, .int v4), (5, .int v5), (6, .int v6)]) (by decide) rfl dX12_flood_38 ?_
    refine z_lv [1, 2, 3, 4, 5, 0] (lv' := [(0, .ref (B0 + 97)), (3, .int v3), (4, .int v4), (5, .int v5), (6, .int v6), (7, .int (0 : Int32))]) rfl ?_
    exact L_X12_flood_40 C L k30 hk30 v3 v4 v5 v6 (0 : Int32) I h
set_option maxHeartbeats 4000000 in
set_option maxRecDepth 100000 in
theorem L_X12_flood_30 {r : zI} (C : zC p l e R s m args below meth c s0 a0 d cy B0 yX12_flood.cls cX12_flood 9 none bc bs bc bs 2 46 []) (L : zL) (v3 : Int32) (v4 : Int32) (v5 : Int32) (v6 : Int32) (I : zI) (h : zlp5 (f_X12_flood_30) zF v3 v4 v5 v6 I = some r) : zG p l e R s m args below meth c d cy B0 9 bc bs (zQ below s args d cy B0 bc bs (.inl none) zSH zKn bc bs r L) 30 [(0, .ref (B0 + 97)), (3, .int v3), (4, .int v4), (5, .int v5), (6, .int v6)] [] zSH zKn bc bs I L :=
 zlp5_e (fun (v3 : Int32) (v4 : Int32) (v5 : Int32) (v6 : Int32) (I : zI) => zG p l e R s m args below meth c d cy B0 9 bc bs (zQ below s args d cy B0 bc bs (.inl none) zSH zKn bc bs r L) 30 [(0, .ref (B0 + 97)), (3, .int v3), (4, .int v4), (5, .int v5), (6, .int v6)] [] zSH zKn bc bs I L) (fun k9 hk9 v3 v4 v5 v6 I h => l_X12_flood_30 C L k9 hk9 v3 v4 v5 v6 I h) zF v3 v4 v5 v6 I h
set_option maxHeartbeats 4000000 in
set_option maxRecDepth 100000 in
theorem c_X12_flood {r : zI} (hE : zE0 l s0 a0 d cy B0) (a1 : Int32) (a2 : Int32) (a3 : Int32) (I : zI) (L : zL) (h : f_X12_flood a1 a2 a3 I = some r) : zM l s0 d cy B0 yX12_flood cX12_flood 9 none 2 46 [.ref (B0 + 97), .int a1, .int a2, .int a3] zSH zKn bc bs I L (.inl none) zSH zKn bc bs r L := by
  refine z_meth yy_X12_flood hE (Nat.le_of_ble_eq_true rfl) (fun p e R s m args below meth c C => ?_)
  show zG p l e R s m args below meth c d cy B0 9 bc bs (zQ below s args d cy B0 bc bs (.inl none) zSH zKn bc bs r L) 0 [(0, .ref (B0 + 97)), (1, .int a1), (2, .int a2), (3, .int a3)] [] zSH zKn bc bs I L
  unfold f_X12_flood at h
  refine z_sipush C (v := 4096) (by decide) dX12_flood_0 ?_
  refine z_iload_n C rfl 1 rfl dX12_flood_3 ?_
  refine z_imul C dX12_flood_4 ?_
  obtain ⟨x1, ex1, h⟩ := zlt_e h
  refine z_eqi C ex1 ?_
  refine z_istore C (lv' := [(4, .int x1), (0, .ref (B0 + 97)), (1, .int a1), (2, .int a2), (3, .int a3)]) (by decide) rfl dX12_flood_5 ?_
  refine z_iconst C (v := 1) (by decide) dX12_flood_7 ?_
  refine z_istore C (lv' := [(5, .int (1 : Int32)), (4, .int x1), (0, .ref (B0 + 97)), (1, .int a1), (2, .int a2), (3, .int a3)]) (by decide) rfl dX12_flood_8 ?_
  refine z_aload_n C rfl 2 rfl dX12_flood_10 ?_
  refine z_getr C zc_12 dX12_flood_11 54 97 130 rfl (by decide) (by decide) q_1223 rfl rfl ?_
  refine z_iconst C (v := 0) (by decide) dX12_flood_14 ?_
  refine z_iload_n C rfl 4 rfl dX12_flood_15 ?_
  obtain ⟨hb2, h⟩ := zck_e h
  refine z_iastore C dX12_flood_16 rfl rfl (by decide) (zbd_in hb2) ?_
  obtain ⟨I3, eI3, h⟩ := zlt_e h
  refine z_eqI C eI3 ?_
  refine z_aload_n C rfl 2 rfl dX12_flood_17 ?_
  refine z_getr C zc_12 dX12_flood_18 32 97 119 rfl (by decide) (by decide) q_1201 rfl rfl ?_
  refine z_iload C 1 rfl dX12_flood_21 ?_
  refine z_iload_n C rfl 4 rfl dX12_flood_23 ?_
  refine z_iadd C dX12_flood_24 ?_
  refine z_iload_n C rfl 5 rfl dX12_flood_25 ?_
  obtain ⟨hb4, h⟩ := zck_e h
  refine z_iastore C dX12_flood_26 rfl rfl (by decide) (zbd_in hb4) ?_
  obtain ⟨I5, eI5, h⟩ := zlt_e h
  refine z_eqI C eI5 ?_
  refine z_iconst C (v := 0) (by decide) dX12_flood_27 ?_
  refine z_istore C (lv' := [(6, .int (0 : Int32)), (5, .int (1 : Int32)), (4, .int x1), (0, .ref (B0 + 97)), (1, .int a1), (2, .int a2), (3, .int a3)]) (by decide) rfl dX12_flood_28 ?_
  refine z_lv [3, 6, 2, 1, 0] (lv' := [(0, .ref (B0 + 97)), (3, .int a3), (4, .int x1), (5, .int (1 : Int32)), (6, .int (0 : Int32))]) rfl ?_
  exact L_X12_flood_30 C L a3 x1 (1 : Int32) (0 : Int32) I5 h
theorem q_63 : Cond.selects "DeviceFindModel" ⟨"DeviceFindModel", "flood", "(III)V"⟩ ⟨"DeviceFindModel", "flood", "(III)V"⟩ ∈ lw_tbl := List.mem_of_getElem? (i := 63) (by decide +kernel)
theorem q_1202 : (Cond.fieldLink "DeviceFindModel" (79 : Nat) "DeviceFindModel" "shapes" "[I") ∈ lw_tbl := List.mem_of_getElem? (i := 1202) (by decide +kernel)
theorem q_1468 : (Cond.code ({ cls := "DeviceFindModel", name := "findShapes", desc := "(I)V" } : Jvm.MethodName) prog_14_method_34_code (3 : Nat) (Option.none : Option Jvm.ClassFile.FieldType)) ∈ lw_tbl := List.mem_of_getElem? (i := 1468) (by decide +kernel)
theorem q_1469 : (Cond.methodLink "DeviceFindModel" (263 : Nat) ({ cls := "DeviceFindModel", name := "flood", desc := "(III)V" } : Jvm.MethodName)) ∈ lw_tbl := List.mem_of_getElem? (i := 1469) (by decide +kernel)
theorem q_1471 : (Cond.instanceMethod ({ cls := "DeviceFindModel", name := "flood", desc := "(III)V" } : Jvm.MethodName)) ∈ lw_tbl := List.mem_of_getElem? (i := 1471) (by decide +kernel)
theorem yy_X12_findShapes : zY yX12_findShapes cX12_findShapes 3 none 1 := ⟨q_1468, q_88, by decide +kernel, by decide +kernel, by decide +kernel⟩
noncomputable def f_X12_findShapes_69 (k9 : Int32 → Int32 → zI → Option zI) (v1 : Int32) (v2 : Int32) (I : zI) : Option zI :=
  zlt (v2 + 1) (fun x14 => k9 v1 x14 I)
noncomputable def f_X12_findShapes_9 (k9 : Int32 → Int32 → zI → Option zI) (v1 : Int32) (v2 : Int32) (I : zI) : Option zI :=
  if (4096 : Int32) ≤ v2 then (some I) else (zlt (((4096 : Int32) * v1) + v2) (fun x3 => zck (zbd x3 98304) (if (I 118 x3.toNatClampNeg) = 0 then (f_X12_findShapes_69 k9 v1 v2 I) else (zlt (((4096 : Int32) * v1) + v2) (fun x5 => zck (zbd x5 98304) (if (I 119 x5.toNatClampNeg) = (-1 : Int32) then (zck (zbd v1 24) (zb1 (f_X12_flood v1 v2 (I 120 v1.toNatClampNeg) I) (fun I9 => zck (zbd v1 24) (zlt ((I9 120 v1.toNatClampNeg) + (1 : Int32)) (fun x11 => zck (zbd v1 24) (zlt (zu I9 120 v1.toNatClampNeg x11) (fun I13 => f_X12_findShapes_69 k9 v1 v2 I13))))))) else (f_X12_findShapes_69 k9 v1 v2 I)))))))
noncomputable def f_X12_findShapes (a1 : Int32) (I : zI) : Option zI :=
  zck (zbd a1 24) (zlt (zu I 120 a1.toNatClampNeg (0 : Int32)) (fun I2 => zlp3 (f_X12_findShapes_9) zF a1 (0 : Int32) I2))
set_option maxHeartbeats 4000000 in
set_option maxRecDepth 100000 in
theorem l_X12_findShapes_69 {r : zI} (C : zC p l e R s m args below meth c s0 a0 d cy B0 yX12_findShapes.cls cX12_findShapes 3 none bc bs bc bs 3 74 []) (L : zL) (k9 : Int32 → Int32 → zI → Option zI) (hk9 : ∀ (v1 : Int32) (v2 : Int32) (I : zI), k9 v1 v2 I = some r → zG p l e R s m args below meth c d cy B0 3 bc bs (zQ below s args d cy B0 bc bs (.inl none) zSH zKn bc bs r L) 9 [(0, .ref (B0 + 97)), (1, .int v1), (2, .int v2)] [] zSH zKn bc bs I L) (v1 : Int32) (v2 : Int32) (I : zI) (h : f_X12_findShapes_69 k9 v1 v2 I = some r) : zG p l e R s m args below meth c d cy B0 3 bc bs (zQ below s args d cy B0 bc bs (.inl none) zSH zKn bc bs r L) 69 [(0, .ref (B0 + 97)), (1, .int v1), (2, .int v2)] [] zSH zKn bc bs I L := by
  unfold f_X12_findShapes_69 at h
  obtain ⟨x14, ex14, h⟩ := zlt_e h
  refine z_iinc C (j := 2) (v := x14) (lv' := [(2, .int x14), (0, .ref (B0 + 97)), (1, .int v1)]) rfl (by rw [ex14]; rfl) (by decide) rfl dX12_findShapes_69 ?_
  refine z_goto C 9 (by decide) dX12_findShapes_72 ?_
  refine z_lv [1, 2, 0] (lv' := [(0, .ref (B0 + 97)), (1, .int v1), (2, .int x14)]) rfl ?_
  exact hk9 v1 x14 I h
set_option maxHeartbeats 4000000 in
set_option maxRecDepth 100000 in
theorem l_X12_findShapes_9 {r : zI} (C : zC p l e R s m args below meth c s0 a0 d cy B0 yX12_findShapes.cls cX12_findShapes 3 none bc bs bc bs 3 74 []) (L : zL) (k9 : Int32 → Int32 → zI → Option zI) (hk9 : ∀ (v1 : Int32) (v2 : Int32) (I : zI), k9 v1 v2 I = some r → zG p l e R s m args below meth c d cy B0 3 bc bs (zQ below s args d cy B0 bc bs (.inl none) zSH zKn bc bs r L) 9 [(0, .ref (B0 + 97)), (1, .int v1), (2, .int v2)] [] zSH zKn bc bs I L) (v1 : Int32) (v2 : Int32) (I : zI) (h : f_X12_findShapes_9 k9 v1 v2 I = some r) : zG p l e R s m args below meth c d cy B0 3 bc bs (zQ below s args d cy B0 bc bs (.inl none) zSH zKn bc bs r L) 9 [(0, .ref (B0 + 97)), (1, .int v1), (2, .int v2)] [] zSH zKn bc bs I L := by
  unfold f_X12_findShapes_9 at h
  refine z_iload_n C rfl 2 rfl dX12_findShapes_9 ?_
  refine z_sipush C (v := 4096) (by decide) dX12_findShapes_10 ?_
  refine z_icmp_ge C 75 (by decide) dX12_findShapes_13 (fun hc => ?_) (fun hc => ?_)
  · have h := zif_t hc h
    obtain rfl := Option.some.inj h
    exact z_vret C dX12_findShapes_75 rfl rfl
  · have h := zif_f hc h
    refine z_aload_n C rfl 0 rfl dX12_findShapes_16 ?_
    refine z_getr C zc_12 dX12_findShapes_17 31 97 118 rfl (by decide) (by decide) q_1200 rfl rfl ?_
    refine z_sipush C (v := 4096) (by decide) dX12_findShapes_20 ?_
    refine z_iload_n C rfl 1 rfl dX12_findShapes_23 ?_
    refine z_imul C dX12_findShapes_24 ?_
    refine z_iload_n C rfl 2 rfl dX12_findShapes_25 ?_
    refine z_iadd C dX12_findShapes_26 ?_
    obtain ⟨x3, ex3, h⟩ := zlt_e h
    refine z_eqi C ex3 ?_
    obtain ⟨hb4, h⟩ := zck_e h
    refine z_zaload C dX12_findShapes_27 rfl rfl (by decide) (zbd_in hb4) ?_
    refine z_if_eq C 69 (by decide) dX12_findShapes_28 (fun hc => ?_) (fun hc => ?_)
    · have h := zif_t hc h
      exact l_X12_findShapes_69 C L k9 hk9 v1 v2 I h
    · have h := zif_f hc h
      refine z_aload_n C rfl 0 rfl dX12_findShapes_31 ?_
      refine z_getr C zc_12 dX12_findShapes_32 32 97 119 rfl (by decide) (by decide) q_1201 rfl rfl ?_
      refine z_sipush C (v := 4096) (by decide) dX12_findShapes_35 ?_
      refine z_iload_n C rfl 1 rfl dX12_findShapes_38 ?_
      refine z_imul C dX12_findShapes_39 ?_
      refine z_iload_n C rfl 2 rfl dX12_findShapes_40 ?_
      refine z_iadd C dX12_findShapes_41 ?_
      obtain ⟨x5, ex5, h⟩ := zlt_e h
      refine z_eqi C ex5 ?_
      obtain ⟨hb6, h⟩ := zck_e h
      refine z_iaload C dX12_findShapes_42 rfl rfl (by decide) (zbd_in hb6) ?_
      refine z_iconst C (v := -1) (by decide) dX12_findShapes_43 ?_
      refine z_icmp_ne C 69 (by decide) dX12_findShapes_44 (fun hc => ?_) (fun hc => ?_)
      · have h := zif_f hc h
        exact l_X12_findShapes_69 C L k9 hk9 v1 v2 I h
      · have h := zif_t hc h
        refine z_aload_n C rfl 0 rfl dX12_findShapes_47 ?_
        refine z_iload_n C rfl 1 rfl dX12_findShapes_48 ?_
        refine z_iload_n C rfl 2 rfl dX12_findShapes_49 ?_
        refine z_aload_n C rfl 0 rfl dX12_findShapes_50 ?_
        refine z_getr C zc_12 dX12_findShapes_51 33 97 120 rfl (by decide) (by decide) q_1202 rfl rfl ?_
        refine z_iload_n C rfl 1 rfl dX12_findShapes_54 ?_
        obtain ⟨hb7, h⟩ := zck_e h
        refine z_iaload C dX12_findShapes_55 rfl rfl (by decide) (zbd_in hb7) ?_
        obtain ⟨I9, hg8, h⟩ := zb1_e h
        refine z_callV C zc_12 rfl (by decide) dX12_findShapes_56 yy_X12_flood (c_X12_flood C.2.2.2.2.1  v1 v2 (I 120 v1.toNatClampNeg) I L hg8) q_1469 q_1471 q_63 (by decide) (by decide) rfl rfl (Nat.le_of_ble_eq_true rfl) ⟨Nat.le_refl _, Nat.le_refl _, Nat.le_refl _, Nat.le_refl _⟩ ?_
        refine z_aload_n C rfl 0 rfl dX12_findShapes_59 ?_
        refine z_getr C zc_12 dX12_findShapes_60 33 97 120 rfl (by decide) (by decide) q_1202 rfl rfl ?_
        refine z_iload_n C rfl 1 rfl dX12_findShapes_63 ?_
        refine z_dup2_11 C rfl rfl dX12_findShapes_64 ?_
        obtain ⟨hb10, h⟩ := zck_e h
        refine z_iaload C dX12_findShapes_65 rfl rfl (by decide) (zbd_in hb10) ?_
        refine z_iconst C (v := 1) (by decide) dX12_findShapes_66 ?_
        refine z_iadd C dX12_findShapes_67 ?_
        obtain ⟨x11, ex11, h⟩ := zlt_e h
        refine z_eqi C ex11 ?_
        obtain ⟨hb12, h⟩ := zck_e h
        refine z_iastore C dX12_findShapes_68 rfl rfl (by decide) (zbd_in hb12) ?_
        obtain ⟨I13, eI13, h⟩ := zlt_e h
        refine z_eqI C eI13 ?_
        exact l_X12_findShapes_69 C L k9 hk9 v1 v2 I13 h
set_option maxHeartbeats 4000000 in
set_option maxRecDepth 100000 in
theorem L_X12_findShapes_9 {r : zI} (C : zC p l e R s m args below meth c s0 a0 d cy B0 yX12_findShapes.cls cX12_findShapes 3 none bc bs bc bs 3 74 []) (L : zL) (v1 : Int32) (v2 : Int32) (I : zI) (h : zlp3 (f_X12_findShapes_9) zF v1 v2 I = some r) : zG p l e R s m args below meth c d cy B0 3 bc bs (zQ below s args d cy B0 bc bs (.inl none) zSH zKn bc bs r L) 9 [(0, .ref (B0 + 97)), (1, .int v1), (2, .int v2)] [] zSH zKn bc bs I L :=
 zlp3_e (fun (v1 : Int32) (v2 : Int32) (I : zI) => zG p l e R s m args below meth c d cy B0 3 bc bs (zQ below s args d cy B0 bc bs (.inl none) zSH zKn bc bs r L) 9 [(0, .ref (B0 + 97)), (1, .int v1), (2, .int v2)] [] zSH zKn bc bs I L) (fun k9 hk9 v1 v2 I h => l_X12_findShapes_9 C L k9 hk9 v1 v2 I h) zF v1 v2 I h
set_option maxHeartbeats 4000000 in
set_option maxRecDepth 100000 in
theorem c_X12_findShapes {r : zI} (hE : zE0 l s0 a0 d cy B0) (a1 : Int32) (I : zI) (L : zL) (h : f_X12_findShapes a1 I = some r) : zM l s0 d cy B0 yX12_findShapes cX12_findShapes 3 none 3 74 [.ref (B0 + 97), .int a1] zSH zKn bc bs I L (.inl none) zSH zKn bc bs r L := by
  refine z_meth yy_X12_findShapes hE (Nat.le_of_ble_eq_true rfl) (fun p e R s m args below meth c C => ?_)
  show zG p l e R s m args below meth c d cy B0 3 bc bs (zQ below s args d cy B0 bc bs (.inl none) zSH zKn bc bs r L) 0 [(0, .ref (B0 + 97)), (1, .int a1)] [] zSH zKn bc bs I L
  unfold f_X12_findShapes at h
  refine z_aload_n C rfl 0 rfl dX12_findShapes_0 ?_
  refine z_getr C zc_12 dX12_findShapes_1 33 97 120 rfl (by decide) (by decide) q_1202 rfl rfl ?_
  refine z_iload_n C rfl 1 rfl dX12_findShapes_4 ?_
  refine z_iconst C (v := 0) (by decide) dX12_findShapes_5 ?_
  obtain ⟨hb1, h⟩ := zck_e h
  refine z_iastore C dX12_findShapes_6 rfl rfl (by decide) (zbd_in hb1) ?_
  obtain ⟨I2, eI2, h⟩ := zlt_e h
  refine z_eqI C eI2 ?_
  refine z_iconst C (v := 0) (by decide) dX12_findShapes_7 ?_
  refine z_istore_n C (lv' := [(2, .int (0 : Int32)), (0, .ref (B0 + 97)), (1, .int a1)]) rfl (by decide) rfl dX12_findShapes_8 ?_
  refine z_lv [1, 2, 0] (lv' := [(0, .ref (B0 + 97)), (1, .int a1), (2, .int (0 : Int32))]) rfl ?_
  exact L_X12_findShapes_9 C L a1 (0 : Int32) I2 h
theorem q_1203 : (Cond.fieldLink "DeviceFindModel" (82 : Nat) "DeviceFindModel" "first" "[I") ∈ lw_tbl := List.mem_of_getElem? (i := 1203) (by decide +kernel)
theorem q_1488 : (Cond.code ({ cls := "DeviceFindModel", name := "nodeAt", desc := "(II)I" } : Jvm.MethodName) prog_14_method_35_code (4 : Nat) (Option.some Jvm.ClassFile.FieldType.int)) ∈ lw_tbl := List.mem_of_getElem? (i := 1488) (by decide +kernel)
theorem yy_X12_nodeAt : zY yX12_nodeAt cX12_nodeAt 4 (some .int) 2 := ⟨q_1488, q_88, by decide +kernel, by decide +kernel, by decide +kernel⟩
noncomputable def f_X12_nodeAt_35 (w0 : Int32) (I : zI) : Option Int32 :=
  some w0
noncomputable def f_X12_nodeAt (a1 : Int32) (a2 : Int32) (I : zI) : Option Int32 :=
  zck (zbd a1 16) (zlt ((4096 : Int32) * (I 109 a1.toNatClampNeg)) (fun x2 => zlt (x2 + a2) (fun x3 => zck (zbd x3 98304) (zlt (I 119 x3.toNatClampNeg) (fun x5 => if x5 = (-1 : Int32) then (f_X12_nodeAt_35 (-1 : Int32) I) else (zck (zbd a1 8) (zlt ((I 121 a1.toNatClampNeg) + x5) (fun x7 => f_X12_nodeAt_35 x7 I))))))))
set_option maxHeartbeats 4000000 in
set_option maxRecDepth 100000 in
theorem l_X12_nodeAt_35 {r : Int32} (C : zC p l e R s m args below meth c s0 a0 d cy B0 yX12_nodeAt.cls cX12_nodeAt 4 (some .int) bc bs bc bs 0 0 []) (L : zL) (w0 : Int32) (I : zI) (h : f_X12_nodeAt_35 w0 I = some r) : zG p l e R s m args below meth c d cy B0 4 bc bs (zQ below s args d cy B0 bc bs (.inl (some (.int r))) zSH zKn bc bs I L) 35 [] [.int w0] zSH zKn bc bs I L := by
  unfold f_X12_nodeAt_35 at h
  obtain rfl := Option.some.inj h
  exact z_iret C dX12_nodeAt_35 .int rfl rfl rfl
set_option maxHeartbeats 4000000 in
set_option maxRecDepth 100000 in
theorem c_X12_nodeAt {r : Int32} (hE : zE0 l s0 a0 d cy B0) (a1 : Int32) (a2 : Int32) (I : zI) (L : zL) (h : f_X12_nodeAt a1 a2 I = some r) : zM l s0 d cy B0 yX12_nodeAt cX12_nodeAt 4 (some .int) 0 0 [.ref (B0 + 97), .int a1, .int a2] zSH zKn bc bs I L (.inl (some (.int r))) zSH zKn bc bs I L := by
  refine z_meth yy_X12_nodeAt hE (Nat.le_of_ble_eq_true rfl) (fun p e R s m args below meth c C => ?_)
  show zG p l e R s m args below meth c d cy B0 4 bc bs (zQ below s args d cy B0 bc bs (.inl (some (.int r))) zSH zKn bc bs I L) 0 [(0, .ref (B0 + 97)), (1, .int a1), (2, .int a2)] [] zSH zKn bc bs I L
  unfold f_X12_nodeAt at h
  refine z_aload_n C rfl 0 rfl dX12_nodeAt_0 ?_
  refine z_getr C zc_12 dX12_nodeAt_1 32 97 119 rfl (by decide) (by decide) q_1201 rfl rfl ?_
  refine z_sipush C (v := 4096) (by decide) dX12_nodeAt_4 ?_
  refine z_aload_n C rfl 0 rfl dX12_nodeAt_7 ?_
  refine z_getr C zc_12 dX12_nodeAt_8 20 97 109 rfl (by decide) (by decide) q_1189 rfl rfl ?_
  refine z_iload_n C rfl 1 rfl dX12_nodeAt_11 ?_
  obtain ⟨hb1, h⟩ := zck_e h
  refine z_iaload C dX12_nodeAt_12 rfl rfl (by decide) (zbd_in hb1) ?_
  refine z_imul C dX12_nodeAt_13 ?_
  obtain ⟨x2, ex2, h⟩ := zlt_e h
  refine z_eqi C ex2 ?_
  refine z_iload_n C rfl 2 rfl dX12_nodeAt_14 ?_
  refine z_iadd C dX12_nodeAt_15 ?_
  obtain ⟨x3, ex3, h⟩ := zlt_e h
  refine z_eqi C ex3 ?_
  obtain ⟨hb4, h⟩ := zck_e h
  refine z_iaload C dX12_nodeAt_16 rfl rfl (by decide) (zbd_in hb4) ?_
  obtain ⟨x5, ex5, h⟩ := zlt_e h
  refine z_eqi C ex5 ?_
  refine z_istore_n C (lv' := [(3, .int x5), (0, .ref (B0 + 97)), (1, .int a1), (2, .int a2)]) rfl (by decide) rfl dX12_nodeAt_17 ?_
  refine z_iload_n C rfl 0 rfl dX12_nodeAt_18 ?_
  refine z_iconst C (v := -1) (by decide) dX12_nodeAt_19 ?_
  refine z_icmp_ne C 27 (by decide) dX12_nodeAt_20 (fun hc => ?_) (fun hc => ?_)
  · have h := zif_f hc h
    refine z_aload_n C rfl 1 rfl dX12_nodeAt_27 ?_
    refine z_getr C zc_12 dX12_nodeAt_28 34 97 121 rfl (by decide) (by decide) q_1203 rfl rfl ?_
    refine z_iload_n C rfl 2 rfl dX12_nodeAt_31 ?_
    obtain ⟨hb6, h⟩ := zck_e h
    refine z_iaload C dX12_nodeAt_32 rfl rfl (by decide) (zbd_in hb6) ?_
    refine z_iload_n C rfl 0 rfl dX12_nodeAt_33 ?_
    refine z_iadd C dX12_nodeAt_34 ?_
    obtain ⟨x7, ex7, h⟩ := zlt_e h
    refine z_eqi C ex7 ?_
    refine z_lv [] (lv' := []) rfl ?_
    exact l_X12_nodeAt_35 C L x7 I h
  · have h := zif_t hc h
    refine z_iconst C (v := -1) (by decide) dX12_nodeAt_23 ?_
    refine z_goto C 35 (by decide) dX12_nodeAt_24 ?_
    refine z_lv [] (lv' := []) rfl ?_
    exact l_X12_nodeAt_35 C L (-1 : Int32) I h
theorem q_66 : Cond.selects "DeviceFindModel" ⟨"DeviceFindModel", "nodeAt", "(II)I"⟩ ⟨"DeviceFindModel", "nodeAt", "(II)I"⟩ ∈ lw_tbl := List.mem_of_getElem? (i := 66) (by decide +kernel)
theorem q_1205 : (Cond.fieldLink "DeviceFindModel" (86 : Nat) "DeviceFindModel" "net" "[I") ∈ lw_tbl := List.mem_of_getElem? (i := 1205) (by decide +kernel)
theorem q_1224 : (Cond.fieldLink "DeviceFindModel" (113 : Nat) "DeviceFindModel" "least" "[I") ∈ lw_tbl := List.mem_of_getElem? (i := 1224) (by decide +kernel)
theorem q_1483 : (Cond.code ({ cls := "DeviceFindModel", name := "lower", desc := "(I)Z" } : Jvm.MethodName) prog_14_method_36_code (9 : Nat) (Option.some Jvm.ClassFile.FieldType.boolean)) ∈ lw_tbl := List.mem_of_getElem? (i := 1483) (by decide +kernel)
theorem q_1484 : (Cond.constant "DeviceFindModel" (267 : Nat) (40000 : Int32)) ∈ lw_tbl := List.mem_of_getElem? (i := 1484) (by decide +kernel)
theorem q_1485 : (Cond.methodLink "DeviceFindModel" (268 : Nat) ({ cls := "DeviceFindModel", name := "nodeAt", desc := "(II)I" } : Jvm.MethodName)) ∈ lw_tbl := List.mem_of_getElem? (i := 1485) (by decide +kernel)
theorem q_1487 : (Cond.instanceMethod ({ cls := "DeviceFindModel", name := "nodeAt", desc := "(II)I" } : Jvm.MethodName)) ∈ lw_tbl := List.mem_of_getElem? (i := 1487) (by decide +kernel)
theorem yy_X12_lower : zY yX12_lower cX12_lower 9 (some .boolean) 1 := ⟨q_1483, q_88, by decide +kernel, by decide +kernel, by decide +kernel⟩
noncomputable def f_X12_lower_210 (k48 : Int32 → Int32 → Int32 → Int32 → zI → Option (Int32 × zI)) (k57 : Int32 → Int32 → Int32 → Int32 → Int32 → zI → Option (Int32 × zI)) (k79 : Int32 → Int32 → Int32 → Int32 → Int32 → Int32 → Int32 → zI → Option (Int32 × zI)) (v1 : Int32) (v2 : Int32) (v3 : Int32) (v4 : Int32) (v5 : Int32) (v6 : Int32) (v7 : Int32) (I : zI) : Option (Int32 × zI) :=
  zlt (v7 + 1) (fun x28 => k79 v1 v2 v3 v4 v5 v6 x28 I)
noncomputable def f_X12_lower_173 (k48 : Int32 → Int32 → Int32 → Int32 → zI → Option (Int32 × zI)) (k57 : Int32 → Int32 → Int32 → Int32 → Int32 → zI → Option (Int32 × zI)) (k79 : Int32 → Int32 → Int32 → Int32 → Int32 → Int32 → Int32 → zI → Option (Int32 × zI)) (v1 : Int32) (v2 : Int32) (v3 : Int32) (v4 : Int32) (v5 : Int32) (v6 : Int32) (v7 : Int32) (w1 : Int32) (w2 : Int32) (I : zI) : Option (Int32 × zI) :=
  zck (zbd w1 4096) (zlt (zu I 131 w1.toNatClampNeg w2) (fun I30 => f_X12_lower_210 k48 k57 k79 v1 v2 v3 v4 v5 v6 v7 I30))
noncomputable def f_X12_lower_112 (k48 : Int32 → Int32 → Int32 → Int32 → zI → Option (Int32 × zI)) (k57 : Int32 → Int32 → Int32 → Int32 → Int32 → zI → Option (Int32 × zI)) (k79 : Int32 → Int32 → Int32 → Int32 → Int32 → Int32 → Int32 → zI → Option (Int32 × zI)) (v1 : Int32) (v2 : Int32) (v3 : Int32) (v4 : Int32) (v5 : Int32) (v6 : Int32) (v7 : Int32) (w1 : Int32) (I : zI) : Option (Int32 × zI) :=
  zb1 (f_X12_nodeAt w1 v5 I) (fun x18 => if x18 = (-1 : Int32) then (f_X12_lower_210 k48 k57 k79 v1 v2 v3 v4 v5 v6 v7 I) else (if v4 = 0 then (zck (zbd x18 32768) (zck (zbd v6 4096) (if (I 131 v6.toNatClampNeg) ≤ (I 122 x18.toNatClampNeg) then (zck (zbd v6 4096) (f_X12_lower_173 k48 k57 k79 v1 v2 v3 v4 v5 v6 v7 v6 (I 131 v6.toNatClampNeg) I)) else (zck (zbd x18 32768) (f_X12_lower_173 k48 k57 k79 v1 v2 v3 v4 v5 v6 v7 v6 (I 122 x18.toNatClampNeg) I))))) else (zck (zbd x18 32768) (zck (zbd v6 4096) (if (I 122 x18.toNatClampNeg) ≤ (I 131 v6.toNatClampNeg) then (f_X12_lower_210 k48 k57 k79 v1 v2 v3 v4 v5 v6 v7 I) else (zck (zbd v6 4096) (zck (zbd x18 32768) (zlt (zu I 122 x18.toNatClampNeg (I 131 v6.toNatClampNeg)) (fun I23 => f_X12_lower_210 k48 k57 k79 v1 v2 (1 : Int32) v4 v5 v6 v7 I23)))))))))
noncomputable def f_X12_lower_216 (k48 : Int32 → Int32 → Int32 → Int32 → zI → Option (Int32 × zI)) (k57 : Int32 → Int32 → Int32 → Int32 → Int32 → zI → Option (Int32 × zI)) (v1 : Int32) (v2 : Int32) (v3 : Int32) (v4 : Int32) (v5 : Int32) (I : zI) : Option (Int32 × zI) :=
  zlt (v5 + 1) (fun x16 => k57 v1 v2 v3 v4 x16 I)
noncomputable def f_X12_lower_79 (k48 : Int32 → Int32 → Int32 → Int32 → zI → Option (Int32 × zI)) (k57 : Int32 → Int32 → Int32 → Int32 → Int32 → zI → Option (Int32 × zI)) (k79 : Int32 → Int32 → Int32 → Int32 → Int32 → Int32 → Int32 → zI → Option (Int32 × zI)) (v1 : Int32) (v2 : Int32) (v3 : Int32) (v4 : Int32) (v5 : Int32) (v6 : Int32) (v7 : Int32) (I : zI) : Option (Int32 × zI) :=
  if (2 : Int32) ≤ v7 then (f_X12_lower_216 k48 k57 v1 v2 v3 v4 v5 I) else (if v6 = (-1 : Int32) then (f_X12_lower_216 k48 k57 v1 v2 v3 v4 v5 I) else (if v7 = 0 then (zck (zbd v1 32) (f_X12_lower_112 k48 k57 k79 v1 v2 v3 v4 v5 v6 v7 (I 110 v1.toNatClampNeg) I)) else (zck (zbd v1 32) (f_X12_lower_112 k48 k57 k79 v1 v2 v3 v4 v5 v6 v7 (I 111 v1.toNatClampNeg) I))))
noncomputable def f_X12_lower_57 (k48 : Int32 → Int32 → Int32 → Int32 → zI → Option (Int32 × zI)) (k57 : Int32 → Int32 → Int32 → Int32 → Int32 → zI → Option (Int32 × zI)) (v1 : Int32) (v2 : Int32) (v3 : Int32) (v4 : Int32) (v5 : Int32) (I : zI) : Option (Int32 × zI) :=
  if (4096 : Int32) ≤ v5 then (zlt (v4 + 1) (fun x10 => k48 v1 v2 v3 x10 I)) else (zlt (v2 + v5) (fun x11 => zck (zbd x11 98304) (zlt (I 119 x11.toNatClampNeg) (fun x13 => zlp8 (f_X12_lower_79 k48 k57) zF v1 v2 v3 v4 v5 x13 (0 : Int32) I))))
noncomputable def f_X12_lower_48 (k48 : Int32 → Int32 → Int32 → Int32 → zI → Option (Int32 × zI)) (v1 : Int32) (v2 : Int32) (v3 : Int32) (v4 : Int32) (I : zI) : Option (Int32 × zI) :=
  if (2 : Int32) ≤ v4 then (zck (zbo v3) (some (v3, I))) else (zlp6 (f_X12_lower_57 k48) zF v1 v2 v3 v4 (0 : Int32) I)
noncomputable def f_X12_lower_13 (k13 : Int32 → Int32 → Int32 → zI → Option (Int32 × zI)) (v1 : Int32) (v2 : Int32) (v3 : Int32) (I : zI) : Option (Int32 × zI) :=
  zck (zbd v1 32) (zlt (I 112 v1.toNatClampNeg) (fun x4 => zck (zbd x4 24) (if (I 120 x4.toNatClampNeg) ≤ v3 then (zlp5 (f_X12_lower_48) zF v1 v2 (0 : Int32) (0 : Int32) I) else (zck (zbd v3 4096) (zlt (zu I 131 v3.toNatClampNeg (40000 : Int32)) (fun I7 => zlt (v3 + 1) (fun x8 => k13 v1 v2 x8 I7)))))))
noncomputable def f_X12_lower (a1 : Int32) (I : zI) : Option (Int32 × zI) :=
  zck (zbd a1 32) (zlt ((4096 : Int32) * (I 112 a1.toNatClampNeg)) (fun x2 => zlp4 (f_X12_lower_13) zF a1 x2 (0 : Int32) I))
set_option maxHeartbeats 4000000 in
set_option maxRecDepth 100000 in
theorem l_X12_lower_210 {r : Int32 × zI} (C : zC p l e R s m args below meth c s0 a0 d cy B0 yX12_lower.cls cX12_lower 9 (some .boolean) bc bs bc bs 1 23 []) (L : zL) (k48 : Int32 → Int32 → Int32 → Int32 → zI → Option (Int32 × zI)) (hk48 : ∀ (v1 : Int32) (v2 : Int32) (v3 : Int32) (v4 : Int32) (I : zI), k48 v1 v2 v3 v4 I = some r → zG p l e R s m args below meth c d cy B0 9 bc bs (zQ below s args d cy B0 bc bs (.inl (some (.int r.1))) zSH zKn bc bs r.2 L) 48 [(0, .ref (B0 + 97)), (1, .int v1), (2, .int v2), (3, .int v3), (4, .int v4)] [] zSH zKn bc bs I L) (k57 : Int32 → Int32 → Int32 → Int32 → Int32 → zI → Option (Int32 × zI)) (hk57 : ∀ (v1 : Int32) (v2 : Int32) (v3 : Int32) (v4 : Int32) (v5 : Int32) (I : zI), k57 v1 v2 v3 v4 v5 I = some r → zG p l e R s m args below meth c d cy B0 9 bc bs (zQ below s args d cy B0 bc bs (.inl (some (.int r.1))) zSH zKn bc bs r.2 L) 57 [(0, .ref (B0 + 97)), (1, .int v1), (2, .int v2), (3, .int v3), (4, .int v4), (5, .int v5)] [] zSH zKn bc bs I L) (k79 : Int32 → Int32 → Int32 → Int32 → Int32 → Int32 → Int32 → zI → Option (Int32 × zI)) (hk79 : ∀ (v1 : Int32) (v2 : Int32) (v3 : Int32) (v4 : Int32) (v5 : Int32) (v6 : Int32) (v7 : Int32) (I : zI), k79 v1 v2 v3 v4 v5 v6 v7 I = some r → zG p l e R s m args below meth c d cy B0 9 bc bs (zQ below s args d cy B0 bc bs (.inl (some (.int r.1))) zSH zKn bc bs r.2 L) 79 [(0, .ref (B0 + 97)), (1, .int v1), (2, .int v2), (3, .int v3), (4, .int v4), (5, .int v5), (6, .int v6), (7, .int v7)] [] zSH zKn bc bs I L) (v1 : Int32) (v2 : Int32) (v3 : Int32) (v4 : Int32) (v5 : Int32) (v6 : Int32) (v7 : Int32) (I : zI) (h : f_X12_lower_210 k48 k57 k79 v1 v2 v3 v4 v5 v6 v7 I = some r) : zG p l e R s m args below meth c d cy B0 9 bc bs (zQ below s args d cy B0 bc bs (.inl (some (.int r.1))) zSH zKn bc bs r.2 L) 210 [(0, .ref (B0 + 97)), (1, .int v1), (2, .int v2), (3, .int v3), (4, .int v4), (5, .int v5), (6, .int v6), (7, .int v7)] [] zSH zKn bc bs I L := by
  unfold f_X12_lower_210 at h
  obtain ⟨x28, ex28, h⟩ := zlt_e h
  refine z_iinc C (j := 7) (v := x28) (lv' := [(7, .int x28), (0, .ref (B0 + 97)), (1, .int v1), (2, .int v2), (3, .int v3), (4, .int v4), (5, .int v5), (6, .int v6)]) rfl (by rw [ex28]; rfl) (by decide) rfl dX12_lower_210 ?_
  refine z_goto C 79 (by decide) dX12_lower_213 ?_
  refine z_lv [1, 2, 3, 4, 5, 6, 7, 0] (lv' := [(0, .ref (B0 + 97)), (1, .int v1), (2, .int v2), (3, .int v3), (4, .int v4), (5, .int v5), (6, .int v6), (7, .int x28)]) rfl ?_
  exact hk79 v1 v2 v3 v4 v5 v6 x28 I h
set_option maxHeartbeats 4000000 in
set_option maxRecDepth 100000 in
theorem l_X12_lower_173 {r : Int32 × zI} (C : zC p l e R s m args below meth c s0 a0 d cy B0 yX12_lower.cls cX12_lower 9 (some .boolean) bc bs bc bs 1 23 []) (L : zL) (k48 : Int32 → Int32 → Int32 → Int32 → zI → Option (Int32 × zI)) (hk48 : ∀ (v1 : Int32) (v2 : Int32) (v3 : Int32) (v4 : Int32) (I : zI), k48 v1 v2 v3 v4 I = some r → zG p l e R s m args below meth c d cy B0 9 bc bs (zQ below s args d cy B0 bc bs (.inl (some (.int r.1))) zSH zKn bc bs r.2 L) 48 [(0, .ref (B0 + 97)), (1, .int v1), (2, .int v2), (3, .int v3), (4, .int v4)] [] zSH zKn bc bs I L) (k57 : Int32 → Int32 → Int32 → Int32 → Int32 → zI → Option (Int32 × zI)) (hk57 : ∀ (v1 : Int32) (v2 : Int32) (v3 : Int32) (v4 : Int32) (v5 : Int32) (I : zI), k57 v1 v2 v3 v4 v5 I = some r → zG p l e R s m args below meth c d cy B0 9 bc bs (zQ below s args d cy B0 bc bs (.inl (some (.int r.1))) zSH zKn bc bs r.2 L) 57 [(0, .ref (B0 + 97)), (1, .int v1), (2, .int v2), (3, .int v3), (4, .int v4), (5, .int v5)] [] zSH zKn bc bs I L) (k79 : Int32 → Int32 → Int32 → Int32 → Int32 → Int32 → Int32 → zI → Option (Int32 × zI)) (hk79 : ∀ (v1 : Int32) (v2 : Int32) (v3 : Int32) (v4 : Int32) (v5 : Int32) (v6 : Int32) (v7 : Int32) (I : zI), k79 v1 v2 v3 v4 v5 v6 v7 I = some r → zG p l e R s m args below meth c d cy B0 9 bc bs (zQ below s args d cy B0 bc bs (.inl (some (.int r.1))) zSH zKn bc bs r.2 L) 79 [(0, .ref (B0 + 97)), (1, .int v1), (2, .int v2), (3, .int v3), (4, .int v4), (5, .int v5), (6, .int v6), (7, .int v7)] [] zSH zKn bc bs I L) (v1 : Int32) (v2 : Int32) (v3 : Int32) (v4 : Int32) (v5 : Int32) (v6 : Int32) (v7 : Int32) (w1 : Int32) (w2 : Int32) (I : zI) (h : f_X12_lower_173 k48 k57 k79 v1 v2 v3 v4 v5 v6 v7 w1 w2 I = some r) : zG p l e R s m args below meth c d cy B0 9 bc bs (zQ below s args d cy B0 bc bs (.inl (some (.int r.1))) zSH zKn bc bs r.2 L) 173 [(0, .ref (B0 + 97)), (1, .int v1), (2, .int v2), (3, .int v3), (4, .int v4), (5, .int v5), (6, .int v6), (7, .int v7)] [.int w2, .int w1, .ref (B0 + 131)] zSH zKn bc bs I L := by
  unfold f_X12_lower_173 at h
  obtain ⟨hb29, h⟩ := zck_e h
  refine z_iastore C dX12_lower_173 rfl rfl (by decide) (zbd_in hb29) ?_
  obtain ⟨I30, eI30, h⟩ := zlt_e h
  refine z_eqI C eI30 ?_
  refine z_goto C 210 (by decide) dX12_lower_174 ?_
  exact l_X12_lower_210 C L k48 hk48 k57 hk57 k79 hk79 v1 v2 v3 v4 v5 v6 v7 I30 h
set_option maxHeartbeats 4000000 in
set_option maxRecDepth 100000 in
theorem l_X12_lower_112 {r : Int32 × zI} (C : zC p l e R s m args below meth c s0 a0 d cy B0 yX12_lower.cls cX12_lower 9 (some .boolean) bc bs bc bs 1 23 []) (L : zL) (k48 : Int32 → Int32 → Int32 → Int32 → zI → Option (Int32 × zI)) (hk48 : ∀ (v1 : Int32) (v2 : Int32) (v3 : Int32) (v4 : Int32) (I : zI), k48 v1 v2 v3 v4 I = some r → zG p l e R s m args below meth c d cy B0 9 bc bs (zQ below s args d cy B0 bc bs (.inl (some (.int r.1))) zSH zKn bc bs r.2 L) 48 [(0, .ref (B0 + 97)), (1, .int v1), (2, .int v2), (3, .int v3), (4, .int v4)] [] zSH zKn bc bs I L) (k57 : Int32 → Int32 → Int32 → Int32 → Int32 → zI → Option (Int32 × zI)) (hk57 : ∀ (v1 : Int32) (v2 : Int32) (v3 : Int32) (v4 : Int32) (v5 : Int32) (I : zI), k57 v1 v2 v3 v4 v5 I = some r → zG p l e R s m args below meth c d cy B0 9 bc bs (zQ below s args d cy B0 bc bs (.inl (some (.int r.1))) zSH zKn bc bs r.2 L) 57 [(0, .ref (B0 + 97)), (1, .int v1), (2, .int v2), (3, .int v3), (4, .int v4), (5, .int v5)] [] zSH zKn bc bs I L) (k79 : Int32 → Int32 → Int32 → Int32 → Int32 → Int32 → Int32 → zI → Option (Int32 × zI)) (hk79 : ∀ (v1 : Int32) (v2 : Int32) (v3 : Int32) (v4 : Int32) (v5 : Int32) (v6 : Int32) (v7 : Int32) (I : zI), k79 v1 v2 v3 v4 v5 v6 v7 I = some r → zG p l e R s m args below meth c d cy B0 9 bc bs (zQ below s args d cy B0 bc bs (.inl (some (.int r.1))) zSH zKn bc bs r.2 L) 79 [(0, .ref (B0 + 97)), (1, .int v1), (2, .int v2), (3, .int v3), (4, .int v4), (5, .int v5), (6, .int v6), (7, .int v7)] [] zSH zKn bc bs I L) (v1 : Int32) (v2 : Int32) (v3 : Int32) (v4 : Int32) (v5 : Int32) (v6 : Int32) (v7 : Int32) (w1 : Int32) (I : zI) (h : f_X12_lower_112 k48 k57 k79 v1 v2 v3 v4 v5 v6 v7 w1 I = some r) : zG p l e R s m args below meth c d cy B0 9 bc bs (zQ below s args d cy B0 bc bs (.inl (some (.int r.1))) zSH zKn bc bs r.2 L) 112 [(0, .ref (B0 + 97)), (1, .int v1), (2, .int v2), (3, .int v3), (4, .int v4), (5, .int v5), (6, .int v6), (7, .int v7)] [.int w1, .ref (B0 + 97)] zSH zKn bc bs I L := by
  unfold f_X12_lower_112 at h
  refine z_iload C 5 rfl dX12_lower_112 ?_
  obtain ⟨x18, hg17, h⟩ := zb1_e h
  refine z_callV C zc_12 rfl (by decide) dX12_lower_114 yy_X12_nodeAt (c_X12_nodeAt C.2.2.2.2.1  w1 v5 I L hg17) q_1485 q_1487 q_66 (by decide) (by decide) rfl rfl (Nat.le_of_ble_eq_true rfl) ⟨Nat.le_refl _, Nat.le_refl _, Nat.le_refl _, Nat.le_refl _⟩ ?_
  refine z_istore C (lv' := [(8, .int x18), (0, .ref (B0 + 97)), (1, .int v1), (2, .int v2), (3, .int v3), (4, .int v4), (5, .int v5), (6, .int v6), (7, .int v7)]) (by decide) rfl dX12_lower_117 ?_
  refine z_iload C 0 rfl dX12_lower_119 ?_
  refine z_iconst C (v := -1) (by decide) dX12_lower_121 ?_
  refine z_icmp_ne C 128 (by decide) dX12_lower_122 (fun hc => ?_) (fun hc => ?_)
  · have h := zif_f hc h
    refine z_iload C 5 rfl dX12_lower_128 ?_
    refine z_if_ne C 177 (by decide) dX12_lower_130 (fun hc => ?_) (fun hc => ?_)
    · have h := zif_f hc h
      refine z_aload_n C rfl 1 rfl dX12_lower_177 ?_
      refine z_getr C zc_12 dX12_lower_178 36 97 122 rfl (by decide) (by decide) q_1205 rfl rfl ?_
      refine z_iload C 0 rfl dX12_lower_181 ?_
      obtain ⟨hb19, h⟩ := zck_e h
      refine z_iaload C dX12_lower_183 rfl rfl (by decide) (zbd_in hb19) ?_
      refine z_aload_n C rfl 1 rfl dX12_lower_184 ?_
      refine z_getr C zc_12 dX12_lower_185 55 97 131 rfl (by decide) (by decide) q_1224 rfl rfl ?_
      refine z_iload C 7 rfl dX12_lower_188 ?_
      obtain ⟨hb20, h⟩ := zck_e h
      refine z_iaload C dX12_lower_190 rfl rfl (by decide) (zbd_in hb20) ?_
      refine z_icmp_le C 210 (by decide) dX12_lower_191 (fun hc => ?_) (fun hc => ?_)
      · have h := zif_t hc h
        refine z_lv [1, 2, 3, 4, 5, 6, 7, 8] (lv' := [(0, .ref (B0 + 97)), (1, .int v1), (2, .int v2), (3, .int v3), (4, .int v4), (5, .int v5), (6, .int v6), (7, .int v7)]) rfl ?_
        exact l_X12_lower_210 C L k48 hk48 k57 hk57 k79 hk79 v1 v2 v3 v4 v5 v6 v7 I h
      · have h := zif_f hc h
        refine z_aload_n C rfl 1 rfl dX12_lower_194 ?_
        refine z_getr C zc_12 dX12_lower_195 36 97 122 rfl (by decide) (by decide) q_1205 rfl rfl ?_
        refine z_iload C 0 rfl dX12_lower_198 ?_
        refine z_aload_n C rfl 1 rfl dX12_lower_200 ?_
        refine z_getr C zc_12 dX12_lower_201 55 97 131 rfl (by decide) (by decide) q_1224 rfl rfl ?_
        refine z_iload C 7 rfl dX12_lower_204 ?_
        obtain ⟨hb21, h⟩ := zck_e h
        refine z_iaload C dX12_lower_206 rfl rfl (by decide) (zbd_in hb21) ?_
        obtain ⟨hb22, h⟩ := zck_e h
        refine z_iastore C dX12_lower_207 rfl rfl (by decide) (zbd_in hb22) ?_
        obtain ⟨I23, eI23, h⟩ := zlt_e h
        refine z_eqI C eI23 ?_
        refine z_iconst C (v := 1) (by decide) dX12_lower_208 ?_
        refine z_istore_n C (lv' := [(3, .int (1 : Int32)), (8, .int x18), (0, .ref (B0 + 97)), (1, .int v1), (2, .int v2), (4, .int v4), (5, .int v5), (6, .int v6), (7, .int v7)]) rfl (by decide) rfl dX12_lower_209 ?_
        refine z_lv [2, 3, 4, 0, 5, 6, 7, 8] (lv' := [(0, .ref (B0 + 97)), (1, .int v1), (2, .int v2), (3, .int (1 : Int32)), (4, .int v4), (5, .int v5), (6, .int v6), (7, .int v7)]) rfl ?_
        exact l_X12_lower_210 C L k48 hk48 k57 hk57 k79 hk79 v1 v2 (1 : Int32) v4 v5 v6 v7 I23 h
    · have h := zif_t hc h
      refine z_aload_n C rfl 1 rfl dX12_lower_133 ?_
      refine z_getr C zc_12 dX12_lower_134 55 97 131 rfl (by decide) (by decide) q_1224 rfl rfl ?_
      refine z_iload C 7 rfl dX12_lower_137 ?_
      refine z_aload_n C rfl 1 rfl dX12_lower_139 ?_
      refine z_getr C zc_12 dX12_lower_140 36 97 122 rfl (by decide) (by decide) q_1205 rfl rfl ?_
      refine z_iload C 0 rfl dX12_lower_143 ?_
      obtain ⟨hb24, h⟩ := zck_e h
      refine z_iaload C dX12_lower_145 rfl rfl (by decide) (zbd_in hb24) ?_
      refine z_aload_n C rfl 1 rfl dX12_lower_146 ?_
      refine z_getr C zc_12 dX12_lower_147 55 97 131 rfl (by decide) (by decide) q_1224 rfl rfl ?_
      refine z_iload C 7 rfl dX12_lower_150 ?_
      obtain ⟨hb25, h⟩ := zck_e h
      refine z_iaload C dX12_lower_152 rfl rfl (by decide) (zbd_in hb25) ?_
      refine z_icmp_ge C 166 (by decide) dX12_lower_153 (fun hc => ?_) (fun hc => ?_)
      · have h := zif_t hc h
        refine z_aload_n C rfl 1 rfl dX12_lower_166 ?_
        refine z_getr C zc_12 dX12_lower_167 55 97 131 rfl (by decide) (by decide) q_1224 rfl rfl ?_
        refine z_iload C 7 rfl dX12_lower_170 ?_
        obtain ⟨hb26, h⟩ := zck_e h
        refine z_iaload C dX12_lower_172 rfl rfl (by decide) (zbd_in hb26) ?_
        refine z_lv [1, 2, 3, 4, 5, 6, 7, 8] (lv' := [(0, .ref (B0 + 97)), (1, .int v1), (2, .int v2), (3, .int v3), (4, .int v4), (5, .int v5), (6, .int v6), (7, .int v7)]) rfl ?_
        exact l_X12_lower_173 C L k48 hk48 k57 hk57 k79 hk79 v1 v2 v3 v4 v5 v6 v7 v6 (I 131 v6.toNatClampNeg) I h
      · have h := zif_f hc h
        refine z_aload_n C rfl 1 rfl dX12_lower_156 ?_
        refine z_getr C zc_12 dX12_lower_157 36 97 122 rfl (by decide) (by decide) q_1205 rfl rfl ?_
        refine z_iload C 0 rfl dX12_lower_160 ?_
        obtain ⟨hb27, h⟩ := zck_e h
        refine z_iaload C dX12_lower_162 rfl rfl (by decide) (zbd_in hb27) ?_
        refine z_goto C 173 (by decide) dX12_lower_163 ?_
        refine z_lv [1, 2, 3, 4, 5, 6, 7, 8] (lv' := [(0, .ref (B0 + 97)), (1, .int v1), (2, .int v2), (3, .int v3), (4, .int v4), (5, .int v5), (6, .int v6), (7, .int v7)]) rfl ?_
        exact l_X12_lower_173 C L k48 hk48 k57 hk57 k79 hk79 v1 v2 v3 v4 v5 v6 v7 v6 (I 122 x18.toNatClampNeg) I h
  · have h := zif_t hc h
    refine z_goto C 210 (by decide) dX12_lower_125 ?_
    refine z_lv [1, 2, 3, 4, 5, 6, 7, 8] (lv' := [(0, .ref (B0 + 97)), (1, .int v1), (2, .int v2), (3, .int v3), (4, .int v4), (5, .int v5), (6, .int v6), (7, .int v7)]) rfl ?_
    exact l_X12_lower_210 C L k48 hk48 k57 hk57 k79 hk79 v1 v2 v3 v4 v5 v6 v7 I h
set_option maxHeartbeats 4000000 in
set_option maxRecDepth 100000 in
theorem l_X12_lower_216 {r : Int32 × zI} (C : zC p l e R s m args below meth c s0 a0 d cy B0 yX12_lower.cls cX12_lower 9 (some .boolean) bc bs bc bs 1 23 []) (L : zL) (k48 : Int32 → Int32 → Int32 → Int32 → zI → Option (Int32 × zI)) (hk48 : ∀ (v1 : Int32) (v2 : Int32) (v3 : Int32) (v4 : Int32) (I : zI), k48 v1 v2 v3 v4 I = some r → zG p l e R s m args below meth c d cy B0 9 bc bs (zQ below s args d cy B0 bc bs (.inl (some (.int r.1))) zSH zKn bc bs r.2 L) 48 [(0, .ref (B0 + 97)), (1, .int v1), (2, .int v2), (3, .int v3), (4, .int v4)] [] zSH zKn bc bs I L) (k57 : Int32 → Int32 → Int32 → Int32 → Int32 → zI → Option (Int32 × zI)) (hk57 : ∀ (v1 : Int32) (v2 : Int32) (v3 : Int32) (v4 : Int32) (v5 : Int32) (I : zI), k57 v1 v2 v3 v4 v5 I = some r → zG p l e R s m args below meth c d cy B0 9 bc bs (zQ below s args d cy B0 bc bs (.inl (some (.int r.1))) zSH zKn bc bs r.2 L) 57 [(0, .ref (B0 + 97)), (1, .int v1), (2, .int v2), (3, .int v3), (4, .int v4), (5, .int v5)] [] zSH zKn bc bs I L) (v1 : Int32) (v2 : Int32) (v3 : Int32) (v4 : Int32) (v5 : Int32) (I : zI) (h : f_X12_lower_216 k48 k57 v1 v2 v3 v4 v5 I = some r) : zG p l e R s m args below meth c d cy B0 9 bc bs (zQ below s args d cy B0 bc bs (.inl (some (.int r.1))) zSH zKn bc bs r.2 L) 216 [(0, .ref (B0 + 97)), (1, .int v1), (2, .int v2), (3, .int v3), (4, .int v4), (5, .int v5)] [] zSH zKn bc bs I L := by
  unfold f_X12_lower_216 at h
  obtain ⟨x16, ex16, h⟩ := zlt_e h
  refine z_iinc C (j := 5) (v := x16) (lv' := [(5, .int x16), (0, .ref (B0 + 97)), (1, .int v1), (2, .int v2), (3, .int v3), (4, .int v4)]) rfl (by rw [ex16]; rfl) (by decide) rfl dX12_lower_216 ?_
  refine z_goto C 57 (by decide) dX12_lower_219 ?_
  refine z_lv [1, 2, 3, 4, 5, 0] (lv' := [(0, .ref (B0 + 97)), (1, .int v1), (2, .int v2), (3, .int v3), (4, .int v4), (5, .int x16)]) rfl ?_
  exact hk57 v1 v2 v3 v4 x16 I h
set_option maxHeartbeats 4000000 in
set_option maxRecDepth 100000 in
theorem l_X12_lower_79 {r : Int32 × zI} (C : zC p l e R s m args below meth c s0 a0 d cy B0 yX12_lower.cls cX12_lower 9 (some .boolean) bc bs bc bs 1 23 []) (L : zL) (k48 : Int32 → Int32 → Int32 → Int32 → zI → Option (Int32 × zI)) (hk48 : ∀ (v1 : Int32) (v2 : Int32) (v3 : Int32) (v4 : Int32) (I : zI), k48 v1 v2 v3 v4 I = some r → zG p l e R s m args below meth c d cy B0 9 bc bs (zQ below s args d cy B0 bc bs (.inl (some (.int r.1))) zSH zKn bc bs r.2 L) 48 [(0, .ref (B0 + 97)), (1, .int v1), (2, .int v2), (3, .int v3), (4, .int v4)] [] zSH zKn bc bs I L) (k57 : Int32 → Int32 → Int32 → Int32 → Int32 → zI → Option (Int32 × zI)) (hk57 : ∀ (v1 : Int32) (v2 : Int32) (v3 : Int32) (v4 : Int32) (v5 : Int32) (I : zI), k57 v1 v2 v3 v4 v5 I = some r → zG p l e R s m args below meth c d cy B0 9 bc bs (zQ below s args d cy B0 bc bs (.inl (some (.int r.1))) zSH zKn bc bs r.2 L) 57 [(0, .ref (B0 + 97)), (1, .int v1), (2, .int v2), (3, .int v3), (4, .int v4), (5, .int v5)] [] zSH zKn bc bs I L) (k79 : Int32 → Int32 → Int32 → Int32 → Int32 → Int32 → Int32 → zI → Option (Int32 × zI)) (hk79 : ∀ (v1 : Int32) (v2 : Int32) (v3 : Int32) (v4 : Int32) (v5 : Int32) (v6 : Int32) (v7 : Int32) (I : zI), k79 v1 v2 v3 v4 v5 v6 v7 I = some r → zG p l e R s m args below meth c d cy B0 9 bc bs (zQ below s args d cy B0 bc bs (.inl (some (.int r.1))) zSH zKn bc bs r.2 L) 79 [(0, .ref (B0 + 97)), (1, .int v1), (2, .int v2), (3, .int v3), (4, .int v4), (5, .int v5), (6, .int v6), (7, .int v7)] [] zSH zKn bc bs I L) (v1 : Int32) (v2 : Int32) (v3 : Int32) (v4 : Int32) (v5 : Int32) (v6 : Int32) (v7 : Int32) (I : zI) (h : f_X12_lower_79 k48 k57 k79 v1 v2 v3 v4 v5 v6 v7 I = some r) : zG p l e R s m args below meth c d cy B0 9 bc bs (zQ below s args d cy B0 bc bs (.inl (some (.int r.1))) zSH zKn bc bs r.2 L) 79 [(0, .ref (B0 + 97)), (1, .int v1), (2, .int v2), (3, .int v3), (4, .int v4), (5, .int v5), (6, .int v6), (7, .int v7)] [] zSH zKn bc bs I L := by
  unfold f_X12_lower_79 at h
  refine z_iload C 7 rfl dX12_lower_79 ?_
  refine z_iconst C (v := 2) (by decide) dX12_lower_81 ?_
  refine z_icmp_ge C 216 (by decide) dX12_lower_82 (fun hc => ?_) (fun hc => ?_)
  · have h := zif_t hc h
    refine z_lv [0, 1, 2, 3, 4, 5] (lv' := [(0, .ref (B0 + 97)), (1, .int v1), (2, .int v2), (3, .int v3), (4, .int v4), (5, .int v5)]) rfl ?_
    exact l_X12_lower_216 C L k48 hk48 k57 hk57 v1 v2 v3 v4 v5 I h
  · have h := zif_f hc h
    refine z_iload C 6 rfl dX12_lower_85 ?_
    refine z_iconst C (v := -1) (by decide) dX12_lower_87 ?_
    refine z_icmp_eq C 216 (by decide) dX12_lower_88 (fun hc => ?_) (fun hc => ?_)
    · have h := zif_t hc h
      refine z_lv [0, 1, 2, 3, 4, 5] (lv' := [(0, .ref (B0 + 97)), (1, .int v1), (2, .int v2), (3, .int v3), (4, .int v4), (5, .int v5)]) rfl ?_
      exact l_X12_lower_216 C L k48 hk48 k57 hk57 v1 v2 v3 v4 v5 I h
    · have h := zif_f hc h
      refine z_aload_n C rfl 0 rfl dX12_lower_91 ?_
      refine z_iload C 7 rfl dX12_lower_92 ?_
      refine z_if_ne C 106 (by decide) dX12_lower_94 (fun hc => ?_) (fun hc => ?_)
      · have h := zif_f hc h
        refine z_aload_n C rfl 0 rfl dX12_lower_106 ?_
        refine z_getr C zc_12 dX12_lower_107 22 97 111 rfl (by decide) (by decide) q_1191 rfl rfl ?_
        refine z_iload_n C rfl 1 rfl dX12_lower_110 ?_
        obtain ⟨hb14, h⟩ := zck_e h
        refine z_iaload C dX12_lower_111 rfl rfl (by decide) (zbd_in hb14) ?_
        exact l_X12_lower_112 C L k48 hk48 k57 hk57 k79 hk79 v1 v2 v3 v4 v5 v6 v7 (I 111 v1.toNatClampNeg) I h
      · have h := zif_t hc h
        refine z_aload_n C rfl 0 rfl dX12_lower_97 ?_
        refine z_getr C zc_12 dX12_lower_98 21 97 110 rfl (by decide) (by decide) q_1190 rfl rfl ?_
        refine z_iload_n C rfl 1 rfl dX12_lower_101 ?_
        obtain ⟨hb15, h⟩ := zck_e h
        refine z_iaload C dX12_lower_102 rfl rfl (by decide) (zbd_in hb15) ?_
        refine z_goto C 112 (by decide) dX12_lower_103 ?_
        exact l_X12_lower_112 C L k48 hk48 k57 hk57 k79 hk79 v1 v2 v3 v4 v5 v6 v7 (I 110 v1.toNatClampNeg) I h
set_option maxHeartbeats 4000000 in
set_option maxRecDepth 100000 in
theorem L_X12_lower_79 {r : Int32 × zI} (C : zC p l e R s m args below meth c s0 a0 d cy B0 yX12_lower.cls cX12_lower 9 (some .boolean) bc bs bc bs 1 23 []) (L : zL) (k48 : Int32 → Int32 → Int32 → Int32 → zI → Option (Int32 × zI)) (hk48 : ∀ (v1 : Int32) (v2 : Int32) (v3 : Int32) (v4 : Int32) (I : zI), k48 v1 v2 v3 v4 I = some r → zG p l e R s m args below meth c d cy B0 9 bc bs (zQ below s args d cy B0 bc bs (.inl (some (.int r.1))) zSH zKn bc bs r.2 L) 48 [(0, .ref (B0 + 97)), (1, .int v1), (2, .int v2), (3, .int v3), (4, .int v4)] [] zSH zKn bc bs I L) (k57 : Int32 → Int32 → Int32 → Int32 → Int32 → zI → Option (Int32 × zI)) (hk57 : ∀ (v1 : Int32) (v2 : Int32) (v3 : Int32) (v4 : Int32) (v5 : Int32) (I : zI), k57 v1 v2 v3 v4 v5 I = some r → zG p l e R s m args below meth c d cy B0 9 bc bs (zQ below s args d cy B0 bc bs (.inl (some (.int r.1))) zSH zKn bc bs r.2 L) 57 [(0, .ref (B0 + 97)), (1, .int v1), (2, .int v2), (3, .int v3), (4, .int v4), (5, .int v5)] [] zSH zKn bc bs I L) (v1 : Int32) (v2 : Int32) (v3 : Int32) (v4 : Int32) (v5 : Int32) (v6 : Int32) (v7 : Int32) (I : zI) (h : zlp8 (f_X12_lower_79 k48 k57) zF v1 v2 v3 v4 v5 v6 v7 I = some r) : zG p l e R s m args below meth c d cy B0 9 bc bs (zQ below s args d cy B0 bc bs (.inl (some (.int r.1))) zSH zKn bc bs r.2 L) 79 [(0, .ref (B0 + 97)), (1, .int v1), (2, .int v2), (3, .int v3), (4, .int v4), (5, .int v5), (6, .int v6), (7, .int v7)] [] zSH zKn bc bs I L :=
 zlp8_e (fun (v1 : Int32) (v2 : Int32) (v3 : Int32) (v4 : Int32) (v5 : Int32) (v6 : Int32) (v7 : Int32) (I : zI) => zG p l e R s m args below meth c d cy B0 9 bc bs (zQ below s args d cy B0 bc bs (.inl (some (.int r.1))) zSH zKn bc bs r.2 L) 79 [(0, .ref (B0 + 97)), (1, .int v1), (2, .int v2), (3, .int v3), (4, .int v4), (5, .int v5), (6, .int v6), (7, .int v7)] [] zSH zKn bc bs I L) (fun k9 hk9 v1 v2 v3 v4 v5 v6 v7 I h => l_X12_lower_79 C L k48 hk48 k57 hk57 k9 hk9 v1 v2 v3 v4 v5 v6 v7 I h) zF v1 v2 v3 v4 v5 v6 v7 I h
set_option maxHeartbeats 4000000 in
set_option maxRecDepth 100000 in
theorem l_X12_lower_57 {r : Int32 × zI} (C : zC p l e R s m args below meth c s0 a0 d cy B0 yX12_lower.cls cX12_lower 9 (some .boolean) bc bs bc bs 1 23 []) (L : zL) (k48 : Int32 → Int32 → Int32 → Int32 → zI → Option (Int32 × zI)) (hk48 : ∀ (v1 : Int32) (v2 : Int32) (v3 : Int32) (v4 : Int32) (I : zI), k48 v1 v2 v3 v4 I = some r → zG p l e R s m args below meth c d cy B0 9 bc bs (zQ below s args d cy B0 bc bs (.inl (some (.int r.1))) zSH zKn bc bs r.2 L) 48 [(0, .ref (B0 + 97)), (1, .int v1), (2, .int v2), (3, .int v3), (4, .int v4)] [] zSH zKn bc bs I L) (k57 : Int32 → Int32 → Int32 → Int32 → Int32 → zI → Option (Int32 × zI)) (hk57 : ∀ (v1 : Int32) (v2 : Int32) (v3 : Int32) (v4 : Int32) (v5 : Int32) (I : zI), k57 v1 v2 v3 v4 v5 I = some r → zG p l e R s m args below meth c d cy B0 9 bc bs (zQ below s args d cy B0 bc bs (.inl (some (.int r.1))) zSH zKn bc bs r.2 L) 57 [(0, .ref (B0 + 97)), (1, .int v1), (2, .int v2), (3, .int v3), (4, .int v4), (5, .int v5)] [] zSH zKn bc bs I L) (v1 : Int32) (v2 : Int32) (v3 : Int32) (v4 : Int32) (v5 : Int32) (I : zI) (h : f_X12_lower_57 k48 k57 v1 v2 v3 v4 v5 I = some r) : zG p l e R s m args below meth c d cy B0 9 bc bs (zQ below s args d cy B0 bc bs (.inl (some (.int r.1))) zSH zKn bc bs r.2 L) 57 [(0, .ref (B0 + 97)), (1, .int v1), (2, .int v2), (3, .int v3), (4, .int v4), (5, .int v5)] [] zSH zKn bc bs I L := by
  unfold f_X12_lower_57 at h
  refine z_iload C 5 rfl dX12_lower_57 ?_
  refine z_sipush C (v := 4096) (by decide) dX12_lower_59 ?_
  refine z_icmp_ge C 222 (by decide) dX12_lower_62 (fun hc => ?_) (fun hc => ?_)
  · have h := zif_t hc h
    obtain ⟨x10, ex10, h⟩ := zlt_e h
    refine z_iinc C (j := 4) (v := x10) (lv' := [(4, .int x10), (0, .ref (B0 + 97)), (1, .int v1), (2, .int v2), (3, .int v3), (5, .int v5)]) rfl (by rw [ex10]; rfl) (by decide) rfl dX12_lower_222 ?_
    refine z_goto C 48 (by decide) dX12_lower_225 ?_
    refine z_lv [1, 2, 3, 4, 0] (lv' := [(0, .ref (B0 + 97)), (1, .int v1), (2, .int v2), (3, .int v3), (4, .int x10)]) rfl ?_
    exact hk48 v1 v2 v3 x10 I h
  · have h := zif_f hc h
    refine z_aload_n C rfl 0 rfl dX12_lower_65 ?_
    refine z_getr C zc_12 dX12_lower_66 32 97 119 rfl (by decide) (by decide) q_1201 rfl rfl ?_
    refine z_iload_n C rfl 2 rfl dX12_lower_69 ?_
    refine z_iload C 5 rfl dX12_lower_70 ?_
    refine z_iadd C dX12_lower_72 ?_
    obtain ⟨x11, ex11, h⟩ := zlt_e h
    refine z_eqi C ex11 ?_
    obtain ⟨hb12, h⟩ := zck_e h
    refine z_iaload C dX12_lower_73 rfl rfl (by decide) (zbd_in hb12) ?_
    obtain ⟨x13, ex13, h⟩ := zlt_e h
    refine z_eqi C ex13 ?_
    refine z_istore C (lv' := [(6, .int x13), (0, .ref (B0 + 97)), (1, .int v1), (2, .int v2), (3, .int v3), (4, .int v4), (5, .int v5)]) (by decide) rfl dX12_lower_74 ?_
    refine z_iconst C (v := 0) (by decide) dX12_lower_76 ?_
    refine z_istore C (lv' := [(7, .int (0 : Int32)), (6, .int x13), (0, .ref (B0 + 97)), (1, .int v1), (2, .int v2), (3, .int v3), (4, .int v4), (5, .int v5)]) (by decide) rfl dX12_lower_77 ?_
    refine z_lv [2, 3, 4, 5, 6, 7, 1, 0] (lv' := [(0, .ref (B0 + 97)), (1, .int v1), (2, .int v2), (3, .int v3), (4, .int v4), (5, .int v5), (6, .int x13), (7, .int (0 : Int32))]) rfl ?_
    exact L_X12_lower_79 C L k48 hk48 k57 hk57 v1 v2 v3 v4 v5 x13 (0 : Int32) I h
set_option maxHeartbeats 4000000 in
set_option maxRecDepth 100000 in
theorem L_X12_lower_57 {r : Int32 × zI} (C : zC p l e R s m args below meth c s0 a0 d cy B0 yX12_lower.cls cX12_lower 9 (some .boolean) bc bs bc bs 1 23 []) (L : zL) (k48 : Int32 → Int32 → Int32 → Int32 → zI → Option (Int32 × zI)) (hk48 : ∀ (v1 : Int32) (v2 : Int32) (v3 : Int32) (v4 : Int32) (I : zI), k48 v1 v2 v3 v4 I = some r → zG p l e R s m args below meth c d cy B0 9 bc bs (zQ below s args d cy B0 bc bs (.inl (some (.int r.1))) zSH zKn bc bs r.2 L) 48 [(0, .ref (B0 + 97)), (1, .int v1), (2, .int v2), (3, .int v3), (4, .int v4)] [] zSH zKn bc bs I L) (v1 : Int32) (v2 : Int32) (v3 : Int32) (v4 : Int32) (v5 : Int32) (I : zI) (h : zlp6 (f_X12_lower_57 k48) zF v1 v2 v3 v4 v5 I = some r) : zG p l e R s m args below meth c d cy B0 9 bc bs (zQ below s args d cy B0 bc bs (.inl (some (.int r.1))) zSH zKn bc bs r.2 L) 57 [(0, .ref (B0 + 97)), (1, .int v1), (2, .int v2), (3, .int v3), (4, .int v4), (5, .int v5)] [] zSH zKn bc bs I L :=
 zlp6_e (fun (v1 : Int32) (v2 : Int32) (v3 : Int32) (v4 : Int32) (v5 : Int32) (I : zI) => zG p l e R s m args below meth c d cy B0 9 bc bs (zQ below s args d cy B0 bc bs (.inl (some (.int r.1))) zSH zKn bc bs r.2 L) 57 [(0, .ref (B0 + 97)), (1, .int v1), (2, .int v2), (3, .int v3), (4, .int v4), (5, .int v5)] [] zSH zKn bc bs I L) (fun k9 hk9 v1 v2 v3 v4 v5 I h => l_X12_lower_57 C L k48 hk48 k9 hk9 v1 v2 v3 v4 v5 I h) zF v1 v2 v3 v4 v5 I h
set_option maxHeartbeats 4000000 in
set_option maxRecDepth 100000 in
theorem l_X12_lower_48 {r : Int32 × zI} (C : zC p l e R s m args below meth c s0 a0 d cy B0 yX12_lower.cls cX12_lower 9 (some .boolean) bc bs bc bs 1 23 []) (L : zL) (k48 : Int32 → Int32 → Int32 → Int32 → zI → Option (Int32 × zI)) (hk48 : ∀ (v1 : Int32) (v2 : Int32) (v3 : Int32) (v4 : Int32) (I : zI), k48 v1 v2 v3 v4 I = some r → zG p l e R s m args below meth c d cy B0 9 bc bs (zQ below s args d cy B0 bc bs (.inl (some (.int r.1))) zSH zKn bc bs r.2 L) 48 [(0, .ref (B0 + 97)), (1, .int v1), (2, .int v2), (3, .int v3), (4, .int v4)] [] zSH zKn bc bs I L) (v1 : Int32) (v2 : Int32) (v3 : Int32) (v4 : Int32) (I : zI) (h : f_X12_lower_48 k48 v1 v2 v3 v4 I = some r) : zG p l e R s m args below meth c d cy B0 9 bc bs (zQ below s args d cy B0 bc bs (.inl (some (.int r.1))) zSH zKn bc bs r.2 L) 48 [(0, .ref (B0 + 97)), (1, .int v1), (2, .int v2), (3, .int v3), (4, .int v4)] [] zSH zKn bc bs I L := by
  unfold f_X12_lower_48 at h
  refine z_iload C 4 rfl dX12_lower_48 ?_
  refine z_iconst C (v := 2) (by decide) dX12_lower_50 ?_
  refine z_icmp_ge C 228 (by decide) dX12_lower_51 (fun hc => ?_) (fun hc => ?_)
  · have h := zif_t hc h
    refine z_iload_n C rfl 3 rfl dX12_lower_228 ?_
    obtain ⟨hb9, h⟩ := zck_e h
    obtain rfl := Option.some.inj h
    exact z_iret C dX12_lower_229 .boolean rfl (zbo_n hb9).1 rfl
  · have h := zif_f hc h
    refine z_iconst C (v := 0) (by decide) dX12_lower_54 ?_
    refine z_istore C (lv' := [(5, .int (0 : Int32)), (0, .ref (B0 + 97)), (1, .int v1), (2, .int v2), (3, .int v3), (4, .int v4)]) (by decide) rfl dX12_lower_55 ?_
    refine z_lv [1, 2, 3, 4, 5, 0] (lv' := [(0, .ref (B0 + 97)), (1, .int v1), (2, .int v2), (3, .int v3), (4, .int v4), (5, .int (0 : Int32))]) rfl ?_
    exact L_X12_lower_57 C L k48 hk48 v1 v2 v3 v4 (0 : Int32) I h
set_option maxHeartbeats 4000000 in
set_option maxRecDepth 100000 in
theorem L_X12_lower_48 {r : Int32 × zI} (C : zC p l e R s m args below meth c s0 a0 d cy B0 yX12_lower.cls cX12_lower 9 (some .boolean) bc bs bc bs 1 23 []) (L : zL) (v1 : Int32) (v2 : Int32) (v3 : Int32) (v4 : Int32) (I : zI) (h : zlp5 (f_X12_lower_48) zF v1 v2 v3 v4 I = some r) : zG p l e R s m args below meth c d cy B0 9 bc bs (zQ below s args d cy B0 bc bs (.inl (some (.int r.1))) zSH zKn bc bs r.2 L) 48 [(0, .ref (B0 + 97)), (1, .int v1), (2, .int v2), (3, .int v3), (4, .int v4)] [] zSH zKn bc bs I L :=
 zlp5_e (fun (v1 : Int32) (v2 : Int32) (v3 : Int32) (v4 : Int32) (I : zI) => zG p l e R s m args below meth c d cy B0 9 bc bs (zQ below s args d cy B0 bc bs (.inl (some (.int r.1))) zSH zKn bc bs r.2 L) 48 [(0, .ref (B0 + 97)), (1, .int v1), (2, .int v2), (3, .int v3), (4, .int v4)] [] zSH zKn bc bs I L) (fun k9 hk9 v1 v2 v3 v4 I h => l_X12_lower_48 C L k9 hk9 v1 v2 v3 v4 I h) zF v1 v2 v3 v4 I h
set_option maxHeartbeats 4000000 in
set_option maxRecDepth 100000 in
theorem l_X12_lower_13 {r : Int32 × zI} (C : zC p l e R s m args below meth c s0 a0 d cy B0 yX12_lower.cls cX12_lower 9 (some .boolean) bc bs bc bs 1 23 []) (L : zL) (k13 : Int32 → Int32 → Int32 → zI → Option (Int32 × zI)) (hk13 : ∀ (v1 : Int32) (v2 : Int32) (v3 : Int32) (I : zI), k13 v1 v2 v3 I = some r → zG p l e R s m args below meth c d cy B0 9 bc bs (zQ below s args d cy B0 bc bs (.inl (some (.int r.1))) zSH zKn bc bs r.2 L) 13 [(0, .ref (B0 + 97)), (1, .int v1), (2, .int v2), (3, .int v3)] [] zSH zKn bc bs I L) (v1 : Int32) (v2 : Int32) (v3 : Int32) (I : zI) (h : f_X12_lower_13 k13 v1 v2 v3 I = some r) : zG p l e R s m args below meth c d cy B0 9 bc bs (zQ below s args d cy B0 bc bs (.inl (some (.int r.1))) zSH zKn bc bs r.2 L) 13 [(0, .ref (B0 + 97)), (1, .int v1), (2, .int v2), (3, .int v3)] [] zSH zKn bc bs I L := by
  unfold f_X12_lower_13 at h
  refine z_iload_n C rfl 3 rfl dX12_lower_13 ?_
  refine z_aload_n C rfl 0 rfl dX12_lower_14 ?_
  refine z_getr C zc_12 dX12_lower_15 33 97 120 rfl (by decide) (by decide) q_1202 rfl rfl ?_
  refine z_aload_n C rfl 0 rfl dX12_lower_18 ?_
  refine z_getr C zc_12 dX12_lower_19 23 97 112 rfl (by decide) (by decide) q_1192 rfl rfl ?_
  refine z_iload_n C rfl 1 rfl dX12_lower_22 ?_
  obtain ⟨hb3, h⟩ := zck_e h
  refine z_iaload C dX12_lower_23 rfl rfl (by decide) (zbd_in hb3) ?_
  obtain ⟨x4, ex4, h⟩ := zlt_e h
  refine z_eqi C ex4 ?_
  obtain ⟨hb5, h⟩ := zck_e h
  refine z_iaload C dX12_lower_24 rfl rfl (by decide) (zbd_in hb5) ?_
  refine z_icmp_ge C 43 (by decide) dX12_lower_25 (fun hc => ?_) (fun hc => ?_)
  · have h := zif_t hc h
    refine z_iconst C (v := 0) (by decide) dX12_lower_43 ?_
    refine z_istore_n C (lv' := [(3, .int (0 : Int32)), (0, .ref (B0 + 97)), (1, .int v1), (2, .int v2)]) rfl (by decide) rfl dX12_lower_44 ?_
    refine z_iconst C (v := 0) (by decide) dX12_lower_45 ?_
    refine z_istore C (lv' := [(4, .int (0 : Int32)), (3, .int (0 : Int32)), (0, .ref (B0 + 97)), (1, .int v1), (2, .int v2)]) (by decide) rfl dX12_lower_46 ?_
    refine z_lv [2, 3, 4, 1, 0] (lv' := [(0, .ref (B0 + 97)), (1, .int v1), (2, .int v2), (3, .int (0 : Int32)), (4, .int (0 : Int32))]) rfl ?_
    exact L_X12_lower_48 C L v1 v2 (0 : Int32) (0 : Int32) I h
  · have h := zif_f hc h
    refine z_aload_n C rfl 0 rfl dX12_lower_28 ?_
    refine z_getr C zc_12 dX12_lower_29 55 97 131 rfl (by decide) (by decide) q_1224 rfl rfl ?_
    refine z_iload_n C rfl 3 rfl dX12_lower_32 ?_
    refine z_ldcw C dX12_lower_33 q_1484 ?_
    obtain ⟨hb6, h⟩ := zck_e h
    refine z_iastore C dX12_lower_36 rfl rfl (by decide) (zbd_in hb6) ?_
    obtain ⟨I7, eI7, h⟩ := zlt_e h
    refine z_eqI C eI7 ?_
    obtain ⟨x8, ex8, h⟩ := zlt_e h
    refine z_iinc C (j := 3) (v := x8) (lv' := [(3, .int x8), (0, .ref (B0 + 97)), (1, .int v1), (2, .int v2)]) rfl (by rw [ex8]; rfl) (by decide) rfl dX12_lower_37 ?_
    refine z_goto C 13 (by decide) dX12_lower_40 ?_
    refine z_lv [1, 2, 3, 0] (lv' := [(0, .ref (B0 + 97)), (1, .int v1), (2, .int v2), (3, .int x8)]) rfl ?_
    exact hk13 v1 v2 x8 I7 h
set_option maxHeartbeats 4000000 in
set_option maxRecDepth 100000 in
theorem L_X12_lower_13 {r : Int32 × zI} (C : zC p l e R s m args below meth c s0 a0 d cy B0 yX12_lower.cls cX12_lower 9 (some .boolean) bc bs bc bs 1 23 []) (L : zL) (v1 : Int32) (v2 : Int32) (v3 : Int32) (I : zI) (h : zlp4 (f_X12_lower_13) zF v1 v2 v3 I = some r) : zG p l e R s m args below meth c d cy B0 9 bc bs (zQ below s args d cy B0 bc bs (.inl (some (.int r.1))) zSH zKn bc bs r.2 L) 13 [(0, .ref (B0 + 97)), (1, .int v1), (2, .int v2), (3, .int v3)] [] zSH zKn bc bs I L :=
 zlp4_e (fun (v1 : Int32) (v2 : Int32) (v3 : Int32) (I : zI) => zG p l e R s m args below meth c d cy B0 9 bc bs (zQ below s args d cy B0 bc bs (.inl (some (.int r.1))) zSH zKn bc bs r.2 L) 13 [(0, .ref (B0 + 97)), (1, .int v1), (2, .int v2), (3, .int v3)] [] zSH zKn bc bs I L) (fun k9 hk9 v1 v2 v3 I h => l_X12_lower_13 C L k9 hk9 v1 v2 v3 I h) zF v1 v2 v3 I h
set_option maxHeartbeats 4000000 in
set_option maxRecDepth 100000 in
theorem c_X12_lower {r : Int32 × zI} (hE : zE0 l s0 a0 d cy B0) (a1 : Int32) (I : zI) (L : zL) (h : f_X12_lower a1 I = some r) : zM l s0 d cy B0 yX12_lower cX12_lower 9 (some .boolean) 1 23 [.ref (B0 + 97), .int a1] zSH zKn bc bs I L (.inl (some (.int r.1))) zSH zKn bc bs r.2 L := by
  refine z_meth yy_X12_lower hE (Nat.le_of_ble_eq_true rfl) (fun p e R s m args below meth c C => ?_)
  show zG p l e R s m args below meth c d cy B0 9 bc bs (zQ below s args d cy B0 bc bs (.inl (some (.int r.1))) zSH zKn bc bs r.2 L) 0 [(0, .ref (B0 + 97)), (1, .int a1)] [] zSH zKn bc bs I L
  unfold f_X12_lower at h
  refine z_sipush C (v := 4096) (by decide) dX12_lower_0 ?_
  refine z_aload_n C rfl 0 rfl dX12_lower_3 ?_
  refine z_getr C zc_12 dX12_lower_4 23 97 112 rfl (by decide) (by decide) q_1192 rfl rfl ?_
  refine z_iload_n C rfl 1 rfl dX12_lower_7 ?_
  obtain ⟨hb1, h⟩ := zck_e h
  refine z_iaload C dX12_lower_8 rfl rfl (by decide) (zbd_in hb1) ?_
  refine z_imul C dX12_lower_9 ?_
  obtain ⟨x2, ex2, h⟩ := zlt_e h
  refine z_eqi C ex2 ?_
  refine z_istore_n C (lv' := [(2, .int x2), (0, .ref (B0 + 97)), (1, .int a1)]) rfl (by decide) rfl dX12_lower_10 ?_
  refine z_iconst C (v := 0) (by decide) dX12_lower_11 ?_
  refine z_istore_n C (lv' := [(3, .int (0 : Int32)), (2, .int x2), (0, .ref (B0 + 97)), (1, .int a1)]) rfl (by decide) rfl dX12_lower_12 ?_
  refine z_lv [2, 3, 1, 0] (lv' := [(0, .ref (B0 + 97)), (1, .int a1), (2, .int x2), (3, .int (0 : Int32))]) rfl ?_
  exact L_X12_lower_13 C L a1 x2 (0 : Int32) I h
theorem q_65 : Cond.selects "DeviceFindModel" ⟨"DeviceFindModel", "lower", "(I)Z"⟩ ⟨"DeviceFindModel", "lower", "(I)Z"⟩ ∈ lw_tbl := List.mem_of_getElem? (i := 65) (by decide +kernel)
theorem q_1204 : (Cond.fieldLink "DeviceFindModel" (271 : Nat) "DeviceFindModel" "nodes" "I") ∈ lw_tbl := List.mem_of_getElem? (i := 1204) (by decide +kernel)
theorem q_1206 : (Cond.fieldLink "DeviceFindModel" (89 : Nat) "DeviceFindModel" "number" "[I") ∈ lw_tbl := List.mem_of_getElem? (i := 1206) (by decide +kernel)
theorem q_1207 : (Cond.fieldLink "DeviceFindModel" (277 : Nat) "DeviceFindModel" "nets" "I") ∈ lw_tbl := List.mem_of_getElem? (i := 1207) (by decide +kernel)
theorem q_1479 : (Cond.code ({ cls := "DeviceFindModel", name := "findNets", desc := "()V" } : Jvm.MethodName) prog_14_method_37_code (4 : Nat) (Option.none : Option Jvm.ClassFile.FieldType)) ∈ lw_tbl := List.mem_of_getElem? (i := 1479) (by decide +kernel)
theorem q_1480 : (Cond.methodLink "DeviceFindModel" (274 : Nat) ({ cls := "DeviceFindModel", name := "lower", desc := "(I)Z" } : Jvm.MethodName)) ∈ lw_tbl := List.mem_of_getElem? (i := 1480) (by decide +kernel)
theorem q_1482 : (Cond.instanceMethod ({ cls := "DeviceFindModel", name := "lower", desc := "(I)Z" } : Jvm.MethodName)) ∈ lw_tbl := List.mem_of_getElem? (i := 1482) (by decide +kernel)
theorem yy_X12_findNets : zY yX12_findNets cX12_findNets 4 none 0 := ⟨q_1479, q_88, by decide +kernel, by decide +kernel, by decide +kernel⟩
noncomputable def f_X12_findNets_111 (k76 : Int32 → zI → Option zI) (k84 : Int32 → Int32 → zI → Option zI) (v2 : Int32) (w0 : Int32) (I : zI) : Option zI :=
  zlt (v2 + 1) (fun x28 => k84 w0 x28 I)
noncomputable def f_X12_findNets_106 (k76 : Int32 → zI → Option zI) (k84 : Int32 → Int32 → zI → Option zI) (v2 : Int32) (I : zI) : Option zI :=
  f_X12_findNets_111 k76 k84 v2 (1 : Int32) I
noncomputable def f_X12_findNets_84 (k76 : Int32 → zI → Option zI) (k84 : Int32 → Int32 → zI → Option zI) (v1 : Int32) (v2 : Int32) (I : zI) : Option zI :=
  if (I 97 14) ≤ v2 then (k76 v1 I) else (zb2 (f_X12_lower v2 I) (fun x25 I26 => if v1 = 0 then (if x25 = 0 then (f_X12_findNets_111 k76 k84 v2 (0 : Int32) I26) else (f_X12_findNets_106 k76 k84 v2 I26)) else (f_X12_findNets_106 k76 k84 v2 I26)))
noncomputable def f_X12_findNets_186 (k128 : Int32 → zI → Option zI) (v2 : Int32) (I : zI) : Option zI :=
  zlt (v2 + 1) (fun x27 => k128 x27 I)
noncomputable def f_X12_findNets_128 (k128 : Int32 → zI → Option zI) (v2 : Int32) (I : zI) : Option zI :=
  if (I 97 35) ≤ v2 then (some I) else (zck (zbd v2 32768) (if (I 122 v2.toNatClampNeg) = v2 then (zck (zbd v2 32768) (zlt (zu I 123 v2.toNatClampNeg (I 97 38)) (fun I21 => zlt ((I21 97 38) + (1 : Int32)) (fun x22 => zlt (zu I21 97 38 x22) (fun I23 => f_X12_findNets_186 k128 v2 I23))))) else (zck (zbd v2 32768) (zlt (I 122 v2.toNatClampNeg) (fun x16 => zck (zbd x16 32768) (zck (zbd v2 32768) (zlt (zu I 123 v2.toNatClampNeg (I 123 x16.toNatClampNeg)) (fun I19 => f_X12_findNets_186 k128 v2 I19))))))))
noncomputable def f_X12_findNets_76 (k76 : Int32 → zI → Option zI) (v1 : Int32) (I : zI) : Option zI :=
  if v1 = 0 then (zlt (zu I 97 38 (0 : Int32)) (fun I13 => zlp2 (f_X12_findNets_128) zF (0 : Int32) I13)) else (zlp3 (f_X12_findNets_84 k76) zF (0 : Int32) (0 : Int32) I)
noncomputable def f_X12_findNets_53 (k53 : Int32 → zI → Option zI) (v1 : Int32) (I : zI) : Option zI :=
  if (I 97 35) ≤ v1 then (zlp2 (f_X12_findNets_76) zF (1 : Int32) I) else (zck (zbd v1 32768) (zlt (zu I 122 v1.toNatClampNeg v1) (fun I11 => zlt (v1 + 1) (fun x12 => k53 x12 I11))))
noncomputable def f_X12_findNets_7 (k7 : Int32 → zI → Option zI) (v1 : Int32) (I : zI) : Option zI :=
  if (I 97 13) ≤ v1 then (zlp2 (f_X12_findNets_53) zF (0 : Int32) I) else (zck (zbd v1 8) (zlt (zu I 121 v1.toNatClampNeg (I 97 35)) (fun I3 => zck (zbd v1 16) (zlt (I3 109 v1.toNatClampNeg) (fun x5 => zck (zbd x5 24) (zlt ((I3 97 35) + (I3 120 x5.toNatClampNeg)) (fun x7 => zlt (zu I3 97 35 x7) (fun I8 => zlt (v1 + 1) (fun x9 => k7 x9 I8)))))))))
noncomputable def f_X12_findNets (I : zI) : Option zI :=
  zlt (zu I 97 35 (0 : Int32)) (fun I1 => zlp2 (f_X12_findNets_7) zF (0 : Int32) I1)
set_option maxHeartbeats 4000000 in
set_option maxRecDepth 100000 in
theorem l_X12_findNets_111 {r : zI} (C : zC p l e R s m args below meth c s0 a0 d cy B0 yX12_findNets.cls cX12_findNets 4 none bc bs bc bs 2 51 []) (L : zL) (k76 : Int32 → zI → Option zI) (hk76 : ∀ (v1 : Int32) (I : zI), k76 v1 I = some r → zG p l e R s m args below meth c d cy B0 4 bc bs (zQ below s args d cy B0 bc bs (.inl none) zSH zKn bc bs r L) 76 [(0, .ref (B0 + 97)), (1, .int v1)] [] zSH zKn bc bs I L) (k84 : Int32 → Int32 → zI → Option zI) (hk84 : ∀ (v1 : Int32) (v2 : Int32) (I : zI), k84 v1 v2 I = some r → zG p l e R s m args below meth c d cy B0 4 bc bs (zQ below s args d cy B0 bc bs (.inl none) zSH zKn bc bs r L) 84 [(0, .ref (B0 + 97)), (1, .int v1), (2, .int v2)] [] zSH zKn bc bs I L) (v2 : Int32) (w0 : Int32) (I : zI) (h : f_X12_findNets_111 k76 k84 v2 w0 I = some r) : zG p l e R s m args below meth c d cy B0 4 bc bs (zQ below s args d cy B0 bc bs (.inl none) zSH zKn bc bs r L) 111 [(0, .ref (B0 + 97)), (2, .int v2)] [.int w0] zSH zKn bc bs I L := by
  unfold f_X12_findNets_111 at h
  refine z_istore_n C (lv' := [(1, .int w0), (0, .ref (B0 + 97)), (2, .int v2)]) rfl (by decide) rfl dX12_findNets_111 ?_
  obtain ⟨x28, ex28, h⟩ := zlt_e h
  refine z_iinc C (j := 2) (v := x28) (lv' := [(2, .int x28), (1, .int w0), (0, .ref (B0 + 97))]) rfl (by rw [ex28]; rfl) (by decide) rfl dX12_findNets_112 ?_
  refine z_goto C 84 (by decide) dX12_findNets_115 ?_
  refine z_lv [2, 1, 0] (lv' := [(0, .ref (B0 + 97)), (1, .int w0), (2, .int x28)]) rfl ?_
  exact hk84 w0 x28 I h
set_option maxHeartbeats 4000000 in
set_option maxRecDepth 100000 in
theorem l_X12_findNets_106 {r : zI} (C : zC p l e R s m args below meth c s0 a0 d cy B0 yX12_findNets.cls cX12_findNets 4 none bc bs bc bs 2 51 []) (L : zL) (k76 : Int32 → zI → Option zI) (hk76 : ∀ (v1 : Int32) (I : zI), k76 v1 I = some r → zG p l e R s m args below meth c d cy B0 4 bc bs (zQ below s args d cy B0 bc bs (.inl none) zSH zKn bc bs r L) 76 [(0, .ref (B0 + 97)), (1, .int v1)] [] zSH zKn bc bs I L) (k84 : Int32 → Int32 → zI → Option zI) (hk84 : ∀ (v1 : Int32) (v2 : Int32) (I : zI), k84 v1 v2 I = some r → zG p l e R s m args below meth c d cy B0 4 bc bs (zQ below s args d cy B0 bc bs (.inl none) zSH zKn bc bs r L) 84 [(0, .ref (B0 + 97)), (1, .int v1), (2, .int v2)] [] zSH zKn bc bs I L) (v2 : Int32) (I : zI) (h : f_X12_findNets_106 k76 k84 v2 I = some r) : zG p l e R s m args below meth c d cy B0 4 bc bs (zQ below s args d cy B0 bc bs (.inl none) zSH zKn bc bs r L) 106 [(0, .ref (B0 + 97)), (2, .int v2)] [] zSH zKn bc bs I L := by
  unfold f_X12_findNets_106 at h
  refine z_iconst C (v := 1) (by decide) dX12_findNets_106 ?_
  refine z_goto C 111 (by decide) dX12_findNets_107 ?_
  exact l_X12_findNets_111 C L k76 hk76 k84 hk84 v2 (1 : Int32) I h
set_option maxHeartbeats 4000000 in
set_option maxRecDepth 100000 in
theorem l_X12_findNets_84 {r : zI} (C : zC p l e R s m args below meth c s0 a0 d cy B0 yX12_findNets.cls cX12_findNets 4 none bc bs bc bs 2 51 []) (L : zL) (k76 : Int32 → zI → Option zI) (hk76 : ∀ (v1 : Int32) (I : zI), k76 v1 I = some r → zG p l e R s m args below meth c d cy B0 4 bc bs (zQ below s args d cy B0 bc bs (.inl none) zSH zKn bc bs r L) 76 [(0, .ref (B0 + 97)), (1, .int v1)] [] zSH zKn bc bs I L) (k84 : Int32 → Int32 → zI → Option zI) (hk84 : ∀ (v1 : Int32) (v2 : Int32) (I : zI), k84 v1 v2 I = some r → zG p l e R s m args below meth c d cy B0 4 bc bs (zQ below s args d cy B0 bc bs (.inl none) zSH zKn bc bs r L) 84 [(0, .ref (B0 + 97)), (1, .int v1), (2, .int v2)] [] zSH zKn bc bs I L) (v1 : Int32) (v2 : Int32) (I : zI) (h : f_X12_findNets_84 k76 k84 v1 v2 I = some r) : zG p l e R s m args below meth c d cy B0 4 bc bs (zQ below s args d cy B0 bc bs (.inl none) zSH zKn bc bs r L) 84 [(0, .ref (B0 + 97)), (1, .int v1), (2, .int v2)] [] zSH zKn bc bs I L := by
  unfold f_X12_findNets_84 at h
  refine z_iload_n C rfl 2 rfl dX12_findNets_84 ?_
  refine z_aload_n C rfl 0 rfl dX12_findNets_85 ?_
  refine z_geti C zc_12 dX12_findNets_86 14 97 rfl (by decide) (by decide) q_1183 rfl ?_
  refine z_icmp_ge C 118 (by decide) dX12_findNets_89 (fun hc => ?_) (fun hc => ?_)
  · have h := zif_t hc h
    refine z_goto C 76 (by decide) dX12_findNets_118 ?_
    refine z_lv [0, 1] (lv' := [(0, .ref (B0 + 97)), (1, .int v1)]) rfl ?_
    exact hk76 v1 I h
  · have h := zif_f hc h
    refine z_aload_n C rfl 0 rfl dX12_findNets_92 ?_
    refine z_iload_n C rfl 2 rfl dX12_findNets_93 ?_
    obtain ⟨x25, I26, hg24, h⟩ := zb2_e h
    refine z_callV C zc_12 rfl (by decide) dX12_findNets_94 yy_X12_lower (c_X12_lower C.2.2.2.2.1  v2 I L hg24) q_1480 q_1482 q_65 (by decide) (by decide) rfl rfl (Nat.le_of_ble_eq_true rfl) ⟨Nat.le_refl _, Nat.le_refl _, Nat.le_refl _, Nat.le_refl _⟩ ?_
    refine z_istore_n C (lv' := [(3, .int x25), (0, .ref (B0 + 97)), (1, .int v1), (2, .int v2)]) rfl (by decide) rfl dX12_findNets_97 ?_
    refine z_iload_n C rfl 2 rfl dX12_findNets_98 ?_
    refine z_if_ne C 106 (by decide) dX12_findNets_99 (fun hc => ?_) (fun hc => ?_)
    · have h := zif_f hc h
      refine z_lv [1, 3] (lv' := [(0, .ref (B0 + 97)), (2, .int v2)]) rfl ?_
      exact l_X12_findNets_106 C L k76 hk76 k84 hk84 v2 I26 h
    · have h := zif_t hc h
      refine z_iload_n C rfl 0 rfl dX12_findNets_102 ?_
      refine z_if_eq C 110 (by decide) dX12_findNets_103 (fun hc => ?_) (fun hc => ?_)
      · have h := zif_t hc h
        refine z_iconst C (v := 0) (by decide) dX12_findNets_110 ?_
        refine z_lv [1, 3] (lv' := [(0, .ref (B0 + 97)), (2, .int v2)]) rfl ?_
        exact l_X12_findNets_111 C L k76 hk76 k84 hk84 v2 (0 : Int32) I26 h
      · have h := zif_f hc h
        refine z_lv [1, 3] (lv' := [(0, .ref (B0 + 97)), (2, .int v2)]) rfl ?_
        exact l_X12_findNets_106 C L k76 hk76 k84 hk84 v2 I26 h
set_option maxHeartbeats 4000000 in
set_option maxRecDepth 100000 in
theorem L_X12_findNets_84 {r : zI} (C : zC p l e R s m args below meth c s0 a0 d cy B0 yX12_findNets.cls cX12_findNets 4 none bc bs bc bs 2 51 []) (L : zL) (k76 : Int32 → zI → Option zI) (hk76 : ∀ (v1 : Int32) (I : zI), k76 v1 I = some r → zG p l e R s m args below meth c d cy B0 4 bc bs (zQ below s args d cy B0 bc bs (.inl none) zSH zKn bc bs r L) 76 [(0, .ref (B0 + 97)), (1, .int v1)] [] zSH zKn bc bs I L) (v1 : Int32) (v2 : Int32) (I : zI) (h : zlp3 (f_X12_findNets_84 k76) zF v1 v2 I = some r) : zG p l e R s m args below meth c d cy B0 4 bc bs (zQ below s args d cy B0 bc bs (.inl none) zSH zKn bc bs r L) 84 [(0, .ref (B0 + 97)), (1, .int v1), (2, .int v2)] [] zSH zKn bc bs I L :=
 zlp3_e (fun (v1 : Int32) (v2 : Int32) (I : zI) => zG p l e R s m args below meth c d cy B0 4 bc bs (zQ below s args d cy B0 bc bs (.inl none) zSH zKn bc bs r L) 84 [(0, .ref (B0 + 97)), (1, .int v1), (2, .int v2)] [] zSH zKn bc bs I L) (fun k9 hk9 v1 v2 I h => l_X12_findNets_84 C L k76 hk76 k9 hk9 v1 v2 I h) zF v1 v2 I h
set_option maxHeartbeats 4000000 in
set_option maxRecDepth 100000 in
theorem l_X12_findNets_186 {r : zI} (C : zC p l e R s m args below meth c s0 a0 d cy B0 yX12_findNets.cls cX12_findNets 4 none bc bs bc bs 2 51 []) (L : zL) (k128 : Int32 → zI → Option zI) (hk128 : ∀ (v2 : Int32) (I : zI), k128 v2 I = some r → zG p l e R s m args below meth c d cy B0 4 bc bs (zQ below s args d cy B0 bc bs (.inl none) zSH zKn bc bs r L) 128 [(0, .ref (B0 + 97)), (2, .int v2)] [] zSH zKn bc bs I L) (v2 : Int32) (I : zI) (h : f_X12_findNets_186 k128 v2 I = some r) : zG p l e R s m args below meth c d cy B0 4 bc bs (zQ below s args d cy B0 bc bs (.inl none) zSH zKn bc bs r L) 186 [(0, .ref (B0 + 97)), (2, .int v2)] [] zSH zKn bc bs I L := by
  unfold f_X12_findNets_186 at h
  obtain ⟨x27, ex27, h⟩ := zlt_e h
  refine z_iinc C (j := 1) (v := x27) (lv' := [(2, .int x27), (0, .ref (B0 + 97))]) rfl (by rw [ex27]; rfl) (by decide) rfl dX12_findNets_186 ?_
  refine z_goto C 128 (by decide) dX12_findNets_189 ?_
  refine z_lv [1, 0] (lv' := [(0, .ref (B0 + 97)), (2, .int x27)]) rfl ?_
  exact hk128 x27 I h
set_option maxHeartbeats 4000000 in
set_option maxRecDepth 100000 in
theorem l_X12_findNets_128 {r : zI} (C : zC p l e R s m args below meth c s0 a0 d cy B0 yX12_findNets.cls cX12_findNets 4 none bc bs bc bs 2 51 []) (L : zL) (k128 : Int32 → zI → Option zI) (hk128 : ∀ (v2 : Int32) (I : zI), k128 v2 I = some r → zG p l e R s m args below meth c d cy B0 4 bc bs (zQ below s args d cy B0 bc bs (.inl none) zSH zKn bc bs r L) 128 [(0, .ref (B0 + 97)), (2, .int v2)] [] zSH zKn bc bs I L) (v2 : Int32) (I : zI) (h : f_X12_findNets_128 k128 v2 I = some r) : zG p l e R s m args below meth c d cy B0 4 bc bs (zQ below s args d cy B0 bc bs (.inl none) zSH zKn bc bs r L) 128 [(0, .ref (B0 + 97)), (2, .int v2)] [] zSH zKn bc bs I L := by
  unfold f_X12_findNets_128 at h
  refine z_iload_n C rfl 1 rfl dX12_findNets_128 ?_
  refine z_aload_n C rfl 0 rfl dX12_findNets_129 ?_
  refine z_geti C zc_12 dX12_findNets_130 35 97 rfl (by decide) (by decide) q_1204 rfl ?_
  refine z_icmp_ge C 192 (by decide) dX12_findNets_133 (fun hc => ?_) (fun hc => ?_)
  · have h := zif_t hc h
    obtain rfl := Option.some.inj h
    exact z_vret C dX12_findNets_192 rfl rfl
  · have h := zif_f hc h
    refine z_aload_n C rfl 0 rfl dX12_findNets_136 ?_
    refine z_getr C zc_12 dX12_findNets_137 36 97 122 rfl (by decide) (by decide) q_1205 rfl rfl ?_
    refine z_iload_n C rfl 1 rfl dX12_findNets_140 ?_
    obtain ⟨hb14, h⟩ := zck_e h
    refine z_iaload C dX12_findNets_141 rfl rfl (by decide) (zbd_in hb14) ?_
    refine z_iload_n C rfl 1 rfl dX12_findNets_142 ?_
    refine z_icmp_ne C 169 (by decide) dX12_findNets_143 (fun hc => ?_) (fun hc => ?_)
    · have h := zif_f hc h
      refine z_aload_n C rfl 0 rfl dX12_findNets_169 ?_
      refine z_getr C zc_12 dX12_findNets_170 37 97 123 rfl (by decide) (by decide) q_1206 rfl rfl ?_
      refine z_iload_n C rfl 1 rfl dX12_findNets_173 ?_
      refine z_aload_n C rfl 0 rfl dX12_findNets_174 ?_
      refine z_getr C zc_12 dX12_findNets_175 37 97 123 rfl (by decide) (by decide) q_1206 rfl rfl ?_
      refine z_aload_n C rfl 0 rfl dX12_findNets_178 ?_
      refine z_getr C zc_12 dX12_findNets_179 36 97 122 rfl (by decide) (by decide) q_1205 rfl rfl ?_
      refine z_iload_n C rfl 1 rfl dX12_findNets_182 ?_
      obtain ⟨hb15, h⟩ := zck_e h
      refine z_iaload C dX12_findNets_183 rfl rfl (by decide) (zbd_in hb15) ?_
      obtain ⟨x16, ex16, h⟩ := zlt_e h
      refine z_eqi C ex16 ?_
      obtain ⟨hb17, h⟩ := zck_e h
      refine z_iaload C dX12_findNets_184 rfl rfl (by decide) (zbd_in hb17) ?_
      obtain ⟨hb18, h⟩ := zck_e h
      refine z_iastore C dX12_findNets_185 rfl rfl (by decide) (zbd_in hb18) ?_
      obtain ⟨I19, eI19, h⟩ := zlt_e h
      refine z_eqI C eI19 ?_
      exact l_X12_findNets_186 C L k128 hk128 v2 I19 h
    · have h := zif_t hc h
      refine z_aload_n C rfl 0 rfl dX12_findNets_146 ?_
      refine z_getr C zc_12 dX12_findNets_147 37 97 123 rfl (by decide) (by decide) q_1206 rfl rfl ?_
      refine z_iload_n C rfl 1 rfl dX12_findNets_150 ?_
      refine z_aload_n C rfl 0 rfl dX12_findNets_151 ?_
      refine z_geti C zc_12 dX12_findNets_152 38 97 rfl (by decide) (by decide) q_1207 rfl ?_
      obtain ⟨hb20, h⟩ := zck_e h
      refine z_iastore C dX12_findNets_155 rfl rfl (by decide) (zbd_in hb20) ?_
      obtain ⟨I21, eI21, h⟩ := zlt_e h
      refine z_eqI C eI21 ?_
      refine z_aload_n C rfl 0 rfl dX12_findNets_156 ?_
      refine z_dup C rfl dX12_findNets_157 ?_
      refine z_geti C zc_12 dX12_findNets_158 38 97 rfl (by decide) (by decide) q_1207 rfl ?_
      refine z_iconst C (v := 1) (by decide) dX12_findNets_161 ?_
      refine z_iadd C dX12_findNets_162 ?_
      obtain ⟨x22, ex22, h⟩ := zlt_e h
      refine z_eqi C ex22 ?_
      refine z_puti C zc_12 dX12_findNets_163 38 97 rfl (by decide) (by decide) rfl q_1207 rfl rfl rfl ?_
      obtain ⟨I23, eI23, h⟩ := zlt_e h
      refine z_eqI C eI23 ?_
      refine z_goto C 186 (by decide) dX12_findNets_166 ?_
      exact l_X12_findNets_186 C L k128 hk128 v2 I23 h
set_option maxHeartbeats 4000000 in
set_option maxRecDepth 100000 in
theorem L_X12_findNets_128 {r : zI} (C : zC p l e R s m args below meth c s0 a0 d cy B0 yX12_findNets.cls cX12_findNets 4 none bc bs bc bs 2 51 []) (L : zL) (v2 : Int32) (I : zI) (h : zlp2 (f_X12_findNets_128) zF v2 I = some r) : zG p l e R s m args below meth c d cy B0 4 bc bs (zQ below s args d cy B0 bc bs (.inl none) zSH zKn bc bs r L) 128 [(0, .ref (B0 + 97)), (2, .int v2)] [] zSH zKn bc bs I L :=
 zlp2_e (fun (v2 : Int32) (I : zI) => zG p l e R s m args below meth c d cy B0 4 bc bs (zQ below s args d cy B0 bc bs (.inl none) zSH zKn bc bs r L) 128 [(0, .ref (B0 + 97)), (2, .int v2)] [] zSH zKn bc bs I L) (fun k9 hk9 v2 I h => l_X12_findNets_128 C L k9 hk9 v2 I h) zF v2 I h
set_option maxHeartbeats 4000000 in
set_option maxRecDepth 100000 in
theorem l_X12_findNets_76 {r : zI} (C : zC p l e R s m args below meth c s0 a0 d cy B0 yX12_findNets.cls cX12_findNets 4 none bc bs bc bs 2 51 []) (L : zL) (k76 : Int32 → zI → Option zI) (hk76 : ∀ (v1 : Int32) (I : zI), k76 v1 I = some r → zG p l e R s m args below meth c d cy B0 4 bc bs (zQ below s args d cy B0 bc bs (.inl none) zSH zKn bc bs r L) 76 [(0, .ref (B0 + 97)), (1, .int v1)] [] zSH zKn bc bs I L) (v1 : Int32) (I : zI) (h : f_X12_findNets_76 k76 v1 I = some r) : zG p l e R s m args below meth c d cy B0 4 bc bs (zQ below s args d cy B0 bc bs (.inl none) zSH zKn bc bs r L) 76 [(0, .ref (B0 + 97)), (1, .int v1)] [] zSH zKn bc bs I L := by
  unfold f_X12_findNets_76 at h
  refine z_iload_n C rfl 1 rfl dX12_findNets_76 ?_
  refine z_if_eq C 121 (by decide) dX12_findNets_77 (fun hc => ?_) (fun hc => ?_)
  · have h := zif_t hc h
    refine z_aload_n C rfl 0 rfl dX12_findNets_121 ?_
    refine z_iconst C (v := 0) (by decide) dX12_findNets_122 ?_
    refine z_puti C zc_12 dX12_findNets_123 38 97 rfl (by decide) (by decide) rfl q_1207 rfl rfl rfl ?_
    obtain ⟨I13, eI13, h⟩ := zlt_e h
    refine z_eqI C eI13 ?_
    refine z_iconst C (v := 0) (by decide) dX12_findNets_126 ?_
    refine z_istore_n C (lv' := [(2, .int (0 : Int32)), (0, .ref (B0 + 97)), (1, .int v1)]) rfl (by decide) rfl dX12_findNets_127 ?_
    refine z_lv [1, 0] (lv' := [(0, .ref (B0 + 97)), (2, .int (0 : Int32))]) rfl ?_
    exact L_X12_findNets_128 C L (0 : Int32) I13 h
  · have h := zif_f hc h
    refine z_iconst C (v := 0) (by decide) dX12_findNets_80 ?_
    refine z_istore_n C (lv' := [(1, .int (0 : Int32)), (0, .ref (B0 + 97))]) rfl (by decide) rfl dX12_findNets_81 ?_
    refine z_iconst C (v := 0) (by decide) dX12_findNets_82 ?_
    refine z_istore_n C (lv' := [(2, .int (0 : Int32)), (1, .int (0 : Int32)), (0, .ref (B0 + 97))]) rfl (by decide) rfl dX12_findNets_83 ?_
    refine z_lv [2, 1, 0] (lv' := [(0, .ref (B0 + 97)), (1, .int (0 : Int32)), (2, .int (0 : Int32))]) rfl ?_
    exact L_X12_findNets_84 C L k76 hk76 (0 : Int32) (0 : Int32) I h
set_option maxHeartbeats 4000000 in
set_option maxRecDepth 100000 in
theorem L_X12_findNets_76 {r : zI} (C : zC p l e R s m args below meth c s0 a0 d cy B0 yX12_findNets.cls cX12_findNets 4 none bc bs bc bs 2 51 []) (L : zL) (v1 : Int32) (I : zI) (h : zlp2 (f_X12_findNets_76) zF v1 I = some r) : zG p l e R s m args below meth c d cy B0 4 bc bs (zQ below s args d cy B0 bc bs (.inl none) zSH zKn bc bs r L) 76 [(0, .ref (B0 + 97)), (1, .int v1)] [] zSH zKn bc bs I L :=
 zlp2_e (fun (v1 : Int32) (I : zI) => zG p l e R s m args below meth c d cy B0 4 bc bs (zQ below s args d cy B0 bc bs (.inl none) zSH zKn bc bs r L) 76 [(0, .ref (B0 + 97)), (1, .int v1)] [] zSH zKn bc bs I L) (fun k9 hk9 v1 I h => l_X12_findNets_76 C L k9 hk9 v1 I h) zF v1 I h
set_option maxHeartbeats 4000000 in
set_option maxRecDepth 100000 in
theorem l_X12_findNets_53 {r : zI} (C : zC p l e R s m args below meth c s0 a0 d cy B0 yX12_findNets.cls cX12_findNets 4 none bc bs bc bs 2 51 []) (L : zL) (k53 : Int32 → zI → Option zI) (hk53 : ∀ (v1 : Int32) (I : zI), k53 v1 I = some r → zG p l e R s m args below meth c d cy B0 4 bc bs (zQ below s args d cy B0 bc bs (.inl none) zSH zKn bc bs r L) 53 [(0, .ref (B0 + 97)), (1, .int v1)] [] zSH zKn bc bs I L) (v1 : Int32) (I : zI) (h : f_X12_findNets_53 k53 v1 I = some r) : zG p l e R s m args below meth c d cy B0 4 bc bs (zQ below s args d cy B0 bc bs (.inl none) zSH zKn bc bs r L) 53 [(0, .ref (B0 + 97)), (1, .int v1)] [] zSH zKn bc bs I L := by
  unfold f_X12_findNets_53 at h
  refine z_iload_n C rfl 1 rfl dX12_findNets_53 ?_
  refine z_aload_n C rfl 0 rfl dX12_findNets_54 ?_
  refine z_geti C zc_12 dX12_findNets_55 35 97 rfl (by decide) (by decide) q_1204 rfl ?_
  refine z_icmp_ge C 74 (by decide) dX12_findNets_58 (fun hc => ?_) (fun hc => ?_)
  · have h := zif_t hc h
    refine z_iconst C (v := 1) (by decide) dX12_findNets_74 ?_
    refine z_istore_n C (lv' := [(1, .int (1 : Int32)), (0, .ref (B0 + 97))]) rfl (by decide) rfl dX12_findNets_75 ?_
    refine z_lv [1, 0] (lv' := [(0, .ref (B0 + 97)), (1, .int (1 : Int32))]) rfl ?_
    exact L_X12_findNets_76 C L (1 : Int32) I h
  · have h := zif_f hc h
    refine z_aload_n C rfl 0 rfl dX12_findNets_61 ?_
    refine z_getr C zc_12 dX12_findNets_62 36 97 122 rfl (by decide) (by decide) q_1205 rfl rfl ?_
    refine z_iload_n C rfl 1 rfl dX12_findNets_65 ?_
    refine z_iload_n C rfl 1 rfl dX12_findNets_66 ?_
    obtain ⟨hb10, h⟩ := zck_e h
    refine z_iastore C dX12_findNets_67 rfl rfl (by decide) (zbd_in hb10) ?_
    obtain ⟨I11, eI11, h⟩ := zlt_e h
    refine z_eqI C eI11 ?_
    obtain ⟨x12, ex12, h⟩ := zlt_e h
    refine z_iinc C (j := 1) (v := x12) (lv' := [(1, .int x12), (0, .ref (B0 + 97))]) rfl (by rw [ex12]; rfl) (by decide) rfl dX12_findNets_68 ?_
    refine z_goto C 53 (by decide) dX12_findNets_71 ?_
    refine z_lv [1, 0] (lv' := [(0, .ref (B0 + 97)), (1, .int x12)]) rfl ?_
    exact hk53 x12 I11 h
set_option maxHeartbeats 4000000 in
set_option maxRecDepth 100000 in
theorem L_X12_findNets_53 {r : zI} (C : zC p l e R s m args below meth c s0 a0 d cy B0 yX12_findNets.cls cX12_findNets 4 none bc bs bc bs 2 51 []) (L : zL) (v1 : Int32) (I : zI) (h : zlp2 (f_X12_findNets_53) zF v1 I = some r) : zG p l e R s m args below meth c d cy B0 4 bc bs (zQ below s args d cy B0 bc bs (.inl none) zSH zKn bc bs r L) 53 [(0, .ref (B0 + 97)), (1, .int v1)] [] zSH zKn bc bs I L :=
 zlp2_e (fun (v1 : Int32) (I : zI) => zG p l e R s m args below meth c d cy B0 4 bc bs (zQ below s args d cy B0 bc bs (.inl none) zSH zKn bc bs r L) 53 [(0, .ref (B0 + 97)), (1, .int v1)] [] zSH zKn bc bs I L) (fun k9 hk9 v1 I h => l_X12_findNets_53 C L k9 hk9 v1 I h) zF v1 I h
set_option maxHeartbeats 4000000 in
set_option maxRecDepth 100000 in
theorem l_X12_findNets_7 {r : zI} (C : zC p l e R s m args below meth c s0 a0 d cy B0 yX12_findNets.cls cX12_findNets 4 none bc bs bc bs 2 51 []) (L : zL) (k7 : Int32 → zI → Option zI) (hk7 : ∀ (v1 : Int32) (I : zI), k7 v1 I = some r → zG p l e R s m args below meth c d cy B0 4 bc bs (zQ below s args d cy B0 bc bs (.inl none) zSH zKn bc bs r L) 7 [(0, .ref (B0 + 97)), (1, .int v1)] [] zSH zKn bc bs I L) (v1 : Int32) (I : zI) (h : f_X12_findNets_7 k7 v1 I = some r) : zG p l e R s m args below meth c d cy B0 4 bc bs (zQ below s args d cy B0 bc bs (.inl none) zSH zKn bc bs r L) 7 [(0, .ref (B0 + 97)), (1, .int v1)] [] zSH zKn bc bs I L := by
  unfold f_X12_findNets_7 at h
  refine z_iload_n C rfl 1 rfl dX12_findNets_7 ?_
  refine z_aload_n C rfl 0 rfl dX12_findNets_8 ?_
  refine z_geti C zc_12 dX12_findNets_9 13 97 rfl (by decide) (by decide) q_1182 rfl ?_
  refine z_icmp_ge C 51 (by decide) dX12_findNets_12 (fun hc => ?_) (fun hc => ?_)
  · have h := zif_t hc h
    refine z_iconst C (v := 0) (by decide) dX12_findNets_51 ?_
    refine z_istore_n C (lv' := [(1, .int (0 : Int32)), (0, .ref (B0 + 97))]) rfl (by decide) rfl dX12_findNets_52 ?_
    refine z_lv [1, 0] (lv' := [(0, .ref (B0 + 97)), (1, .int (0 : Int32))]) rfl ?_
    exact L_X12_findNets_53 C L (0 : Int32) I h
  · have h := zif_f hc h
    refine z_aload_n C rfl 0 rfl dX12_findNets_15 ?_
    refine z_getr C zc_12 dX12_findNets_16 34 97 121 rfl (by decide) (by decide) q_1203 rfl rfl ?_
    refine z_iload_n C rfl 1 rfl dX12_findNets_19 ?_
    refine z_aload_n C rfl 0 rfl dX12_findNets_20 ?_
    refine z_geti C zc_12 dX12_findNets_21 35 97 rfl (by decide) (by decide) q_1204 rfl ?_
    obtain ⟨hb2, h⟩ := zck_e h
    refine z_iastore C dX12_findNets_24 rfl rfl (by decide) (zbd_in hb2) ?_
    obtain ⟨I3, eI3, h⟩ := zlt_e h
    refine z_eqI C eI3 ?_
    refine z_aload_n C rfl 0 rfl dX12_findNets_25 ?_
    refine z_dup C rfl dX12_findNets_26 ?_
    refine z_geti C zc_12 dX12_findNets_27 35 97 rfl (by decide) (by decide) q_1204 rfl ?_
    refine z_aload_n C rfl 0 rfl dX12_findNets_30 ?_
    refine z_getr C zc_12 dX12_findNets_31 33 97 120 rfl (by decide) (by decide) q_1202 rfl rfl ?_
    refine z_aload_n C rfl 0 rfl dX12_findNets_34 ?_
    refine z_getr C zc_12 dX12_findNets_35 20 97 109 rfl (by decide) (by decide) q_1189 rfl rfl ?_
    refine z_iload_n C rfl 1 rfl dX12_findNets_38 ?_
    obtain ⟨hb4, h⟩ := zck_e h
    refine z_iaload C dX12_findNets_39 rfl rfl (by decide) (zbd_in hb4) ?_
    obtain ⟨x5, ex5, h⟩ := zlt_e h
    refine z_eqi C ex5 ?_
    obtain ⟨hb6, h⟩ := zck_e h
    refine z_iaload C dX12_findNets_40 rfl rfl (by decide) (zbd_in hb6) ?_
    refine z_iadd C dX12_findNets_41 ?_
    obtain ⟨x7, ex7, h⟩ := zlt_e h
    refine z_eqi C ex7 ?_
    refine z_puti C zc_12 dX12_findNets_42 35 97 rfl (by decide) (by decide) rfl q_1204 rfl rfl rfl ?_
    obtain ⟨I8, eI8, h⟩ := zlt_e h
    refine z_eqI C eI8 ?_
    obtain ⟨x9, ex9, h⟩ := zlt_e h
    refine z_iinc C (j := 1) (v := x9) (lv' := [(1, .int x9), (0, .ref (B0 + 97))]) rfl (by rw [ex9]; rfl) (by decide) rfl dX12_findNets_45 ?_
    refine z_goto C 7 (by decide) dX12_findNets_48 ?_
    refine z_lv [1, 0] (lv' := [(0, .ref (B0 + 97)), (1, .int x9)]) rfl ?_
    exact hk7 x9 I8 h
set_option maxHeartbeats 4000000 in
set_option maxRecDepth 100000 in
theorem L_X12_findNets_7 {r : zI} (C : zC p l e R s m args below meth c s0 a0 d cy B0 yX12_findNets.cls cX12_findNets 4 none bc bs bc bs 2 51 []) (L : zL) (v1 : Int32) (I : zI) (h : zlp2 (f_X12_findNets_7) zF v1 I = some r) : zG p l e R s m args below meth c d cy B0 4 bc bs (zQ below s args d cy B0 bc bs (.inl none) zSH zKn bc bs r L) 7 [(0, .ref (B0 + 97)), (1, .int v1)] [] zSH zKn bc bs I L :=
 zlp2_e (fun (v1 : Int32) (I : zI) => zG p l e R s m args below meth c d cy B0 4 bc bs (zQ below s args d cy B0 bc bs (.inl none) zSH zKn bc bs r L) 7 [(0, .ref (B0 + 97)), (1, .int v1)] [] zSH zKn bc bs I L) (fun k9 hk9 v1 I h => l_X12_findNets_7 C L k9 hk9 v1 I h) zF v1 I h
set_option maxHeartbeats 4000000 in
set_option maxRecDepth 100000 in
theorem c_X12_findNets {r : zI} (hE : zE0 l s0 a0 d cy B0) (I : zI) (L : zL) (h : f_X12_findNets I = some r) : zM l s0 d cy B0 yX12_findNets cX12_findNets 4 none 2 51 [.ref (B0 + 97)] zSH zKn bc bs I L (.inl none) zSH zKn bc bs r L := by
  refine z_meth yy_X12_findNets hE (Nat.le_of_ble_eq_true rfl) (fun p e R s m args below meth c C => ?_)
  show zG p l e R s m args below meth c d cy B0 4 bc bs (zQ below s args d cy B0 bc bs (.inl none) zSH zKn bc bs r L) 0 [(0, .ref (B0 + 97))] [] zSH zKn bc bs I L
  unfold f_X12_findNets at h
  refine z_aload_n C rfl 0 rfl dX12_findNets_0 ?_
  refine z_iconst C (v := 0) (by decide) dX12_findNets_1 ?_
  refine z_puti C zc_12 dX12_findNets_2 35 97 rfl (by decide) (by decide) rfl q_1204 rfl rfl rfl ?_
  obtain ⟨I1, eI1, h⟩ := zlt_e h
  refine z_eqI C eI1 ?_
  refine z_iconst C (v := 0) (by decide) dX12_findNets_5 ?_
  refine z_istore_n C (lv' := [(1, .int (0 : Int32)), (0, .ref (B0 + 97))]) rfl (by decide) rfl dX12_findNets_6 ?_
  refine z_lv [1, 0] (lv' := [(0, .ref (B0 + 97)), (1, .int (0 : Int32))]) rfl ?_
  exact L_X12_findNets_7 C L (0 : Int32) I1 h
end Zp05_19_walk
