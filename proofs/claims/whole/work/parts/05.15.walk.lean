section Zp05_15_walk
variable {p : Program} {l : Launch} {e : Env} {R : Room} {s : State} {m : MethodId} {args : Array Value} {below : List Frame} {meth : Method} {c : Code} {s0 : State} {a0 : Array Value} {d : va_G} {cy : Nat → ClassId} {B0 : Nat} {bc bs : Nat}
theorem q_1361 : (Cond.code ({ cls := "DeviceFindModel", name := "isSquare", desc := "(JJ)Z" } : Jvm.MethodName) prog_14_method_5_code (4 : Nat) (Option.some Jvm.ClassFile.FieldType.boolean)) ∈ lw_tbl := List.mem_of_getElem? (i := 1361) (by decide +kernel)
theorem yy_X12_isSquare : zY yX12_isSquare cX12_isSquare 4 (some .boolean) 2 := ⟨q_1361, q_88, by decide +kernel, by decide +kernel, by decide +kernel⟩
noncomputable def f_X12_isSquare_33 (w0 : Int32) : Option Int32 :=
  zck (zbo w0) (some w0)
noncomputable def f_X12_isSquare_32 : Option Int32 :=
  f_X12_isSquare_33 (0 : Int32)
noncomputable def f_X12_isSquare (a0 : Int64) (a1 : Int64) : Option Int32 :=
  if a0 < (0 : Int64) then (f_X12_isSquare_32 ) else (if (64 : Int64) ≤ a0 then (f_X12_isSquare_32 ) else (if a1 < (0 : Int64) then (f_X12_isSquare_32 ) else (if (64 : Int64) ≤ a1 then (f_X12_isSquare_32 ) else (f_X12_isSquare_33 (1 : Int32)))))
set_option maxHeartbeats 4000000 in
set_option maxRecDepth 100000 in
theorem l_X12_isSquare_33 {r : Int32} (C : zC p l e R s m args below meth c s0 a0 d cy B0 yX12_isSquare.cls cX12_isSquare 4 (some .boolean) bc bs bc bs 0 0 []) (I : zI) (L : zL) (w0 : Int32) (h : f_X12_isSquare_33 w0 = some r) : zG p l e R s m args below meth c d cy B0 4 bc bs (zQ below s args d cy B0 bc bs (.inl (some (.int r))) zSH zKn bc bs I L) 33 [] [.int w0] zSH zKn bc bs I L := by
  unfold f_X12_isSquare_33 at h
  obtain ⟨hb1, h⟩ := zck_e h
  obtain rfl := Option.some.inj h
  exact z_iret C dX12_isSquare_33 .boolean rfl (zbo_n hb1).1 rfl
set_option maxHeartbeats 4000000 in
set_option maxRecDepth 100000 in
theorem l_X12_isSquare_32 {r : Int32} (C : zC p l e R s m args below meth c s0 a0 d cy B0 yX12_isSquare.cls cX12_isSquare 4 (some .boolean) bc bs bc bs 0 0 []) (I : zI) (L : zL) (h : f_X12_isSquare_32 = some r) : zG p l e R s m args below meth c d cy B0 4 bc bs (zQ below s args d cy B0 bc bs (.inl (some (.int r))) zSH zKn bc bs I L) 32 [] [] zSH zKn bc bs I L := by
  unfold f_X12_isSquare_32 at h
  refine z_iconst C (v := 0) (by decide) dX12_isSquare_32 ?_
  exact l_X12_isSquare_33 C I L (0 : Int32) h
set_option maxHeartbeats 4000000 in
set_option maxRecDepth 100000 in
theorem c_X12_isSquare {r : Int32} (hE : zE0 l s0 a0 d cy B0) (a0 : Int64) (a1 : Int64) (I : zI) (L : zL) (h : f_X12_isSquare a0 a1 = some r) : zM l s0 d cy B0 yX12_isSquare cX12_isSquare 4 (some .boolean) 0 0 [.long a0, .long a1] zSH zKn bc bs I L (.inl (some (.int r))) zSH zKn bc bs I L := by
  refine z_meth yy_X12_isSquare hE (Nat.le_of_ble_eq_true rfl) (fun p e R s m args below meth c C => ?_)
  show zG p l e R s m args below meth c d cy B0 4 bc bs (zQ below s args d cy B0 bc bs (.inl (some (.int r))) zSH zKn bc bs I L) 0 [(0, .long a0), (2, .long a1)] [] zSH zKn bc bs I L
  unfold f_X12_isSquare at h
  refine z_lload_n C rfl 0 rfl dX12_isSquare_0 ?_
  refine z_lconst C (v := 0) (by decide) dX12_isSquare_1 ?_
  refine z_lif_lt C 32 (by decide) dX12_isSquare_2 dX12_isSquare_3 (fun hc => ?_) (fun hc => ?_)
  · have h := zif_t hc h
    refine z_lv [] (lv' := []) rfl ?_
    exact l_X12_isSquare_32 C I L  h
  · have h := zif_f hc h
    refine z_lload_n C rfl 0 rfl dX12_isSquare_6 ?_
    refine z_ldc2 C dX12_isSquare_7 q_1354 ?_
    refine z_lif_ge C 32 (by decide) dX12_isSquare_10 dX12_isSquare_11 (fun hc => ?_) (fun hc => ?_)
    · have h := zif_t hc h
      refine z_lv [] (lv' := []) rfl ?_
      exact l_X12_isSquare_32 C I L  h
    · have h := zif_f hc h
      refine z_lload_n C rfl 1 rfl dX12_isSquare_14 ?_
      refine z_lconst C (v := 0) (by decide) dX12_isSquare_15 ?_
      refine z_lif_lt C 32 (by decide) dX12_isSquare_16 dX12_isSquare_17 (fun hc => ?_) (fun hc => ?_)
      · have h := zif_t hc h
        refine z_lv [] (lv' := []) rfl ?_
        exact l_X12_isSquare_32 C I L  h
      · have h := zif_f hc h
        refine z_lload_n C rfl 1 rfl dX12_isSquare_20 ?_
        refine z_ldc2 C dX12_isSquare_21 q_1354 ?_
        refine z_lif_ge C 32 (by decide) dX12_isSquare_24 dX12_isSquare_25 (fun hc => ?_) (fun hc => ?_)
        · have h := zif_t hc h
          refine z_lv [] (lv' := []) rfl ?_
          exact l_X12_isSquare_32 C I L  h
        · have h := zif_f hc h
          refine z_iconst C (v := 1) (by decide) dX12_isSquare_28 ?_
          refine z_goto C 33 (by decide) dX12_isSquare_29 ?_
          refine z_lv [] (lv' := []) rfl ?_
          exact l_X12_isSquare_33 C I L (1 : Int32) h
theorem q_1176 : (Cond.fieldLink "DeviceFindModel" (140 : Nat) "DeviceFindModel" "texts" "I") ∈ lw_tbl := List.mem_of_getElem? (i := 1176) (by decide +kernel)
theorem q_1177 : (Cond.fieldLink "DeviceFindModel" (22 : Nat) "DeviceFindModel" "textWire" "[I") ∈ lw_tbl := List.mem_of_getElem? (i := 1177) (by decide +kernel)
theorem q_1178 : (Cond.fieldLink "DeviceFindModel" (25 : Nat) "DeviceFindModel" "textAt" "[I") ∈ lw_tbl := List.mem_of_getElem? (i := 1178) (by decide +kernel)
theorem q_1179 : (Cond.fieldLink "DeviceFindModel" (28 : Nat) "DeviceFindModel" "textName" "[I") ∈ lw_tbl := List.mem_of_getElem? (i := 1179) (by decide +kernel)
theorem q_1358 : (Cond.code ({ cls := "DeviceFindModel", name := "text", desc := "(IJJI)I" } : Jvm.MethodName) prog_14_method_6_code (7 : Nat) (Option.some Jvm.ClassFile.FieldType.int)) ∈ lw_tbl := List.mem_of_getElem? (i := 1358) (by decide +kernel)
theorem q_1359 : (Cond.methodLink "DeviceFindModel" (136 : Nat) ({ cls := "DeviceFindModel", name := "isSquare", desc := "(JJ)Z" } : Jvm.MethodName)) ∈ lw_tbl := List.mem_of_getElem? (i := 1359) (by decide +kernel)
theorem q_1360 : (Cond.static ({ cls := "DeviceFindModel", name := "isSquare", desc := "(JJ)Z" } : Jvm.MethodName)) ∈ lw_tbl := List.mem_of_getElem? (i := 1360) (by decide +kernel)
theorem yy_X12_text : zY yX12_text cX12_text 7 (some .int) 4 := ⟨q_1358, q_88, by decide +kernel, by decide +kernel, by decide +kernel⟩
noncomputable def f_X12_text_47 (v1 : Int32) (v2 : Int64) (v4 : Int64) (v6 : Int32) (w1 : Int32) (I : zI) : Option (Int32 × zI) :=
  zlt (zu I 97 0 w1) (fun I3 => if (I3 97 0) ≤ 0 then (zck (zbd (I3 97 7) 40) (zlt (zu I3 102 (I3 97 7).toNatClampNeg v1) (fun I5 => zlt ((64 : Int32) * v4.toInt32) (fun x6 => zlt (x6 + v2.toInt32) (fun x7 => zck (zbd (I5 97 7) 40) (zlt (zu I5 103 (I5 97 7).toNatClampNeg x7) (fun I9 => zck (zbd (I9 97 7) 40) (zlt (zu I9 104 (I9 97 7).toNatClampNeg v6) (fun I11 => zlt ((I11 97 7) + (1 : Int32)) (fun x12 => zlt (zu I11 97 7 x12) (fun I13 => zlt (zu I13 97 30 (0 : Int32)) (fun I14 => zlt (I14 97 7) (fun x15 => some (x15, I14)))))))))))))) else (some ((0 : Int32), I3)))
noncomputable def f_X12_text_20 (v1 : Int32) (v2 : Int64) (v4 : Int64) (v6 : Int32) (I : zI) : Option (Int32 × zI) :=
  f_X12_text_47 v1 v2 v4 v6 (1 : Int32) I
noncomputable def f_X12_text (a1 : Int32) (a2 : Int64) (a3 : Int64) (a4 : Int32) (I : zI) : Option (Int32 × zI) :=
  if a1 < 0 then (f_X12_text_20 a1 a2 a3 a4 I) else (if (8 : Int32) ≤ a1 then (f_X12_text_20 a1 a2 a3 a4 I) else (zb1 (f_X12_isSquare a2 a3) (fun x2 => if x2 = 0 then (f_X12_text_20 a1 a2 a3 a4 I) else (if (I 97 7) = (40 : Int32) then (f_X12_text_47 a1 a2 a3 a4 (2 : Int32) I) else (if 0 ≤ a4 then (f_X12_text_47 a1 a2 a3 a4 (0 : Int32) I) else (f_X12_text_47 a1 a2 a3 a4 (3 : Int32) I))))))
set_option maxHeartbeats 4000000 in
set_option maxRecDepth 100000 in
theorem l_X12_text_47 {r : Int32 × zI} (C : zC p l e R s m args below meth c s0 a0 d cy B0 yX12_text.cls cX12_text 7 (some .int) bc bs bc bs 1 23 []) (L : zL) (v1 : Int32) (v2 : Int64) (v4 : Int64) (v6 : Int32) (w1 : Int32) (I : zI) (h : f_X12_text_47 v1 v2 v4 v6 w1 I = some r) : zG p l e R s m args below meth c d cy B0 7 bc bs (zQ below s args d cy B0 bc bs (.inl (some (.int r.1))) zSH zKn bc bs r.2 L) 47 [(0, .ref (B0 + 97)), (1, .int v1), (2, .long v2), (4, .long v4), (6, .int v6)] [.int w1, .ref (B0 + 97)] zSH zKn bc bs I L := by
  unfold f_X12_text_47 at h
  refine z_puti C zc_12 dX12_text_47 0 97 rfl (by decide) (by decide) rfl q_1169 rfl rfl rfl ?_
  obtain ⟨I3, eI3, h⟩ := zlt_e h
  refine z_eqI C eI3 ?_
  refine z_aload_n C rfl 0 rfl dX12_text_50 ?_
  refine z_geti C zc_12 dX12_text_51 0 97 rfl (by decide) (by decide) q_1169 rfl ?_
  refine z_if_le C 59 (by decide) dX12_text_54 (fun hc => ?_) (fun hc => ?_)
  · have h := zif_t hc h
    refine z_aload_n C rfl 0 rfl dX12_text_59 ?_
    refine z_getr C zc_12 dX12_text_60 8 97 102 rfl (by decide) (by decide) q_1177 rfl rfl ?_
    refine z_aload_n C rfl 0 rfl dX12_text_63 ?_
    refine z_geti C zc_12 dX12_text_64 7 97 rfl (by decide) (by decide) q_1176 rfl ?_
    refine z_iload_n C rfl 1 rfl dX12_text_67 ?_
    obtain ⟨hb4, h⟩ := zck_e h
    refine z_iastore C dX12_text_68 rfl rfl (by decide) (zbd_in hb4) ?_
    obtain ⟨I5, eI5, h⟩ := zlt_e h
    refine z_eqI C eI5 ?_
    refine z_aload_n C rfl 0 rfl dX12_text_69 ?_
    refine z_getr C zc_12 dX12_text_70 9 97 103 rfl (by decide) (by decide) q_1178 rfl rfl ?_
    refine z_aload_n C rfl 0 rfl dX12_text_73 ?_
    refine z_geti C zc_12 dX12_text_74 7 97 rfl (by decide) (by decide) q_1176 rfl ?_
    refine z_bipush C (v := 64) (by decide) dX12_text_77 ?_
    refine z_lload C 3 rfl dX12_text_79 ?_
    refine z_l2i C dX12_text_81 ?_
    refine z_imul C dX12_text_82 ?_
    obtain ⟨x6, ex6, h⟩ := zlt_e h
    refine z_eqi C ex6 ?_
    refine z_lload_n C rfl 2 rfl dX12_text_83 ?_
    refine z_l2i C dX12_text_84 ?_
    refine z_iadd C dX12_text_85 ?_
    obtain ⟨x7, ex7, h⟩ := zlt_e h
    refine z_eqi C ex7 ?_
    obtain ⟨hb8, h⟩ := zck_e h
    refine z_iastore C dX12_text_86 rfl rfl (by decide) (zbd_in hb8) ?_
    obtain ⟨I9, eI9, h⟩ := zlt_e h
    refine z_eqI C eI9 ?_
    refine z_aload_n C rfl 0 rfl dX12_text_87 ?_
    refine z_getr C zc_12 dX12_text_88 10 97 104 rfl (by decide) (by decide) q_1179 rfl rfl ?_
    refine z_aload_n C rfl 0 rfl dX12_text_91 ?_
    refine z_geti C zc_12 dX12_text_92 7 97 rfl (by decide) (by decide) q_1176 rfl ?_
    refine z_iload C 4 rfl dX12_text_95 ?_
    obtain ⟨hb10, h⟩ := zck_e h
    refine z_iastore C dX12_text_97 rfl rfl (by decide) (zbd_in hb10) ?_
    obtain ⟨I11, eI11, h⟩ := zlt_e h
    refine z_eqI C eI11 ?_
    refine z_aload_n C rfl 0 rfl dX12_text_98 ?_
    refine z_dup C rfl dX12_text_99 ?_
    refine z_geti C zc_12 dX12_text_100 7 97 rfl (by decide) (by decide) q_1176 rfl ?_
    refine z_iconst C (v := 1) (by decide) dX12_text_103 ?_
    refine z_iadd C dX12_text_104 ?_
    obtain ⟨x12, ex12, h⟩ := zlt_e h
    refine z_eqi C ex12 ?_
    refine z_puti C zc_12 dX12_text_105 7 97 rfl (by decide) (by decide) rfl q_1176 rfl rfl rfl ?_
    obtain ⟨I13, eI13, h⟩ := zlt_e h
    refine z_eqI C eI13 ?_
    refine z_aload_n C rfl 0 rfl dX12_text_108 ?_
    refine z_iconst C (v := 0) (by decide) dX12_text_109 ?_
    refine z_puti C zc_12 dX12_text_110 30 97 rfl (by decide) (by decide) rfl q_1199 rfl rfl rfl ?_
    obtain ⟨I14, eI14, h⟩ := zlt_e h
    refine z_eqI C eI14 ?_
    refine z_aload_n C rfl 0 rfl dX12_text_113 ?_
    refine z_geti C zc_12 dX12_text_114 7 97 rfl (by decide) (by decide) q_1176 rfl ?_
    obtain ⟨x15, ex15, h⟩ := zlt_e h
    refine z_eqi C ex15 ?_
    obtain rfl := Option.some.inj h
    exact z_iret C dX12_text_117 .int rfl rfl rfl
  · have h := zif_f hc h
    refine z_iconst C (v := 0) (by decide) dX12_text_57 ?_
    obtain rfl := Option.some.inj h
    exact z_iret C dX12_text_58 .int rfl rfl rfl
set_option maxHeartbeats 4000000 in
set_option maxRecDepth 100000 in
theorem l_X12_text_20 {r : Int32 × zI} (C : zC p l e R s m args below meth c s0 a0 d cy B0 yX12_text.cls cX12_text 7 (some .int) bc bs bc bs 1 23 []) (L : zL) (v1 : Int32) (v2 : Int64) (v4 : Int64) (v6 : Int32) (I : zI) (h : f_X12_text_20 v1 v2 v4 v6 I = some r) : zG p l e R s m args below meth c d cy B0 7 bc bs (zQ below s args d cy B0 bc bs (.inl (some (.int r.1))) zSH zKn bc bs r.2 L) 20 [(0, .ref (B0 + 97)), (1, .int v1), (2, .long v2), (4, .long v4), (6, .int v6)] [.ref (B0 + 97)] zSH zKn bc bs I L := by
  unfold f_X12_text_20 at h
  refine z_iconst C (v := 1) (by decide) dX12_text_20 ?_
  refine z_goto C 47 (by decide) dX12_text_21 ?_
  exact l_X12_text_47 C L v1 v2 v4 v6 (1 : Int32) I h
set_option maxHeartbeats 4000000 in
set_option maxRecDepth 100000 in
theorem c_X12_text {r : Int32 × zI} (hE : zE0 l s0 a0 d cy B0) (a1 : Int32) (a2 : Int64) (a3 : Int64) (a4 : Int32) (I : zI) (L : zL) (h : f_X12_text a1 a2 a3 a4 I = some r) : zM l s0 d cy B0 yX12_text cX12_text 7 (some .int) 1 23 [.ref (B0 + 97), .int a1, .long a2, .long a3, .int a4] zSH zKn bc bs I L (.inl (some (.int r.1))) zSH zKn bc bs r.2 L := by
  refine z_meth yy_X12_text hE (Nat.le_of_ble_eq_true rfl) (fun p e R s m args below meth c C => ?_)
  show zG p l e R s m args below meth c d cy B0 7 bc bs (zQ below s args d cy B0 bc bs (.inl (some (.int r.1))) zSH zKn bc bs r.2 L) 0 [(0, .ref (B0 + 97)), (1, .int a1), (2, .long a2), (4, .long a3), (6, .int a4)] [] zSH zKn bc bs I L
  unfold f_X12_text at h
  refine z_aload_n C rfl 0 rfl dX12_text_0 ?_
  refine z_iload_n C rfl 1 rfl dX12_text_1 ?_
  refine z_if_lt C 20 (by decide) dX12_text_2 (fun hc => ?_) (fun hc => ?_)
  · have h := zif_t hc h
    exact l_X12_text_20 C L a1 a2 a3 a4 I h
  · have h := zif_f hc h
    refine z_iload_n C rfl 1 rfl dX12_text_5 ?_
    refine z_bipush C (v := 8) (by decide) dX12_text_6 ?_
    refine z_icmp_ge C 20 (by decide) dX12_text_8 (fun hc => ?_) (fun hc => ?_)
    · have h := zif_t hc h
      exact l_X12_text_20 C L a1 a2 a3 a4 I h
    · have h := zif_f hc h
      refine z_lload_n C rfl 2 rfl dX12_text_11 ?_
      refine z_lload C 3 rfl dX12_text_12 ?_
      obtain ⟨x2, hg1, h⟩ := zb1_e h
      refine z_callS C dX12_text_14 yy_X12_isSquare (c_X12_isSquare C.2.2.2.2.1  a2 a3 I L hg1) q_1359 q_1360 (by decide) (by decide) rfl rfl (Nat.le_of_ble_eq_true rfl) ⟨Nat.le_refl _, Nat.le_refl _, Nat.le_refl _, Nat.le_refl _⟩ ?_
      refine z_if_ne C 24 (by decide) dX12_text_17 (fun hc => ?_) (fun hc => ?_)
      · have h := zif_f hc h
        refine z_aload_n C rfl 0 rfl dX12_text_24 ?_
        refine z_geti C zc_12 dX12_text_25 7 97 rfl (by decide) (by decide) q_1176 rfl ?_
        refine z_bipush C (v := 40) (by decide) dX12_text_28 ?_
        refine z_icmp_ne C 37 (by decide) dX12_text_30 (fun hc => ?_) (fun hc => ?_)
        · have h := zif_f hc h
          refine z_iload C 4 rfl dX12_text_37 ?_
          refine z_if_ge C 46 (by decide) dX12_text_39 (fun hc => ?_) (fun hc => ?_)
          · have h := zif_t hc h
            refine z_iconst C (v := 0) (by decide) dX12_text_46 ?_
            exact l_X12_text_47 C L a1 a2 a3 a4 (0 : Int32) I h
          · have h := zif_f hc h
            refine z_iconst C (v := 3) (by decide) dX12_text_42 ?_
            refine z_goto C 47 (by decide) dX12_text_43 ?_
            exact l_X12_text_47 C L a1 a2 a3 a4 (3 : Int32) I h
        · have h := zif_t hc h
          refine z_iconst C (v := 2) (by decide) dX12_text_33 ?_
          refine z_goto C 47 (by decide) dX12_text_34 ?_
          exact l_X12_text_47 C L a1 a2 a3 a4 (2 : Int32) I h
      · have h := zif_t hc h
        exact l_X12_text_20 C L a1 a2 a3 a4 I h
theorem q_1460 : (Cond.code ({ cls := "DeviceFindModel", name := "isOpen", desc := "(I)Z" } : Jvm.MethodName) prog_14_method_7_code (4 : Nat) (Option.some Jvm.ClassFile.FieldType.boolean)) ∈ lw_tbl := List.mem_of_getElem? (i := 1460) (by decide +kernel)
theorem yy_X12_isOpen : zY yX12_isOpen cX12_isOpen 4 (some .boolean) 1 := ⟨q_1460, q_88, by decide +kernel, by decide +kernel, by decide +kernel⟩
noncomputable def f_X12_isOpen_74 (w0 : Int32) (I : zI) : Option Int32 :=
  zck (zbo w0) (some w0)
noncomputable def f_X12_isOpen_69 (I : zI) : Option Int32 :=
  f_X12_isOpen_74 (1 : Int32) I
noncomputable def f_X12_isOpen_66 (w0 : Int32) (w1 : Int32) (I : zI) : Option Int32 :=
  if w0 = w1 then (f_X12_isOpen_69 I) else (f_X12_isOpen_74 (0 : Int32) I)
noncomputable def f_X12_isOpen_46 (v2 : Int32) (v3 : Int32) (w0 : Int32) (I : zI) : Option Int32 :=
  zck (zbd v2 960) (zck (zbd v3 960) (if (I 101 v2.toNatClampNeg) = (I 101 v3.toNatClampNeg) then (f_X12_isOpen_66 w0 (1 : Int32) I) else (f_X12_isOpen_66 w0 (0 : Int32) I)))
noncomputable def f_X12_isOpen (a1 : Int32) (I : zI) : Option Int32 :=
  zlt ((16 : Int32) * a1) (fun x1 => zck (zbd a1 60) (zlt (x1 + (I 99 a1.toNatClampNeg)) (fun x3 => zlt (x3 - (1 : Int32)) (fun x4 => zck (zbd a1 60) (if (I 99 a1.toNatClampNeg) < (4 : Int32) then (f_X12_isOpen_69 I) else (zck (zbd x1 960) (zck (zbd x4 960) (if (I 100 x1.toNatClampNeg) = (I 100 x4.toNatClampNeg) then (f_X12_isOpen_46 x1 x4 (1 : Int32) I) else (f_X12_isOpen_46 x1 x4 (0 : Int32) I)))))))))
set_option maxHeartbeats 4000000 in
set_option maxRecDepth 100000 in
theorem l_X12_isOpen_74 {r : Int32} (C : zC p l e R s m args below meth c s0 a0 d cy B0 yX12_isOpen.cls cX12_isOpen 4 (some .boolean) bc bs bc bs 0 0 []) (L : zL) (w0 : Int32) (I : zI) (h : f_X12_isOpen_74 w0 I = some r) : zG p l e R s m args below meth c d cy B0 4 bc bs (zQ below s args d cy B0 bc bs (.inl (some (.int r))) zSH zKn bc bs I L) 74 [] [.int w0] zSH zKn bc bs I L := by
  unfold f_X12_isOpen_74 at h
  obtain ⟨hb10, h⟩ := zck_e h
  obtain rfl := Option.some.inj h
  exact z_iret C dX12_isOpen_74 .boolean rfl (zbo_n hb10).1 rfl
set_option maxHeartbeats 4000000 in
set_option maxRecDepth 100000 in
theorem l_X12_isOpen_69 {r : Int32} (C : zC p l e R s m args below meth c s0 a0 d cy B0 yX12_isOpen.cls cX12_isOpen 4 (some .boolean) bc bs bc bs 0 0 []) (L : zL) (I : zI) (h : f_X12_isOpen_69 I = some r) : zG p l e R s m args below meth c d cy B0 4 bc bs (zQ below s args d cy B0 bc bs (.inl (some (.int r))) zSH zKn bc bs I L) 69 [] [] zSH zKn bc bs I L := by
  unfold f_X12_isOpen_69 at h
  refine z_iconst C (v := 1) (by decide) dX12_isOpen_69 ?_
  refine z_goto C 74 (by decide) dX12_isOpen_70 ?_
  exact l_X12_isOpen_74 C L (1 : Int32) I h
set_option maxHeartbeats 4000000 in
set_option maxRecDepth 100000 in
theorem l_X12_isOpen_66 {r : Int32} (C : zC p l e R s m args below meth c s0 a0 d cy B0 yX12_isOpen.cls cX12_isOpen 4 (some .boolean) bc bs bc bs 0 0 []) (L : zL) (w0 : Int32) (w1 : Int32) (I : zI) (h : f_X12_isOpen_66 w0 w1 I = some r) : zG p l e R s m args below meth c d cy B0 4 bc bs (zQ below s args d cy B0 bc bs (.inl (some (.int r))) zSH zKn bc bs I L) 66 [] [.int w1, .int w0] zSH zKn bc bs I L := by
  unfold f_X12_isOpen_66 at h
  refine z_icmp_ne C 73 (by decide) dX12_isOpen_66 (fun hc => ?_) (fun hc => ?_)
  · have h := zif_f hc h
    refine z_iconst C (v := 0) (by decide) dX12_isOpen_73 ?_
    exact l_X12_isOpen_74 C L (0 : Int32) I h
  · have h := zif_t hc h
    exact l_X12_isOpen_69 C L I h
set_option maxHeartbeats 4000000 in
set_option maxRecDepth 100000 in
theorem l_X12_isOpen_46 {r : Int32} (C : zC p l e R s m args below meth c s0 a0 d cy B0 yX12_isOpen.cls cX12_isOpen 4 (some .boolean) bc bs bc bs 0 0 []) (L : zL) (v2 : Int32) (v3 : Int32) (w0 : Int32) (I : zI) (h : f_X12_isOpen_46 v2 v3 w0 I = some r) : zG p l e R s m args below meth c d cy B0 4 bc bs (zQ below s args d cy B0 bc bs (.inl (some (.int r))) zSH zKn bc bs I L) 46 [(0, .ref (B0 + 97)), (2, .int v2), (3, .int v3)] [.int w0] zSH zKn bc bs I L := by
  unfold f_X12_isOpen_46 at h
  refine z_aload_n C rfl 0 rfl dX12_isOpen_46 ?_
  refine z_getr C zc_12 dX12_isOpen_47 6 97 101 rfl (by decide) (by decide) q_1175 rfl rfl ?_
  refine z_iload_n C rfl 1 rfl dX12_isOpen_50 ?_
  obtain ⟨hb8, h⟩ := zck_e h
  refine z_iaload C dX12_isOpen_51 rfl rfl (by decide) (zbd_in hb8) ?_
  refine z_aload_n C rfl 0 rfl dX12_isOpen_52 ?_
  refine z_getr C zc_12 dX12_isOpen_53 6 97 101 rfl (by decide) (by decide) q_1175 rfl rfl ?_
  refine z_iload_n C rfl 2 rfl dX12_isOpen_56 ?_
  obtain ⟨hb9, h⟩ := zck_e h
  refine z_iaload C dX12_isOpen_57 rfl rfl (by decide) (zbd_in hb9) ?_
  refine z_icmp_ne C 65 (by decide) dX12_isOpen_58 (fun hc => ?_) (fun hc => ?_)
  · have h := zif_f hc h
    refine z_iconst C (v := 0) (by decide) dX12_isOpen_65 ?_
    refine z_lv [] (lv' := []) rfl ?_
    exact l_X12_isOpen_66 C L w0 (0 : Int32) I h
  · have h := zif_t hc h
    refine z_iconst C (v := 1) (by decide) dX12_isOpen_61 ?_
    refine z_goto C 66 (by decide) dX12_isOpen_62 ?_
    refine z_lv [] (lv' := []) rfl ?_
    exact l_X12_isOpen_66 C L w0 (1 : Int32) I h
set_option maxHeartbeats 4000000 in
set_option maxRecDepth 100000 in
theorem c_X12_isOpen {r : Int32} (hE : zE0 l s0 a0 d cy B0) (a1 : Int32) (I : zI) (L : zL) (h : f_X12_isOpen a1 I = some r) : zM l s0 d cy B0 yX12_isOpen cX12_isOpen 4 (some .boolean) 0 0 [.ref (B0 + 97), .int a1] zSH zKn bc bs I L (.inl (some (.int r))) zSH zKn bc bs I L := by
  refine z_meth yy_X12_isOpen hE (Nat.le_of_ble_eq_true rfl) (fun p e R s m args below meth c C => ?_)
  show zG p l e R s m args below meth c d cy B0 4 bc bs (zQ below s args d cy B0 bc bs (.inl (some (.int r))) zSH zKn bc bs I L) 0 [(0, .ref (B0 + 97)), (1, .int a1)] [] zSH zKn bc bs I L
  unfold f_X12_isOpen at h
  refine z_bipush C (v := 16) (by decide) dX12_isOpen_0 ?_
  refine z_iload_n C rfl 1 rfl dX12_isOpen_2 ?_
  refine z_imul C dX12_isOpen_3 ?_
  obtain ⟨x1, ex1, h⟩ := zlt_e h
  refine z_eqi C ex1 ?_
  refine z_istore_n C (lv' := [(2, .int x1), (0, .ref (B0 + 97)), (1, .int a1)]) rfl (by decide) rfl dX12_isOpen_4 ?_
  refine z_iload_n C rfl 0 rfl dX12_isOpen_5 ?_
  refine z_aload_n C rfl 1 rfl dX12_isOpen_6 ?_
  refine z_getr C zc_12 dX12_isOpen_7 4 97 99 rfl (by decide) (by decide) q_1173 rfl rfl ?_
  refine z_iload_n C rfl 2 rfl dX12_isOpen_10 ?_
  obtain ⟨hb2, h⟩ := zck_e h
  refine z_iaload C dX12_isOpen_11 rfl rfl (by decide) (zbd_in hb2) ?_
  refine z_iadd C dX12_isOpen_12 ?_
  obtain ⟨x3, ex3, h⟩ := zlt_e h
  refine z_eqi C ex3 ?_
  refine z_iconst C (v := 1) (by decide) dX12_isOpen_13 ?_
  refine z_isub C dX12_isOpen_14 ?_
  obtain ⟨x4, ex4, h⟩ := zlt_e h
  refine z_eqi C ex4 ?_
  refine z_istore_n C (lv' := [(3, .int x4), (2, .int x1), (0, .ref (B0 + 97)), (1, .int a1)]) rfl (by decide) rfl dX12_isOpen_15 ?_
  refine z_aload_n C rfl 2 rfl dX12_isOpen_16 ?_
  refine z_getr C zc_12 dX12_isOpen_17 4 97 99 rfl (by decide) (by decide) q_1173 rfl rfl ?_
  refine z_iload_n C rfl 3 rfl dX12_isOpen_20 ?_
  obtain ⟨hb5, h⟩ := zck_e h
  refine z_iaload C dX12_isOpen_21 rfl rfl (by decide) (zbd_in hb5) ?_
  refine z_iconst C (v := 4) (by decide) dX12_isOpen_22 ?_
  refine z_icmp_lt C 69 (by decide) dX12_isOpen_23 (fun hc => ?_) (fun hc => ?_)
  · have h := zif_t hc h
    refine z_lv [] (lv' := []) rfl ?_
    exact l_X12_isOpen_69 C L I h
  · have h := zif_f hc h
    refine z_aload_n C rfl 2 rfl dX12_isOpen_26 ?_
    refine z_getr C zc_12 dX12_isOpen_27 5 97 100 rfl (by decide) (by decide) q_1174 rfl rfl ?_
    refine z_iload_n C rfl 1 rfl dX12_isOpen_30 ?_
    obtain ⟨hb6, h⟩ := zck_e h
    refine z_iaload C dX12_isOpen_31 rfl rfl (by decide) (zbd_in hb6) ?_
    refine z_aload_n C rfl 2 rfl dX12_isOpen_32 ?_
    refine z_getr C zc_12 dX12_isOpen_33 5 97 100 rfl (by decide) (by decide) q_1174 rfl rfl ?_
    refine z_iload_n C rfl 0 rfl dX12_isOpen_36 ?_
    obtain ⟨hb7, h⟩ := zck_e h
    refine z_iaload C dX12_isOpen_37 rfl rfl (by decide) (zbd_in hb7) ?_
    refine z_icmp_ne C 45 (by decide) dX12_isOpen_38 (fun hc => ?_) (fun hc => ?_)
    · have h := zif_f hc h
      refine z_iconst C (v := 0) (by decide) dX12_isOpen_45 ?_
      refine z_lv [2, 1, 0] (lv' := [(0, .ref (B0 + 97)), (2, .int x1), (3, .int x4)]) rfl ?_
      exact l_X12_isOpen_46 C L x1 x4 (0 : Int32) I h
    · have h := zif_t hc h
      refine z_iconst C (v := 1) (by decide) dX12_isOpen_41 ?_
      refine z_goto C 46 (by decide) dX12_isOpen_42 ?_
      refine z_lv [2, 1, 0] (lv' := [(0, .ref (B0 + 97)), (2, .int x1), (3, .int x4)]) rfl ?_
      exact l_X12_isOpen_46 C L x1 x4 (1 : Int32) I h
theorem q_1464 : (Cond.code ({ cls := "DeviceFindModel", name := "covers", desc := "(III)Z" } : Jvm.MethodName) prog_14_method_8_code (9 : Nat) (Option.some Jvm.ClassFile.FieldType.boolean)) ∈ lw_tbl := List.mem_of_getElem? (i := 1464) (by decide +kernel)
theorem yy_X12_covers : zY yX12_covers cX12_covers 9 (some .boolean) 3 := ⟨q_1464, q_88, by decide +kernel, by decide +kernel, by decide +kernel⟩
noncomputable def f_X12_covers_134 (k6 : Int32 → Int32 → Int32 → Int32 → Int32 → zI → Option Int32) (v1 : Int32) (v2 : Int32) (v3 : Int32) (v5 : Int32) (w0 : Int32) (I : zI) : Option Int32 :=
  zlt (v5 + 1) (fun x13 => k6 v1 v2 v3 w0 x13 I)
noncomputable def f_X12_covers_132 (k6 : Int32 → Int32 → Int32 → Int32 → Int32 → zI → Option Int32) (v1 : Int32) (v2 : Int32) (v3 : Int32) (v4 : Int32) (v5 : Int32) (I : zI) : Option Int32 :=
  f_X12_covers_134 k6 v1 v2 v3 v5 v4 I
noncomputable def f_X12_covers_116 (k6 : Int32 → Int32 → Int32 → Int32 → Int32 → zI → Option Int32) (v1 : Int32) (v2 : Int32) (v3 : Int32) (v4 : Int32) (v5 : Int32) (w0 : Int32) (w1 : Int32) (I : zI) : Option Int32 :=
  if w0 = w1 then (f_X12_covers_132 k6 v1 v2 v3 v4 v5 I) else (if v4 = 0 then (f_X12_covers_134 k6 v1 v2 v3 v5 (1 : Int32) I) else (f_X12_covers_134 k6 v1 v2 v3 v5 (0 : Int32) I))
noncomputable def f_X12_covers_100 (k6 : Int32 → Int32 → Int32 → Int32 → Int32 → zI → Option Int32) (v1 : Int32) (v2 : Int32) (v3 : Int32) (v4 : Int32) (v5 : Int32) (v7 : Int32) (w0 : Int32) (I : zI) : Option Int32 :=
  zck (zbd v7 960) (if v3 < (I 101 v7.toNatClampNeg) then (f_X12_covers_116 k6 v1 v2 v3 v4 v5 w0 (0 : Int32) I) else (f_X12_covers_116 k6 v1 v2 v3 v4 v5 w0 (1 : Int32) I))
noncomputable def f_X12_covers_77 (k6 : Int32 → Int32 → Int32 → Int32 → Int32 → zI → Option Int32) (v1 : Int32) (v2 : Int32) (v3 : Int32) (v4 : Int32) (v5 : Int32) (v6 : Int32) (v7 : Int32) (w0 : Int32) (I : zI) : Option Int32 :=
  if w0 = 0 then (f_X12_covers_132 k6 v1 v2 v3 v4 v5 I) else (zck (zbd v6 960) (if v3 < (I 101 v6.toNatClampNeg) then (f_X12_covers_100 k6 v1 v2 v3 v4 v5 v7 (0 : Int32) I) else (f_X12_covers_100 k6 v1 v2 v3 v4 v5 v7 (1 : Int32) I)))
noncomputable def f_X12_covers_76 (k6 : Int32 → Int32 → Int32 → Int32 → Int32 → zI → Option Int32) (v1 : Int32) (v2 : Int32) (v3 : Int32) (v4 : Int32) (v5 : Int32) (v6 : Int32) (v7 : Int32) (I : zI) : Option Int32 :=
  f_X12_covers_77 k6 v1 v2 v3 v4 v5 v6 v7 (0 : Int32) I
noncomputable def f_X12_covers_6 (k6 : Int32 → Int32 → Int32 → Int32 → Int32 → zI → Option Int32) (v1 : Int32) (v2 : Int32) (v3 : Int32) (v4 : Int32) (v5 : Int32) (I : zI) : Option Int32 :=
  zck (zbd v1 60) (if (I 99 v1.toNatClampNeg) ≤ v5 then (zck (zbo v4) (some v4)) else (zlt (((16 : Int32) * v1) + v5) (fun x3 => zck (zbd v1 60) (zck (decide (¬ (I 99 v1.toNatClampNeg) = 0)) (zlt ((v5 + (1 : Int32)) - (v5 + (1 : Int32)) / (I 99 v1.toNatClampNeg) * (I 99 v1.toNatClampNeg)) (fun x6 => zlt (((16 : Int32) * v1) + x6) (fun x7 => zck (zbd x3 960) (zck (zbd x7 960) (if (I 100 x3.toNatClampNeg) = (I 100 x7.toNatClampNeg) then (zck (zbd x3 960) (if (I 100 x3.toNatClampNeg) ≤ v2 then (f_X12_covers_76 k6 v1 v2 v3 v4 v5 x3 x7 I) else (f_X12_covers_77 k6 v1 v2 v3 v4 v5 x3 x7 (1 : Int32) I))) else (f_X12_covers_76 k6 v1 v2 v3 v4 v5 x3 x7 I))))))))))
noncomputable def f_X12_covers (a1 : Int32) (a2 : Int32) (a3 : Int32) (I : zI) : Option Int32 :=
  zlp6 (f_X12_covers_6) zF a1 a2 a3 (0 : Int32) (0 : Int32) I
set_option maxHeartbeats 4000000 in
set_option maxRecDepth 100000 in
theorem l_X12_covers_134 {r : Int32} (C : zC p l e R s m args below meth c s0 a0 d cy B0 yX12_covers.cls cX12_covers 9 (some .boolean) bc bs bc bs 0 0 []) (L : zL) (k6 : Int32 → Int32 → Int32 → Int32 → Int32 → zI → Option Int32) (hk6 : ∀ (v1 : Int32) (v2 : Int32) (v3 : Int32) (v4 : Int32) (v5 : Int32) (I : zI), k6 v1 v2 v3 v4 v5 I = some r → zG p l e R s m args below meth c d cy B0 9 bc bs (zQ below s args d cy B0 bc bs (.inl (some (.int r))) zSH zKn bc bs I L) 6 [(0, .ref (B0 + 97)), (1, .int v1), (2, .int v2), (3, .int v3), (4, .int v4), (5, .int v5)] [] zSH zKn bc bs I L) (v1 : Int32) (v2 : Int32) (v3 : Int32) (v5 : Int32) (w0 : Int32) (I : zI) (h : f_X12_covers_134 k6 v1 v2 v3 v5 w0 I = some r) : zG p l e R s m args below meth c d cy B0 9 bc bs (zQ below s args d cy B0 bc bs (.inl (some (.int r))) zSH zKn bc bs I L) 134 [(0, .ref (B0 + 97)), (1, .int v1), (2, .int v2), (3, .int v3), (5, .int v5)] [.int w0] zSH zKn bc bs I L := by
  unfold f_X12_covers_134 at h
  refine z_istore C (lv' := [(4, .int w0), (0, .ref (B0 + 97)), (1, .int v1), (2, .int v2), (3, .int v3), (5, .int v5)]) (by decide) rfl dX12_covers_134 ?_
  obtain ⟨x13, ex13, h⟩ := zlt_e h
  refine z_iinc C (j := 5) (v := x13) (lv' := [(5, .int x13), (4, .int w0), (0, .ref (B0 + 97)), (1, .int v1), (2, .int v2), (3, .int v3)]) rfl (by rw [ex13]; rfl) (by decide) rfl dX12_covers_136 ?_
  refine z_goto C 6 (by decide) dX12_covers_139 ?_
  refine z_lv [2, 3, 4, 5, 1, 0] (lv' := [(0, .ref (B0 + 97)), (1, .int v1), (2, .int v2), (3, .int v3), (4, .int w0), (5, .int x13)]) rfl ?_
  exact hk6 v1 v2 v3 w0 x13 I h
set_option maxHeartbeats 4000000 in
set_option maxRecDepth 100000 in
theorem l_X12_covers_132 {r : Int32} (C : zC p l e R s m args below meth c s0 a0 d cy B0 yX12_covers.cls cX12_covers 9 (some .boolean) bc bs bc bs 0 0 []) (L : zL) (k6 : Int32 → Int32 → Int32 → Int32 → Int32 → zI → Option Int32) (hk6 : ∀ (v1 : Int32) (v2 : Int32) (v3 : Int32) (v4 : Int32) (v5 : Int32) (I : zI), k6 v1 v2 v3 v4 v5 I = some r → zG p l e R s m args below meth c d cy B0 9 bc bs (zQ below s args d cy B0 bc bs (.inl (some (.int r))) zSH zKn bc bs I L) 6 [(0, .ref (B0 + 97)), (1, .int v1), (2, .int v2), (3, .int v3), (4, .int v4), (5, .int v5)] [] zSH zKn bc bs I L) (v1 : Int32) (v2 : Int32) (v3 : Int32) (v4 : Int32) (v5 : Int32) (I : zI) (h : f_X12_covers_132 k6 v1 v2 v3 v4 v5 I = some r) : zG p l e R s m args below meth c d cy B0 9 bc bs (zQ below s args d cy B0 bc bs (.inl (some (.int r))) zSH zKn bc bs I L) 132 [(0, .ref (B0 + 97)), (1, .int v1), (2, .int v2), (3, .int v3), (4, .int v4), (5, .int v5)] [] zSH zKn bc bs I L := by
  unfold f_X12_covers_132 at h
  refine z_iload C 4 rfl dX12_covers_132 ?_
  refine z_lv [0, 1, 2, 3, 5] (lv' := [(0, .ref (B0 + 97)), (1, .int v1), (2, .int v2), (3, .int v3), (5, .int v5)]) rfl ?_
  exact l_X12_covers_134 C L k6 hk6 v1 v2 v3 v5 v4 I h
set_option maxHeartbeats 4000000 in
set_option maxRecDepth 100000 in
theorem l_X12_covers_116 {r : Int32} (C : zC p l e R s m args below meth c s0 a0 d cy B0 yX12_covers.cls cX12_covers 9 (some .boolean) bc bs bc bs 0 0 []) (L : zL) (k6 : Int32 → Int32 → Int32 → Int32 → Int32 → zI → Option Int32) (hk6 : ∀ (v1 : Int32) (v2 : Int32) (v3 : Int32) (v4 : Int32) (v5 : Int32) (I : zI), k6 v1 v2 v3 v4 v5 I = some r → zG p l e R s m args below meth c d cy B0 9 bc bs (zQ below s args d cy B0 bc bs (.inl (some (.int r))) zSH zKn bc bs I L) 6 [(0, .ref (B0 + 97)), (1, .int v1), (2, .int v2), (3, .int v3), (4, .int v4), (5, .int v5)] [] zSH zKn bc bs I L) (v1 : Int32) (v2 : Int32) (v3 : Int32) (v4 : Int32) (v5 : Int32) (w0 : Int32) (w1 : Int32) (I : zI) (h : f_X12_covers_116 k6 v1 v2 v3 v4 v5 w0 w1 I = some r) : zG p l e R s m args below meth c d cy B0 9 bc bs (zQ below s args d cy B0 bc bs (.inl (some (.int r))) zSH zKn bc bs I L) 116 [(0, .ref (B0 + 97)), (1, .int v1), (2, .int v2), (3, .int v3), (4, .int v4), (5, .int v5)] [.int w1, .int w0] zSH zKn bc bs I L := by
  unfold f_X12_covers_116 at h
  refine z_icmp_eq C 132 (by decide) dX12_covers_116 (fun hc => ?_) (fun hc => ?_)
  · have h := zif_t hc h
    exact l_X12_covers_132 C L k6 hk6 v1 v2 v3 v4 v5 I h
  · have h := zif_f hc h
    refine z_iload C 4 rfl dX12_covers_119 ?_
    refine z_if_ne C 128 (by decide) dX12_covers_121 (fun hc => ?_) (fun hc => ?_)
    · have h := zif_f hc h
      refine z_iconst C (v := 0) (by decide) dX12_covers_128 ?_
      refine z_goto C 134 (by decide) dX12_covers_129 ?_
      refine z_lv [0, 1, 2, 3, 5] (lv' := [(0, .ref (B0 + 97)), (1, .int v1), (2, .int v2), (3, .int v3), (5, .int v5)]) rfl ?_
      exact l_X12_covers_134 C L k6 hk6 v1 v2 v3 v5 (0 : Int32) I h
    · have h := zif_t hc h
      refine z_iconst C (v := 1) (by decide) dX12_covers_124 ?_
      refine z_goto C 134 (by decide) dX12_covers_125 ?_
      refine z_lv [0, 1, 2, 3, 5] (lv' := [(0, .ref (B0 + 97)), (1, .int v1), (2, .int v2), (3, .int v3), (5, .int v5)]) rfl ?_
      exact l_X12_covers_134 C L k6 hk6 v1 v2 v3 v5 (1 : Int32) I h
set_option maxHeartbeats 4000000 in
set_option maxRecDepth 100000 in
theorem l_X12_covers_100 {r : Int32} (C : zC p l e R s m args below meth c s0 a0 d cy B0 yX12_covers.cls cX12_covers 9 (some .boolean) bc bs bc bs 0 0 []) (L : zL) (k6 : Int32 → Int32 → Int32 → Int32 → Int32 → zI → Option Int32) (hk6 : ∀ (v1 : Int32) (v2 : Int32) (v3 : Int32) (v4 : Int32) (v5 : Int32) (I : zI), k6 v1 v2 v3 v4 v5 I = some r → zG p l e R s m args below meth c d cy B0 9 bc bs (zQ below s args d cy B0 bc bs (.inl (some (.int r))) zSH zKn bc bs I L) 6 [(0, .ref (B0 + 97)), (1, .int v1), (2, .int v2), (3, .int v3), (4, .int v4), (5, .int v5)] [] zSH zKn bc bs I L) (v1 : Int32) (v2 : Int32) (v3 : Int32) (v4 : Int32) (v5 : Int32) (v7 : Int32) (w0 : Int32) (I : zI) (h : f_X12_covers_100 k6 v1 v2 v3 v4 v5 v7 w0 I = some r) : zG p l e R s m args below meth c d cy B0 9 bc bs (zQ below s args d cy B0 bc bs (.inl (some (.int r))) zSH zKn bc bs I L) 100 [(0, .ref (B0 + 97)), (1, .int v1), (2, .int v2), (3, .int v3), (4, .int v4), (5, .int v5), (7, .int v7)] [.int w0] zSH zKn bc bs I L := by
  unfold f_X12_covers_100 at h
  refine z_aload_n C rfl 0 rfl dX12_covers_100 ?_
  refine z_getr C zc_12 dX12_covers_101 6 97 101 rfl (by decide) (by decide) q_1175 rfl rfl ?_
  refine z_iload C 6 rfl dX12_covers_104 ?_
  obtain ⟨hb12, h⟩ := zck_e h
  refine z_iaload C dX12_covers_106 rfl rfl (by decide) (zbd_in hb12) ?_
  refine z_iload_n C rfl 3 rfl dX12_covers_107 ?_
  refine z_icmp_gt C 115 (by decide) dX12_covers_108 (fun hc => ?_) (fun hc => ?_)
  · have h := zif_t hc h
    refine z_iconst C (v := 0) (by decide) dX12_covers_115 ?_
    refine z_lv [0, 1, 2, 3, 4, 5] (lv' := [(0, .ref (B0 + 97)), (1, .int v1), (2, .int v2), (3, .int v3), (4, .int v4), (5, .int v5)]) rfl ?_
    exact l_X12_covers_116 C L k6 hk6 v1 v2 v3 v4 v5 w0 (0 : Int32) I h
  · have h := zif_f hc h
    refine z_iconst C (v := 1) (by decide) dX12_covers_111 ?_
    refine z_goto C 116 (by decide) dX12_covers_112 ?_
    refine z_lv [0, 1, 2, 3, 4, 5] (lv' := [(0, .ref (B0 + 97)), (1, .int v1), (2, .int v2), (3, .int v3), (4, .int v4), (5, .int v5)]) rfl ?_
    exact l_X12_covers_116 C L k6 hk6 v1 v2 v3 v4 v5 w0 (1 : Int32) I h
set_option maxHeartbeats 4000000 in
set_option maxRecDepth 100000 in
theorem l_X12_covers_77 {r : Int32} (C : zC p l e R s m args below meth c s0 a0 d cy B0 yX12_covers.cls cX12_covers 9 (some .boolean) bc bs bc bs 0 0 []) (L : zL) (k6 : Int32 → Int32 → Int32 → Int32 → Int32 → zI → Option Int32) (hk6 : ∀ (v1 : Int32) (v2 : Int32) (v3 : Int32) (v4 : Int32) (v5 : Int32) (I : zI), k6 v1 v2 v3 v4 v5 I = some r → zG p l e R s m args below meth c d cy B0 9 bc bs (zQ below s args d cy B0 bc bs (.inl (some (.int r))) zSH zKn bc bs I L) 6 [(0, .ref (B0 + 97)), (1, .int v1), (2, .int v2), (3, .int v3), (4, .int v4), (5, .int v5)] [] zSH zKn bc bs I L) (v1 : Int32) (v2 : Int32) (v3 : Int32) (v4 : Int32) (v5 : Int32) (v6 : Int32) (v7 : Int32) (w0 : Int32) (I : zI) (h : f_X12_covers_77 k6 v1 v2 v3 v4 v5 v6 v7 w0 I = some r) : zG p l e R s m args below meth c d cy B0 9 bc bs (zQ below s args d cy B0 bc bs (.inl (some (.int r))) zSH zKn bc bs I L) 77 [(0, .ref (B0 + 97)), (1, .int v1), (2, .int v2), (3, .int v3), (4, .int v4), (5, .int v5), (6, .int v6), (7, .int v7)] [.int w0] zSH zKn bc bs I L := by
  unfold f_X12_covers_77 at h
  refine z_istore C (lv' := [(8, .int w0), (0, .ref (B0 + 97)), (1, .int v1), (2, .int v2), (3, .int v3), (4, .int v4), (5, .int v5), (6, .int v6), (7, .int v7)]) (by decide) rfl dX12_covers_77 ?_
  refine z_iload C 0 rfl dX12_covers_79 ?_
  refine z_if_eq C 132 (by decide) dX12_covers_81 (fun hc => ?_) (fun hc => ?_)
  · have h := zif_t hc h
    refine z_lv [1, 2, 3, 4, 5, 6] (lv' := [(0, .ref (B0 + 97)), (1, .int v1), (2, .int v2), (3, .int v3), (4, .int v4), (5, .int v5)]) rfl ?_
    exact l_X12_covers_132 C L k6 hk6 v1 v2 v3 v4 v5 I h
  · have h := zif_f hc h
    refine z_aload_n C rfl 1 rfl dX12_covers_84 ?_
    refine z_getr C zc_12 dX12_covers_85 6 97 101 rfl (by decide) (by decide) q_1175 rfl rfl ?_
    refine z_iload C 7 rfl dX12_covers_88 ?_
    obtain ⟨hb11, h⟩ := zck_e h
    refine z_iaload C dX12_covers_90 rfl rfl (by decide) (zbd_in hb11) ?_
    refine z_iload_n C rfl 4 rfl dX12_covers_91 ?_
    refine z_icmp_gt C 99 (by decide) dX12_covers_92 (fun hc => ?_) (fun hc => ?_)
    · have h := zif_t hc h
      refine z_iconst C (v := 0) (by decide) dX12_covers_99 ?_
      refine z_lv [1, 2, 3, 4, 5, 6, 8] (lv' := [(0, .ref (B0 + 97)), (1, .int v1), (2, .int v2), (3, .int v3), (4, .int v4), (5, .int v5), (7, .int v7)]) rfl ?_
      exact l_X12_covers_100 C L k6 hk6 v1 v2 v3 v4 v5 v7 (0 : Int32) I h
    · have h := zif_f hc h
      refine z_iconst C (v := 1) (by decide) dX12_covers_95 ?_
      refine z_goto C 100 (by decide) dX12_covers_96 ?_
      refine z_lv [1, 2, 3, 4, 5, 6, 8] (lv' := [(0, .ref (B0 + 97)), (1, .int v1), (2, .int v2), (3, .int v3), (4, .int v4), (5, .int v5), (7, .int v7)]) rfl ?_
      exact l_X12_covers_100 C L k6 hk6 v1 v2 v3 v4 v5 v7 (1 : Int32) I h
set_option maxHeartbeats 4000000 in
set_option maxRecDepth 100000 in
theorem l_X12_covers_76 {r : Int32} (C : zC p l e R s m args below meth c s0 a0 d cy B0 yX12_covers.cls cX12_covers 9 (some .boolean) bc bs bc bs 0 0 []) (L : zL) (k6 : Int32 → Int32 → Int32 → Int32 → Int32 → zI → Option Int32) (hk6 : ∀ (v1 : Int32) (v2 : Int32) (v3 : Int32) (v4 : Int32) (v5 : Int32) (I : zI), k6 v1 v2 v3 v4 v5 I = some r → zG p l e R s m args below meth c d cy B0 9 bc bs (zQ below s args d cy B0 bc bs (.inl (some (.int r))) zSH zKn bc bs I L) 6 [(0, .ref (B0 + 97)), (1, .int v1), (2, .int v2), (3, .int v3), (4, .int v4), (5, .int v5)] [] zSH zKn bc bs I L) (v1 : Int32) (v2 : Int32) (v3 : Int32) (v4 : Int32) (v5 : Int32) (v6 : Int32) (v7 : Int32) (I : zI) (h : f_X12_covers_76 k6 v1 v2 v3 v4 v5 v6 v7 I = some r) : zG p l e R s m args below meth c d cy B0 9 bc bs (zQ below s args d cy B0 bc bs (.inl (some (.int r))) zSH zKn bc bs I L) 76 [(0, .ref (B0 + 97)), (1, .int v1), (2, .int v2), (3, .int v3), (4, .int v4), (5, .int v5), (6, .int v6), (7, .int v7)] [] zSH zKn bc bs I L := by
  unfold f_X12_covers_76 at h
  refine z_iconst C (v := 0) (by decide) dX12_covers_76 ?_
  exact l_X12_covers_77 C L k6 hk6 v1 v2 v3 v4 v5 v6 v7 (0 : Int32) I h
set_option maxHeartbeats 4000000 in
set_option maxRecDepth 100000 in
theorem l_X12_covers_6 {r : Int32} (C : zC p l e R s m args below meth c s0 a0 d cy B0 yX12_covers.cls cX12_covers 9 (some .boolean) bc bs bc bs 0 0 []) (L : zL) (k6 : Int32 → Int32 → Int32 → Int32 → Int32 → zI → Option Int32) (hk6 : ∀ (v1 : Int32) (v2 : Int32) (v3 : Int32) (v4 : Int32) (v5 : Int32) (I : zI), k6 v1 v2 v3 v4 v5 I = some r → zG p l e R s m args below meth c d cy B0 9 bc bs (zQ below s args d cy B0 bc bs (.inl (some (.int r))) zSH zKn bc bs I L) 6 [(0, .ref (B0 + 97)), (1, .int v1), (2, .int v2), (3, .int v3), (4, .int v4), (5, .int v5)] [] zSH zKn bc bs I L) (v1 : Int32) (v2 : Int32) (v3 : Int32) (v4 : Int32) (v5 : Int32) (I : zI) (h : f_X12_covers_6 k6 v1 v2 v3 v4 v5 I = some r) : zG p l e R s m args below meth c d cy B0 9 bc bs (zQ below s args d cy B0 bc bs (.inl (some (.int r))) zSH zKn bc bs I L) 6 [(0, .ref (B0 + 97)), (1, .int v1), (2, .int v2), (3, .int v3), (4, .int v4), (5, .int v5)] [] zSH zKn bc bs I L := by
  unfold f_X12_covers_6 at h
  refine z_iload C 5 rfl dX12_covers_6 ?_
  refine z_aload_n C rfl 0 rfl dX12_covers_8 ?_
  refine z_getr C zc_12 dX12_covers_9 4 97 99 rfl (by decide) (by decide) q_1173 rfl rfl ?_
  refine z_iload_n C rfl 1 rfl dX12_covers_12 ?_
  obtain ⟨hb1, h⟩ := zck_e h
  refine z_iaload C dX12_covers_13 rfl rfl (by decide) (zbd_in hb1) ?_
  refine z_icmp_ge C 142 (by decide) dX12_covers_14 (fun hc => ?_) (fun hc => ?_)
  · have h := zif_t hc h
    refine z_iload C 4 rfl dX12_covers_142 ?_
    obtain ⟨hb2, h⟩ := zck_e h
    obtain rfl := Option.some.inj h
    exact z_iret C dX12_covers_144 .boolean rfl (zbo_n hb2).1 rfl
  · have h := zif_f hc h
    refine z_bipush C (v := 16) (by decide) dX12_covers_17 ?_
    refine z_iload_n C rfl 1 rfl dX12_covers_19 ?_
    refine z_imul C dX12_covers_20 ?_
    refine z_iload C 5 rfl dX12_covers_21 ?_
    refine z_iadd C dX12_covers_23 ?_
    obtain ⟨x3, ex3, h⟩ := zlt_e h
    refine z_eqi C ex3 ?_
    refine z_istore C (lv' := [(6, .int x3), (0, .ref (B0 + 97)), (1, .int v1), (2, .int v2), (3, .int v3), (4, .int v4), (5, .int v5)]) (by decide) rfl dX12_covers_24 ?_
    refine z_bipush C (v := 16) (by decide) dX12_covers_26 ?_
    refine z_iload_n C rfl 2 rfl dX12_covers_28 ?_
    refine z_imul C dX12_covers_29 ?_
    refine z_iload C 6 rfl dX12_covers_30 ?_
    refine z_iconst C (v := 1) (by decide) dX12_covers_32 ?_
    refine z_iadd C dX12_covers_33 ?_
    refine z_aload_n C rfl 1 rfl dX12_covers_34 ?_
    refine z_getr C zc_12 dX12_covers_35 4 97 99 rfl (by decide) (by decide) q_1173 rfl rfl ?_
    refine z_iload_n C rfl 2 rfl dX12_covers_38 ?_
    obtain ⟨hb4, h⟩ := zck_e h
    refine z_iaload C dX12_covers_39 rfl rfl (by decide) (zbd_in hb4) ?_
    obtain ⟨hb5, h⟩ := zck_e h
    refine z_irem C (of_decide_eq_true hb5) dX12_covers_40 ?_
    obtain ⟨x6, ex6, h⟩ := zlt_e h
    refine z_eqi C ex6 ?_
    refine z_iadd C dX12_covers_41 ?_
    obtain ⟨x7, ex7, h⟩ := zlt_e h
    refine z_eqi C ex7 ?_
    refine z_istore C (lv' := [(7, .int x7), (6, .int x3), (0, .ref (B0 + 97)), (1, .int v1), (2, .int v2), (3, .int v3), (4, .int v4), (5, .int v5)]) (by decide) rfl dX12_covers_42 ?_
    refine z_aload_n C rfl 2 rfl dX12_covers_44 ?_
    refine z_getr C zc_12 dX12_covers_45 5 97 100 rfl (by decide) (by decide) q_1174 rfl rfl ?_
    refine z_iload C 1 rfl dX12_covers_48 ?_
    obtain ⟨hb8, h⟩ := zck_e h
    refine z_iaload C dX12_covers_50 rfl rfl (by decide) (zbd_in hb8) ?_
    refine z_aload_n C rfl 2 rfl dX12_covers_51 ?_
    refine z_getr C zc_12 dX12_covers_52 5 97 100 rfl (by decide) (by decide) q_1174 rfl rfl ?_
    refine z_iload C 0 rfl dX12_covers_55 ?_
    obtain ⟨hb9, h⟩ := zck_e h
    refine z_iaload C dX12_covers_57 rfl rfl (by decide) (zbd_in hb9) ?_
    refine z_icmp_ne C 76 (by decide) dX12_covers_58 (fun hc => ?_) (fun hc => ?_)
    · have h := zif_f hc h
      refine z_lv [2, 3, 4, 5, 6, 7, 1, 0] (lv' := [(0, .ref (B0 + 97)), (1, .int v1), (2, .int v2), (3, .int v3), (4, .int v4), (5, .int v5), (6, .int x3), (7, .int x7)]) rfl ?_
      exact l_X12_covers_76 C L k6 hk6 v1 v2 v3 v4 v5 x3 x7 I h
    · have h := zif_t hc h
      refine z_aload_n C rfl 2 rfl dX12_covers_61 ?_
      refine z_getr C zc_12 dX12_covers_62 5 97 100 rfl (by decide) (by decide) q_1174 rfl rfl ?_
      refine z_iload C 1 rfl dX12_covers_65 ?_
      obtain ⟨hb10, h⟩ := zck_e h
      refine z_iaload C dX12_covers_67 rfl rfl (by decide) (zbd_in hb10) ?_
      refine z_iload_n C rfl 4 rfl dX12_covers_68 ?_
      refine z_icmp_le C 76 (by decide) dX12_covers_69 (fun hc => ?_) (fun hc => ?_)
      · have h := zif_t hc h
        refine z_lv [2, 3, 4, 5, 6, 7, 1, 0] (lv' := [(0, .ref (B0 + 97)), (1, .int v1), (2, .int v2), (3, .int v3), (4, .int v4), (5, .int v5), (6, .int x3), (7, .int x7)]) rfl ?_
        exact l_X12_covers_76 C L k6 hk6 v1 v2 v3 v4 v5 x3 x7 I h
      · have h := zif_f hc h
        refine z_iconst C (v := 1) (by decide) dX12_covers_72 ?_
        refine z_goto C 77 (by decide) dX12_covers_73 ?_
        refine z_lv [2, 3, 4, 5, 6, 7, 1, 0] (lv' := [(0, .ref (B0 + 97)), (1, .int v1), (2, .int v2), (3, .int v3), (4, .int v4), (5, .int v5), (6, .int x3), (7, .int x7)]) rfl ?_
        exact l_X12_covers_77 C L k6 hk6 v1 v2 v3 v4 v5 x3 x7 (1 : Int32) I h
set_option maxHeartbeats 4000000 in
set_option maxRecDepth 100000 in
theorem L_X12_covers_6 {r : Int32} (C : zC p l e R s m args below meth c s0 a0 d cy B0 yX12_covers.cls cX12_covers 9 (some .boolean) bc bs bc bs 0 0 []) (L : zL) (v1 : Int32) (v2 : Int32) (v3 : Int32) (v4 : Int32) (v5 : Int32) (I : zI) (h : zlp6 (f_X12_covers_6) zF v1 v2 v3 v4 v5 I = some r) : zG p l e R s m args below meth c d cy B0 9 bc bs (zQ below s args d cy B0 bc bs (.inl (some (.int r))) zSH zKn bc bs I L) 6 [(0, .ref (B0 + 97)), (1, .int v1), (2, .int v2), (3, .int v3), (4, .int v4), (5, .int v5)] [] zSH zKn bc bs I L :=
 zlp6_e (fun (v1 : Int32) (v2 : Int32) (v3 : Int32) (v4 : Int32) (v5 : Int32) (I : zI) => zG p l e R s m args below meth c d cy B0 9 bc bs (zQ below s args d cy B0 bc bs (.inl (some (.int r))) zSH zKn bc bs I L) 6 [(0, .ref (B0 + 97)), (1, .int v1), (2, .int v2), (3, .int v3), (4, .int v4), (5, .int v5)] [] zSH zKn bc bs I L) (fun k9 hk9 v1 v2 v3 v4 v5 I h => l_X12_covers_6 C L k9 hk9 v1 v2 v3 v4 v5 I h) zF v1 v2 v3 v4 v5 I h
set_option maxHeartbeats 4000000 in
set_option maxRecDepth 100000 in
theorem c_X12_covers {r : Int32} (hE : zE0 l s0 a0 d cy B0) (a1 : Int32) (a2 : Int32) (a3 : Int32) (I : zI) (L : zL) (h : f_X12_covers a1 a2 a3 I = some r) : zM l s0 d cy B0 yX12_covers cX12_covers 9 (some .boolean) 0 0 [.ref (B0 + 97), .int a1, .int a2, .int a3] zSH zKn bc bs I L (.inl (some (.int r))) zSH zKn bc bs I L := by
  refine z_meth yy_X12_covers hE (Nat.le_of_ble_eq_true rfl) (fun p e R s m args below meth c C => ?_)
  show zG p l e R s m args below meth c d cy B0 9 bc bs (zQ below s args d cy B0 bc bs (.inl (some (.int r))) zSH zKn bc bs I L) 0 [(0, .ref (B0 + 97)), (1, .int a1), (2, .int a2), (3, .int a3)] [] zSH zKn bc bs I L
  unfold f_X12_covers at h
  refine z_iconst C (v := 0) (by decide) dX12_covers_0 ?_
  refine z_istore C (lv' := [(4, .int (0 : Int32)), (0, .ref (B0 + 97)), (1, .int a1), (2, .int a2), (3, .int a3)]) (by decide) rfl dX12_covers_1 ?_
  refine z_iconst C (v := 0) (by decide) dX12_covers_3 ?_
  refine z_istore C (lv' := [(5, .int (0 : Int32)), (4, .int (0 : Int32)), (0, .ref (B0 + 97)), (1, .int a1), (2, .int a2), (3, .int a3)]) (by decide) rfl dX12_covers_4 ?_
  refine z_lv [2, 3, 4, 5, 1, 0] (lv' := [(0, .ref (B0 + 97)), (1, .int a1), (2, .int a2), (3, .int a3), (4, .int (0 : Int32)), (5, .int (0 : Int32))]) rfl ?_
  exact L_X12_covers_6 C L a1 a2 a3 (0 : Int32) (0 : Int32) I h
theorem q_1383 : (Cond.code ({ cls := "DeviceFindModel", name := "isLetter", desc := "(I)Z" } : Jvm.MethodName) prog_14_method_9_code (1 : Nat) (Option.some Jvm.ClassFile.FieldType.boolean)) ∈ lw_tbl := List.mem_of_getElem? (i := 1383) (by decide +kernel)
theorem yy_X12_isLetter : zY yX12_isLetter cX12_isLetter 1 (some .boolean) 1 := ⟨q_1383, q_88, by decide +kernel, by decide +kernel, by decide +kernel⟩
noncomputable def f_X12_isLetter_17 (w0 : Int32) : Option Int32 :=
  zck (zbo w0) (some w0)
noncomputable def f_X12_isLetter_16 : Option Int32 :=
  f_X12_isLetter_17 (0 : Int32)
noncomputable def f_X12_isLetter (a0 : Int32) : Option Int32 :=
  if a0 < (97 : Int32) then (f_X12_isLetter_16 ) else (if (122 : Int32) < a0 then (f_X12_isLetter_16 ) else (f_X12_isLetter_17 (1 : Int32)))
set_option maxHeartbeats 4000000 in
set_option maxRecDepth 100000 in
theorem l_X12_isLetter_17 {r : Int32} (C : zC p l e R s m args below meth c s0 a0 d cy B0 yX12_isLetter.cls cX12_isLetter 1 (some .boolean) bc bs bc bs 0 0 []) (I : zI) (L : zL) (w0 : Int32) (h : f_X12_isLetter_17 w0 = some r) : zG p l e R s m args below meth c d cy B0 1 bc bs (zQ below s args d cy B0 bc bs (.inl (some (.int r))) zSH zKn bc bs I L) 17 [] [.int w0] zSH zKn bc bs I L := by
  unfold f_X12_isLetter_17 at h
  obtain ⟨hb1, h⟩ := zck_e h
  obtain rfl := Option.some.inj h
  exact z_iret C dX12_isLetter_17 .boolean rfl (zbo_n hb1).1 rfl
set_option maxHeartbeats 4000000 in
set_option maxRecDepth 100000 in
theorem l_X12_isLetter_16 {r : Int32} (C : zC p l e R s m args below meth c s0 a0 d cy B0 yX12_isLetter.cls cX12_isLetter 1 (some .boolean) bc bs bc bs 0 0 []) (I : zI) (L : zL) (h : f_X12_isLetter_16 = some r) : zG p l e R s m args below meth c d cy B0 1 bc bs (zQ below s args d cy B0 bc bs (.inl (some (.int r))) zSH zKn bc bs I L) 16 [] [] zSH zKn bc bs I L := by
  unfold f_X12_isLetter_16 at h
  refine z_iconst C (v := 0) (by decide) dX12_isLetter_16 ?_
  exact l_X12_isLetter_17 C I L (0 : Int32) h
set_option maxHeartbeats 4000000 in
set_option maxRecDepth 100000 in
theorem c_X12_isLetter {r : Int32} (hE : zE0 l s0 a0 d cy B0) (a0 : Int32) (I : zI) (L : zL) (h : f_X12_isLetter a0 = some r) : zM l s0 d cy B0 yX12_isLetter cX12_isLetter 1 (some .boolean) 0 0 [.int a0] zSH zKn bc bs I L (.inl (some (.int r))) zSH zKn bc bs I L := by
  refine z_meth yy_X12_isLetter hE (Nat.le_of_ble_eq_true rfl) (fun p e R s m args below meth c C => ?_)
  show zG p l e R s m args below meth c d cy B0 1 bc bs (zQ below s args d cy B0 bc bs (.inl (some (.int r))) zSH zKn bc bs I L) 0 [(0, .int a0)] [] zSH zKn bc bs I L
  unfold f_X12_isLetter at h
  refine z_iload_n C rfl 0 rfl dX12_isLetter_0 ?_
  refine z_bipush C (v := 97) (by decide) dX12_isLetter_1 ?_
  refine z_icmp_lt C 16 (by decide) dX12_isLetter_3 (fun hc => ?_) (fun hc => ?_)
  · have h := zif_t hc h
    refine z_lv [] (lv' := []) rfl ?_
    exact l_X12_isLetter_16 C I L  h
  · have h := zif_f hc h
    refine z_iload_n C rfl 0 rfl dX12_isLetter_6 ?_
    refine z_bipush C (v := 122) (by decide) dX12_isLetter_7 ?_
    refine z_icmp_gt C 16 (by decide) dX12_isLetter_9 (fun hc => ?_) (fun hc => ?_)
    · have h := zif_t hc h
      refine z_lv [] (lv' := []) rfl ?_
      exact l_X12_isLetter_16 C I L  h
    · have h := zif_f hc h
      refine z_iconst C (v := 1) (by decide) dX12_isLetter_12 ?_
      refine z_goto C 17 (by decide) dX12_isLetter_13 ?_
      refine z_lv [] (lv' := []) rfl ?_
      exact l_X12_isLetter_17 C I L (1 : Int32) h
theorem q_1386 : (Cond.code ({ cls := "DeviceFindModel", name := "isDigit", desc := "(I)Z" } : Jvm.MethodName) prog_14_method_10_code (1 : Nat) (Option.some Jvm.ClassFile.FieldType.boolean)) ∈ lw_tbl := List.mem_of_getElem? (i := 1386) (by decide +kernel)
theorem yy_X12_isDigit : zY yX12_isDigit cX12_isDigit 1 (some .boolean) 1 := ⟨q_1386, q_88, by decide +kernel, by decide +kernel, by decide +kernel⟩
noncomputable def f_X12_isDigit_17 (w0 : Int32) : Option Int32 :=
  zck (zbo w0) (some w0)
noncomputable def f_X12_isDigit_16 : Option Int32 :=
  f_X12_isDigit_17 (0 : Int32)
noncomputable def f_X12_isDigit (a0 : Int32) : Option Int32 :=
  if a0 < (48 : Int32) then (f_X12_isDigit_16 ) else (if (57 : Int32) < a0 then (f_X12_isDigit_16 ) else (f_X12_isDigit_17 (1 : Int32)))
set_option maxHeartbeats 4000000 in
set_option maxRecDepth 100000 in
theorem l_X12_isDigit_17 {r : Int32} (C : zC p l e R s m args below meth c s0 a0 d cy B0 yX12_isDigit.cls cX12_isDigit 1 (some .boolean) bc bs bc bs 0 0 []) (I : zI) (L : zL) (w0 : Int32) (h : f_X12_isDigit_17 w0 = some r) : zG p l e R s m args below meth c d cy B0 1 bc bs (zQ below s args d cy B0 bc bs (.inl (some (.int r))) zSH zKn bc bs I L) 17 [] [.int w0] zSH zKn bc bs I L := by
  unfold f_X12_isDigit_17 at h
  obtain ⟨hb1, h⟩ := zck_e h
  obtain rfl := Option.some.inj h
  exact z_iret C dX12_isDigit_17 .boolean rfl (zbo_n hb1).1 rfl
set_option maxHeartbeats 4000000 in
set_option maxRecDepth 100000 in
theorem l_X12_isDigit_16 {r : Int32} (C : zC p l e R s m args below meth c s0 a0 d cy B0 yX12_isDigit.cls cX12_isDigit 1 (some .boolean) bc bs bc bs 0 0 []) (I : zI) (L : zL) (h : f_X12_isDigit_16 = some r) : zG p l e R s m args below meth c d cy B0 1 bc bs (zQ below s args d cy B0 bc bs (.inl (some (.int r))) zSH zKn bc bs I L) 16 [] [] zSH zKn bc bs I L := by
  unfold f_X12_isDigit_16 at h
  refine z_iconst C (v := 0) (by decide) dX12_isDigit_16 ?_
  exact l_X12_isDigit_17 C I L (0 : Int32) h
set_option maxHeartbeats 4000000 in
set_option maxRecDepth 100000 in
theorem c_X12_isDigit {r : Int32} (hE : zE0 l s0 a0 d cy B0) (a0 : Int32) (I : zI) (L : zL) (h : f_X12_isDigit a0 = some r) : zM l s0 d cy B0 yX12_isDigit cX12_isDigit 1 (some .boolean) 0 0 [.int a0] zSH zKn bc bs I L (.inl (some (.int r))) zSH zKn bc bs I L := by
  refine z_meth yy_X12_isDigit hE (Nat.le_of_ble_eq_true rfl) (fun p e R s m args below meth c C => ?_)
  show zG p l e R s m args below meth c d cy B0 1 bc bs (zQ below s args d cy B0 bc bs (.inl (some (.int r))) zSH zKn bc bs I L) 0 [(0, .int a0)] [] zSH zKn bc bs I L
  unfold f_X12_isDigit at h
  refine z_iload_n C rfl 0 rfl dX12_isDigit_0 ?_
  refine z_bipush C (v := 48) (by decide) dX12_isDigit_1 ?_
  refine z_icmp_lt C 16 (by decide) dX12_isDigit_3 (fun hc => ?_) (fun hc => ?_)
  · have h := zif_t hc h
    refine z_lv [] (lv' := []) rfl ?_
    exact l_X12_isDigit_16 C I L  h
  · have h := zif_f hc h
    refine z_iload_n C rfl 0 rfl dX12_isDigit_6 ?_
    refine z_bipush C (v := 57) (by decide) dX12_isDigit_7 ?_
    refine z_icmp_gt C 16 (by decide) dX12_isDigit_9 (fun hc => ?_) (fun hc => ?_)
    · have h := zif_t hc h
      refine z_lv [] (lv' := []) rfl ?_
      exact l_X12_isDigit_16 C I L  h
    · have h := zif_f hc h
      refine z_iconst C (v := 1) (by decide) dX12_isDigit_12 ?_
      refine z_goto C 17 (by decide) dX12_isDigit_13 ?_
      refine z_lv [] (lv' := []) rfl ?_
      exact l_X12_isDigit_17 C I L (1 : Int32) h
theorem q_1368 : (Cond.code ({ cls := "DeviceFindModel", name := "isCharacter", desc := "(I)Z" } : Jvm.MethodName) prog_14_method_11_code (1 : Nat) (Option.some Jvm.ClassFile.FieldType.boolean)) ∈ lw_tbl := List.mem_of_getElem? (i := 1368) (by decide +kernel)
theorem yy_X12_isCharacter : zY yX12_isCharacter cX12_isCharacter 1 (some .boolean) 1 := ⟨q_1368, q_88, by decide +kernel, by decide +kernel, by decide +kernel⟩
noncomputable def f_X12_isCharacter_23 (w0 : Int32) : Option Int32 :=
  zck (zbo w0) (some w0)
noncomputable def f_X12_isCharacter_18 : Option Int32 :=
  f_X12_isCharacter_23 (1 : Int32)
noncomputable def f_X12_isCharacter_12 (v0 : Int32) : Option Int32 :=
  if v0 = (10 : Int32) then (f_X12_isCharacter_18 ) else (f_X12_isCharacter_23 (0 : Int32))
noncomputable def f_X12_isCharacter (a0 : Int32) : Option Int32 :=
  if a0 < (32 : Int32) then (f_X12_isCharacter_12 a0) else (if a0 ≤ (126 : Int32) then (f_X12_isCharacter_18 ) else (f_X12_isCharacter_12 a0))
set_option maxHeartbeats 4000000 in
set_option maxRecDepth 100000 in
theorem l_X12_isCharacter_23 {r : Int32} (C : zC p l e R s m args below meth c s0 a0 d cy B0 yX12_isCharacter.cls cX12_isCharacter 1 (some .boolean) bc bs bc bs 0 0 []) (I : zI) (L : zL) (w0 : Int32) (h : f_X12_isCharacter_23 w0 = some r) : zG p l e R s m args below meth c d cy B0 1 bc bs (zQ below s args d cy B0 bc bs (.inl (some (.int r))) zSH zKn bc bs I L) 23 [] [.int w0] zSH zKn bc bs I L := by
  unfold f_X12_isCharacter_23 at h
  obtain ⟨hb1, h⟩ := zck_e h
  obtain rfl := Option.some.inj h
  exact z_iret C dX12_isCharacter_23 .boolean rfl (zbo_n hb1).1 rfl
set_option maxHeartbeats 4000000 in
set_option maxRecDepth 100000 in
theorem l_X12_isCharacter_18 {r : Int32} (C : zC p l e R s m args below meth c s0 a0 d cy B0 yX12_isCharacter.cls cX12_isCharacter 1 (some .boolean) bc bs bc bs 0 0 []) (I : zI) (L : zL) (h : f_X12_isCharacter_18 = some r) : zG p l e R s m args below meth c d cy B0 1 bc bs (zQ below s args d cy B0 bc bs (.inl (some (.int r))) zSH zKn bc bs I L) 18 [] [] zSH zKn bc bs I L := by
  unfold f_X12_isCharacter_18 at h
  refine z_iconst C (v := 1) (by decide) dX12_isCharacter_18 ?_
  refine z_goto C 23 (by decide) dX12_isCharacter_19 ?_
  exact l_X12_isCharacter_23 C I L (1 : Int32) h
set_option maxHeartbeats 4000000 in
set_option maxRecDepth 100000 in
theorem l_X12_isCharacter_12 {r : Int32} (C : zC p l e R s m args below meth c s0 a0 d cy B0 yX12_isCharacter.cls cX12_isCharacter 1 (some .boolean) bc bs bc bs 0 0 []) (I : zI) (L : zL) (v0 : Int32) (h : f_X12_isCharacter_12 v0 = some r) : zG p l e R s m args below meth c d cy B0 1 bc bs (zQ below s args d cy B0 bc bs (.inl (some (.int r))) zSH zKn bc bs I L) 12 [(0, .int v0)] [] zSH zKn bc bs I L := by
  unfold f_X12_isCharacter_12 at h
  refine z_iload_n C rfl 0 rfl dX12_isCharacter_12 ?_
  refine z_bipush C (v := 10) (by decide) dX12_isCharacter_13 ?_
  refine z_icmp_ne C 22 (by decide) dX12_isCharacter_15 (fun hc => ?_) (fun hc => ?_)
  · have h := zif_f hc h
    refine z_iconst C (v := 0) (by decide) dX12_isCharacter_22 ?_
    refine z_lv [] (lv' := []) rfl ?_
    exact l_X12_isCharacter_23 C I L (0 : Int32) h
  · have h := zif_t hc h
    refine z_lv [] (lv' := []) rfl ?_
    exact l_X12_isCharacter_18 C I L  h
set_option maxHeartbeats 4000000 in
set_option maxRecDepth 100000 in
theorem c_X12_isCharacter {r : Int32} (hE : zE0 l s0 a0 d cy B0) (a0 : Int32) (I : zI) (L : zL) (h : f_X12_isCharacter a0 = some r) : zM l s0 d cy B0 yX12_isCharacter cX12_isCharacter 1 (some .boolean) 0 0 [.int a0] zSH zKn bc bs I L (.inl (some (.int r))) zSH zKn bc bs I L := by
  refine z_meth yy_X12_isCharacter hE (Nat.le_of_ble_eq_true rfl) (fun p e R s m args below meth c C => ?_)
  show zG p l e R s m args below meth c d cy B0 1 bc bs (zQ below s args d cy B0 bc bs (.inl (some (.int r))) zSH zKn bc bs I L) 0 [(0, .int a0)] [] zSH zKn bc bs I L
  unfold f_X12_isCharacter at h
  refine z_iload_n C rfl 0 rfl dX12_isCharacter_0 ?_
  refine z_bipush C (v := 32) (by decide) dX12_isCharacter_1 ?_
  refine z_icmp_lt C 12 (by decide) dX12_isCharacter_3 (fun hc => ?_) (fun hc => ?_)
  · have h := zif_t hc h
    exact l_X12_isCharacter_12 C I L a0 h
  · have h := zif_f hc h
    refine z_iload_n C rfl 0 rfl dX12_isCharacter_6 ?_
    refine z_bipush C (v := 126) (by decide) dX12_isCharacter_7 ?_
    refine z_icmp_le C 18 (by decide) dX12_isCharacter_9 (fun hc => ?_) (fun hc => ?_)
    · have h := zif_t hc h
      refine z_lv [] (lv' := []) rfl ?_
      exact l_X12_isCharacter_18 C I L  h
    · have h := zif_f hc h
      exact l_X12_isCharacter_12 C I L a0 h
theorem q_1197 : (Cond.fieldLink "DeviceFindModel" (68 : Nat) "DeviceFindModel" "tape" "[I") ∈ lw_tbl := List.mem_of_getElem? (i := 1197) (by decide +kernel)
theorem q_1198 : (Cond.fieldLink "DeviceFindModel" (147 : Nat) "DeviceFindModel" "length" "I") ∈ lw_tbl := List.mem_of_getElem? (i := 1198) (by decide +kernel)
theorem q_1365 : (Cond.code ({ cls := "DeviceFindModel", name := "unit", desc := "(I)Z" } : Jvm.MethodName) prog_14_method_12_code (2 : Nat) (Option.some Jvm.ClassFile.FieldType.boolean)) ∈ lw_tbl := List.mem_of_getElem? (i := 1365) (by decide +kernel)
theorem q_1366 : (Cond.methodLink "DeviceFindModel" (143 : Nat) ({ cls := "DeviceFindModel", name := "isCharacter", desc := "(I)Z" } : Jvm.MethodName)) ∈ lw_tbl := List.mem_of_getElem? (i := 1366) (by decide +kernel)
theorem q_1367 : (Cond.static ({ cls := "DeviceFindModel", name := "isCharacter", desc := "(I)Z" } : Jvm.MethodName)) ∈ lw_tbl := List.mem_of_getElem? (i := 1367) (by decide +kernel)
theorem yy_X12_unit : zY yX12_unit cX12_unit 2 (some .boolean) 1 := ⟨q_1365, q_88, by decide +kernel, by decide +kernel, by decide +kernel⟩
noncomputable def f_X12_unit_22 (I : zI) : Option (Int32 × zI) :=
  some ((0 : Int32), I)
noncomputable def f_X12_unit (a1 : Int32) (I : zI) : Option (Int32 × zI) :=
  zlt (zu I 97 0 (0 : Int32)) (fun I1 => zb1 (f_X12_isCharacter a1) (fun x3 => if x3 = 0 then (f_X12_unit_22 I1) else (if (I1 97 29) = (800 : Int32) then (f_X12_unit_22 I1) else (zck (zbd (I1 97 29) 800) (zlt (zu I1 117 (I1 97 29).toNatClampNeg a1) (fun I5 => zlt ((I5 97 29) + (1 : Int32)) (fun x6 => zlt (zu I5 97 29 x6) (fun I7 => some ((1 : Int32), I7)))))))))
set_option maxHeartbeats 4000000 in
set_option maxRecDepth 100000 in
theorem l_X12_unit_22 {r : Int32 × zI} (C : zC p l e R s m args below meth c s0 a0 d cy B0 yX12_unit.cls cX12_unit 2 (some .boolean) bc bs bc bs 1 20 []) (L : zL) (I : zI) (h : f_X12_unit_22 I = some r) : zG p l e R s m args below meth c d cy B0 2 bc bs (zQ below s args d cy B0 bc bs (.inl (some (.int r.1))) zSH zKn bc bs r.2 L) 22 [] [] zSH zKn bc bs I L := by
  unfold f_X12_unit_22 at h
  refine z_iconst C (v := 0) (by decide) dX12_unit_22 ?_
  obtain rfl := Option.some.inj h
  exact z_iret C dX12_unit_23 .boolean rfl rfl rfl
set_option maxHeartbeats 4000000 in
set_option maxRecDepth 100000 in
theorem c_X12_unit {r : Int32 × zI} (hE : zE0 l s0 a0 d cy B0) (a1 : Int32) (I : zI) (L : zL) (h : f_X12_unit a1 I = some r) : zM l s0 d cy B0 yX12_unit cX12_unit 2 (some .boolean) 1 20 [.ref (B0 + 97), .int a1] zSH zKn bc bs I L (.inl (some (.int r.1))) zSH zKn bc bs r.2 L := by
  refine z_meth yy_X12_unit hE (Nat.le_of_ble_eq_true rfl) (fun p e R s m args below meth c C => ?_)
  show zG p l e R s m args below meth c d cy B0 2 bc bs (zQ below s args d cy B0 bc bs (.inl (some (.int r.1))) zSH zKn bc bs r.2 L) 0 [(0, .ref (B0 + 97)), (1, .int a1)] [] zSH zKn bc bs I L
  unfold f_X12_unit at h
  refine z_aload_n C rfl 0 rfl dX12_unit_0 ?_
  refine z_iconst C (v := 0) (by decide) dX12_unit_1 ?_
  refine z_puti C zc_12 dX12_unit_2 0 97 rfl (by decide) (by decide) rfl q_1169 rfl rfl rfl ?_
  obtain ⟨I1, eI1, h⟩ := zlt_e h
  refine z_eqI C eI1 ?_
  refine z_iload_n C rfl 1 rfl dX12_unit_5 ?_
  obtain ⟨x3, hg2, h⟩ := zb1_e h
  refine z_callS C dX12_unit_6 yy_X12_isCharacter (c_X12_isCharacter C.2.2.2.2.1  a1 I1 L hg2) q_1366 q_1367 (by decide) (by decide) rfl rfl (Nat.le_of_ble_eq_true rfl) ⟨Nat.le_refl _, Nat.le_refl _, Nat.le_refl _, Nat.le_refl _⟩ ?_
  refine z_if_eq C 22 (by decide) dX12_unit_9 (fun hc => ?_) (fun hc => ?_)
  · have h := zif_t hc h
    refine z_lv [] (lv' := []) rfl ?_
    exact l_X12_unit_22 C L I1 h
  · have h := zif_f hc h
    refine z_aload_n C rfl 0 rfl dX12_unit_12 ?_
    refine z_geti C zc_12 dX12_unit_13 29 97 rfl (by decide) (by decide) q_1198 rfl ?_
    refine z_sipush C (v := 800) (by decide) dX12_unit_16 ?_
    refine z_icmp_ne C 24 (by decide) dX12_unit_19 (fun hc => ?_) (fun hc => ?_)
    · have h := zif_f hc h
      refine z_aload_n C rfl 0 rfl dX12_unit_24 ?_
      refine z_getr C zc_12 dX12_unit_25 28 97 117 rfl (by decide) (by decide) q_1197 rfl rfl ?_
      refine z_aload_n C rfl 0 rfl dX12_unit_28 ?_
      refine z_geti C zc_12 dX12_unit_29 29 97 rfl (by decide) (by decide) q_1198 rfl ?_
      refine z_iload_n C rfl 1 rfl dX12_unit_32 ?_
      obtain ⟨hb4, h⟩ := zck_e h
      refine z_iastore C dX12_unit_33 rfl rfl (by decide) (zbd_in hb4) ?_
      obtain ⟨I5, eI5, h⟩ := zlt_e h
      refine z_eqI C eI5 ?_
      refine z_aload_n C rfl 0 rfl dX12_unit_34 ?_
      refine z_dup C rfl dX12_unit_35 ?_
      refine z_geti C zc_12 dX12_unit_36 29 97 rfl (by decide) (by decide) q_1198 rfl ?_
      refine z_iconst C (v := 1) (by decide) dX12_unit_39 ?_
      refine z_iadd C dX12_unit_40 ?_
      obtain ⟨x6, ex6, h⟩ := zlt_e h
      refine z_eqi C ex6 ?_
      refine z_puti C zc_12 dX12_unit_41 29 97 rfl (by decide) (by decide) rfl q_1198 rfl rfl rfl ?_
      obtain ⟨I7, eI7, h⟩ := zlt_e h
      refine z_eqI C eI7 ?_
      refine z_iconst C (v := 1) (by decide) dX12_unit_44 ?_
      obtain rfl := Option.some.inj h
      exact z_iret C dX12_unit_45 .boolean rfl rfl rfl
    · have h := zif_t hc h
      refine z_lv [] (lv' := []) rfl ?_
      exact l_X12_unit_22 C L I1 h
theorem q_1372 : (Cond.code ({ cls := "DeviceFindModel", name := "units", desc := "(I)Z" } : Jvm.MethodName) prog_14_method_13_code (5 : Nat) (Option.some Jvm.ClassFile.FieldType.boolean)) ∈ lw_tbl := List.mem_of_getElem? (i := 1372) (by decide +kernel)
theorem yy_X12_units : zY yX12_units cX12_units 5 (some .boolean) 1 := ⟨q_1372, q_88, by decide +kernel, by decide +kernel, by decide +kernel⟩
noncomputable def f_X12_units_49 (k10 : Int32 → Int32 → Int32 → zI → Option (Int32 × zI)) (v1 : Int32) (v3 : Int32) (w0 : Int32) (w1 : Int32) (I : zI) : Option (Int32 × zI) :=
  zlt (w0 + w1) (fun x14 => zlt (v3 + (-8)) (fun x15 => k10 v1 x14 x15 I))
noncomputable def f_X12_units_38 (k10 : Int32 → Int32 → Int32 → zI → Option (Int32 × zI)) (v1 : Int32) (v2 : Int32) (v3 : Int32) (v4 : Int32) (I : zI) : Option (Int32 × zI) :=
  if v4 = 0 then (f_X12_units_49 k10 v1 v3 v2 (0 : Int32) I) else (f_X12_units_49 k10 v1 v3 v2 (1 : Int32) I)
noncomputable def f_X12_units_114 (k74 : Int32 → Int32 → zI → Option (Int32 × zI)) (v1 : Int32) (v3 : Int32) (I : zI) : Option (Int32 × zI) :=
  zlt (v3 + (-8)) (fun x13 => k74 v1 x13 I)
noncomputable def f_X12_units_74 (k74 : Int32 → Int32 → zI → Option (Int32 × zI)) (v1 : Int32) (v3 : Int32) (I : zI) : Option (Int32 × zI) :=
  if v3 < 0 then (some ((1 : Int32), I)) else (zlt ((v1.toUInt32 >>> (v3.toUInt32 &&& Int32.toUInt32 31)).toInt32) (fun x7 => if (x7 &&& (255 : Int32)) = 0 then (f_X12_units_114 k74 v1 v3 I) else (zlt ((v1.toUInt32 >>> (v3.toUInt32 &&& Int32.toUInt32 31)).toInt32) (fun x8 => zck (zbd (I 97 29) 800) (zlt (zu I 117 (I 97 29).toNatClampNeg (x8 &&& (255 : Int32))) (fun I10 => zlt ((I10 97 29) + (1 : Int32)) (fun x11 => zlt (zu I10 97 29 x11) (fun I12 => f_X12_units_114 k74 v1 v3 I12))))))))
noncomputable def f_X12_units_10 (k10 : Int32 → Int32 → Int32 → zI → Option (Int32 × zI)) (v1 : Int32) (v2 : Int32) (v3 : Int32) (I : zI) : Option (Int32 × zI) :=
  if v3 < 0 then (zlt ((I 97 29) + v2) (fun x2 => if x2 ≤ (800 : Int32) then (zlp3 (f_X12_units_74) zF v1 (24 : Int32) I) else (some ((0 : Int32), I)))) else (zlt ((v1.toUInt32 >>> (v3.toUInt32 &&& Int32.toUInt32 31)).toInt32) (fun x3 => zlt (x3 &&& (255 : Int32)) (fun x4 => if x4 = 0 then (f_X12_units_38 k10 v1 v2 v3 x4 I) else (zb1 (f_X12_isCharacter x4) (fun x6 => if x6 = 0 then (some ((0 : Int32), I)) else (f_X12_units_38 k10 v1 v2 v3 x4 I))))))
noncomputable def f_X12_units (a1 : Int32) (I : zI) : Option (Int32 × zI) :=
  zlt (zu I 97 0 (0 : Int32)) (fun I1 => zlp4 (f_X12_units_10) zF a1 (0 : Int32) (24 : Int32) I1)
set_option maxHeartbeats 4000000 in
set_option maxRecDepth 100000 in
theorem l_X12_units_49 {r : Int32 × zI} (C : zC p l e R s m args below meth c s0 a0 d cy B0 yX12_units.cls cX12_units 5 (some .boolean) bc bs bc bs 1 20 []) (L : zL) (k10 : Int32 → Int32 → Int32 → zI → Option (Int32 × zI)) (hk10 : ∀ (v1 : Int32) (v2 : Int32) (v3 : Int32) (I : zI), k10 v1 v2 v3 I = some r → zG p l e R s m args below meth c d cy B0 5 bc bs (zQ below s args d cy B0 bc bs (.inl (some (.int r.1))) zSH zKn bc bs r.2 L) 10 [(0, .ref (B0 + 97)), (1, .int v1), (2, .int v2), (3, .int v3)] [] zSH zKn bc bs I L) (v1 : Int32) (v3 : Int32) (w0 : Int32) (w1 : Int32) (I : zI) (h : f_X12_units_49 k10 v1 v3 w0 w1 I = some r) : zG p l e R s m args below meth c d cy B0 5 bc bs (zQ below s args d cy B0 bc bs (.inl (some (.int r.1))) zSH zKn bc bs r.2 L) 49 [(0, .ref (B0 + 97)), (1, .int v1), (3, .int v3)] [.int w1, .int w0] zSH zKn bc bs I L := by
  unfold f_X12_units_49 at h
  refine z_iadd C dX12_units_49 ?_
  obtain ⟨x14, ex14, h⟩ := zlt_e h
  refine z_eqi C ex14 ?_
  refine z_istore_n C (lv' := [(2, .int x14), (0, .ref (B0 + 97)), (1, .int v1), (3, .int v3)]) rfl (by decide) rfl dX12_units_50 ?_
  obtain ⟨x15, ex15, h⟩ := zlt_e h
  refine z_iinc C (j := 3) (v := x15) (lv' := [(3, .int x15), (2, .int x14), (0, .ref (B0 + 97)), (1, .int v1)]) rfl (by rw [ex15]; rfl) (by decide) rfl dX12_units_51 ?_
  refine z_goto C 10 (by decide) dX12_units_54 ?_
  refine z_lv [2, 3, 1, 0] (lv' := [(0, .ref (B0 + 97)), (1, .int v1), (2, .int x14), (3, .int x15)]) rfl ?_
  exact hk10 v1 x14 x15 I h
set_option maxHeartbeats 4000000 in
set_option maxRecDepth 100000 in
theorem l_X12_units_38 {r : Int32 × zI} (C : zC p l e R s m args below meth c s0 a0 d cy B0 yX12_units.cls cX12_units 5 (some .boolean) bc bs bc bs 1 20 []) (L : zL) (k10 : Int32 → Int32 → Int32 → zI → Option (Int32 × zI)) (hk10 : ∀ (v1 : Int32) (v2 : Int32) (v3 : Int32) (I : zI), k10 v1 v2 v3 I = some r → zG p l e R s m args below meth c d cy B0 5 bc bs (zQ below s args d cy B0 bc bs (.inl (some (.int r.1))) zSH zKn bc bs r.2 L) 10 [(0, .ref (B0 + 97)), (1, .int v1), (2, .int v2), (3, .int v3)] [] zSH zKn bc bs I L) (v1 : Int32) (v2 : Int32) (v3 : Int32) (v4 : Int32) (I : zI) (h : f_X12_units_38 k10 v1 v2 v3 v4 I = some r) : zG p l e R s m args below meth c d cy B0 5 bc bs (zQ below s args d cy B0 bc bs (.inl (some (.int r.1))) zSH zKn bc bs r.2 L) 38 [(0, .ref (B0 + 97)), (1, .int v1), (2, .int v2), (3, .int v3), (4, .int v4)] [] zSH zKn bc bs I L := by
  unfold f_X12_units_38 at h
  refine z_iload_n C rfl 2 rfl dX12_units_38 ?_
  refine z_iload C 4 rfl dX12_units_39 ?_
  refine z_if_eq C 48 (by decide) dX12_units_41 (fun hc => ?_) (fun hc => ?_)
  · have h := zif_t hc h
    refine z_iconst C (v := 0) (by decide) dX12_units_48 ?_
    refine z_lv [0, 1, 3] (lv' := [(0, .ref (B0 + 97)), (1, .int v1), (3, .int v3)]) rfl ?_
    exact l_X12_units_49 C L k10 hk10 v1 v3 v2 (0 : Int32) I h
  · have h := zif_f hc h
    refine z_iconst C (v := 1) (by decide) dX12_units_44 ?_
    refine z_goto C 49 (by decide) dX12_units_45 ?_
    refine z_lv [0, 1, 3] (lv' := [(0, .ref (B0 + 97)), (1, .int v1), (3, .int v3)]) rfl ?_
    exact l_X12_units_49 C L k10 hk10 v1 v3 v2 (1 : Int32) I h
set_option maxHeartbeats 4000000 in
set_option maxRecDepth 100000 in
theorem l_X12_units_114 {r : Int32 × zI} (C : zC p l e R s m args below meth c s0 a0 d cy B0 yX12_units.cls cX12_units 5 (some .boolean) bc bs bc bs 1 20 []) (L : zL) (k74 : Int32 → Int32 → zI → Option (Int32 × zI)) (hk74 : ∀ (v1 : Int32) (v3 : Int32) (I : zI), k74 v1 v3 I = some r → zG p l e R s m args below meth c d cy B0 5 bc bs (zQ below s args d cy B0 bc bs (.inl (some (.int r.1))) zSH zKn bc bs r.2 L) 74 [(0, .ref (B0 + 97)), (1, .int v1), (3, .int v3)] [] zSH zKn bc bs I L) (v1 : Int32) (v3 : Int32) (I : zI) (h : f_X12_units_114 k74 v1 v3 I = some r) : zG p l e R s m args below meth c d cy B0 5 bc bs (zQ below s args d cy B0 bc bs (.inl (some (.int r.1))) zSH zKn bc bs r.2 L) 114 [(0, .ref (B0 + 97)), (1, .int v1), (3, .int v3)] [] zSH zKn bc bs I L := by
  unfold f_X12_units_114 at h
  obtain ⟨x13, ex13, h⟩ := zlt_e h
  refine z_iinc C (j := 2) (v := x13) (lv' := [(3, .int x13), (0, .ref (B0 + 97)), (1, .int v1)]) rfl (by rw [ex13]; rfl) (by decide) rfl dX12_units_114 ?_
  refine z_goto C 74 (by decide) dX12_units_117 ?_
  refine z_lv [1, 2, 0] (lv' := [(0, .ref (B0 + 97)), (1, .int v1), (3, .int x13)]) rfl ?_
  exact hk74 v1 x13 I h
set_option maxHeartbeats 4000000 in
set_option maxRecDepth 100000 in
theorem l_X12_units_74 {r : Int32 × zI} (C : zC p l e R s m args below meth c s0 a0 d cy B0 yX12_units.cls cX12_units 5 (some .boolean) bc bs bc bs 1 20 []) (L : zL) (k74 : Int32 → Int32 → zI → Option (Int32 × zI)) (hk74 : ∀ (v1 : Int32) (v3 : Int32) (I : zI), k74 v1 v3 I = some r → zG p l e R s m args below meth c d cy B0 5 bc bs (zQ below s args d cy B0 bc bs (.inl (some (.int r.1))) zSH zKn bc bs r.2 L) 74 [(0, .ref (B0 + 97)), (1, .int v1), (3, .int v3)] [] zSH zKn bc bs I L) (v1 : Int32) (v3 : Int32) (I : zI) (h : f_X12_units_74 k74 v1 v3 I = some r) : zG p l e R s m args below meth c d cy B0 5 bc bs (zQ below s args d cy B0 bc bs (.inl (some (.int r.1))) zSH zKn bc bs r.2 L) 74 [(0, .ref (B0 + 97)), (1, .int v1), (3, .int v3)] [] zSH zKn bc bs I L := by
  unfold f_X12_units_74 at h
  refine z_iload_n C rfl 2 rfl dX12_units_74 ?_
  refine z_if_lt C 120 (by decide) dX12_units_75 (fun hc => ?_) (fun hc => ?_)
  · have h := zif_t hc h
    refine z_iconst C (v := 1) (by decide) dX12_units_120 ?_
    obtain rfl := Option.some.inj h
    exact z_iret C dX12_units_121 .boolean rfl rfl rfl
  · have h := zif_f hc h
    refine z_iload_n C rfl 1 rfl dX12_units_78 ?_
    refine z_iload_n C rfl 2 rfl dX12_units_79 ?_
    refine z_iushr C dX12_units_80 ?_
    obtain ⟨x7, ex7, h⟩ := zlt_e h
    refine z_eqi C ex7 ?_
    refine z_sipush C (v := 255) (by decide) dX12_units_81 ?_
    refine z_iand C dX12_units_84 ?_
    refine z_if_eq C 114 (by decide) dX12_units_85 (fun hc => ?_) (fun hc => ?_)
    · have h := zif_t hc h
      exact l_X12_units_114 C L k74 hk74 v1 v3 I h
    · have h := zif_f hc h
      refine z_aload_n C rfl 0 rfl dX12_units_88 ?_
      refine z_getr C zc_12 dX12_units_89 28 97 117 rfl (by decide) (by decide) q_1197 rfl rfl ?_
      refine z_aload_n C rfl 0 rfl dX12_units_92 ?_
      refine z_geti C zc_12 dX12_units_93 29 97 rfl (by decide) (by decide) q_1198 rfl ?_
      refine z_iload_n C rfl 1 rfl dX12_units_96 ?_
      refine z_iload_n C rfl 2 rfl dX12_units_97 ?_
      refine z_iushr C dX12_units_98 ?_
      obtain ⟨x8, ex8, h⟩ := zlt_e h
      refine z_eqi C ex8 ?_
      refine z_sipush C (v := 255) (by decide) dX12_units_99 ?_
      refine z_iand C dX12_units_102 ?_
      obtain ⟨hb9, h⟩ := zck_e h
      refine z_iastore C dX12_units_103 rfl rfl (by decide) (zbd_in hb9) ?_
      obtain ⟨I10, eI10, h⟩ := zlt_e h
      refine z_eqI C eI10 ?_
      refine z_aload_n C rfl 0 rfl dX12_units_104 ?_
      refine z_dup C rfl dX12_units_105 ?_
      refine z_geti C zc_12 dX12_units_106 29 97 rfl (by decide) (by decide) q_1198 rfl ?_
      refine z_iconst C (v := 1) (by decide) dX12_units_109 ?_
      refine z_iadd C dX12_units_110 ?_
      obtain ⟨x11, ex11, h⟩ := zlt_e h
      refine z_eqi C ex11 ?_
      refine z_puti C zc_12 dX12_units_111 29 97 rfl (by decide) (by decide) rfl q_1198 rfl rfl rfl ?_
      obtain ⟨I12, eI12, h⟩ := zlt_e h
      refine z_eqI C eI12 ?_
      exact l_X12_units_114 C L k74 hk74 v1 v3 I12 h
set_option maxHeartbeats 4000000 in
set_option maxRecDepth 100000 in
theorem L_X12_units_74 {r : Int32 × zI} (C : zC p l e R s m args below meth c s0 a0 d cy B0 yX12_units.cls cX12_units 5 (some .boolean) bc bs bc bs 1 20 []) (L : zL) (v1 : Int32) (v3 : Int32) (I : zI) (h : zlp3 (f_X12_units_74) zF v1 v3 I = some r) : zG p l e R s m args below meth c d cy B0 5 bc bs (zQ below s args d cy B0 bc bs (.inl (some (.int r.1))) zSH zKn bc bs r.2 L) 74 [(0, .ref (B0 + 97)), (1, .int v1), (3, .int v3)] [] zSH zKn bc bs I L :=
 zlp3_e (fun (v1 : Int32) (v3 : Int32) (I : zI) => zG p l e R s m args below meth c d cy B0 5 bc bs (zQ below s args d cy B0 bc bs (.inl (some (.int r.1))) zSH zKn bc bs r.2 L) 74 [(0, .ref (B0 + 97)), (1, .int v1), (3, .int v3)] [] zSH zKn bc bs I L) (fun k9 hk9 v1 v3 I h => l_X12_units_74 C L k9 hk9 v1 v3 I h) zF v1 v3 I h
set_option maxHeartbeats 4000000 in
set_option maxRecDepth 100000 in
theorem l_X12_units_10 {r : Int32 × zI} (C : zC p l e R s m args below meth c s0 a0 d cy B0 yX12_units.cls cX12_units 5 (some .boolean) bc bs bc bs 1 20 []) (L : zL) (k10 : Int32 → Int32 → Int32 → zI → Option (Int32 × zI)) (hk10 : ∀ (v1 : Int32) (v2 : Int32) (v3 : Int32) (I : zI), k10 v1 v2 v3 I = some r → zG p l e R s m args below meth c d cy B0 5 bc bs (zQ below s args d cy B0 bc bs (.inl (some (.int r.1))) zSH zKn bc bs r.2 L) 10 [(0, .ref (B0 + 97)), (1, .int v1), (2, .int v2), (3, .int v3)] [] zSH zKn bc bs I L) (v1 : Int32) (v2 : Int32) (v3 : Int32) (I : zI) (h : f_X12_units_10 k10 v1 v2 v3 I = some r) : zG p l e R s m args below meth c d cy B0 5 bc bs (zQ below s args d cy B0 bc bs (.inl (some (.int r.1))) zSH zKn bc bs r.2 L) 10 [(0, .ref (B0 + 97)), (1, .int v1), (2, .int v2), (3, .int v3)] [] zSH zKn bc bs I L := by
  unfold f_X12_units_10 at h
  refine z_iload_n C rfl 3 rfl dX12_units_10 ?_
  refine z_if_lt C 57 (by decide) dX12_units_11 (fun hc => ?_) (fun hc => ?_)
  · have h := zif_t hc h
    refine z_aload_n C rfl 0 rfl dX12_units_57 ?_
    refine z_geti C zc_12 dX12_units_58 29 97 rfl (by decide) (by decide) q_1198 rfl ?_
    refine z_iload_n C rfl 2 rfl dX12_units_61 ?_
    refine z_iadd C dX12_units_62 ?_
    obtain ⟨x2, ex2, h⟩ := zlt_e h
    refine z_eqi C ex2 ?_
    refine z_sipush C (v := 800) (by decide) dX12_units_63 ?_
    refine z_icmp_le C 71 (by decide) dX12_units_66 (fun hc => ?_) (fun hc => ?_)
    · have h := zif_t hc h
      refine z_bipush C (v := 24) (by decide) dX12_units_71 ?_
      refine z_istore_n C (lv' := [(3, .int (24 : Int32)), (0, .ref (B0 + 97)), (1, .int v1), (2, .int v2)]) rfl (by decide) rfl dX12_units_73 ?_
      refine z_lv [1, 2, 0] (lv' := [(0, .ref (B0 + 97)), (1, .int v1), (3, .int (24 : Int32))]) rfl ?_
      exact L_X12_units_74 C L v1 (24 : Int32) I h
    · have h := zif_f hc h
      refine z_iconst C (v := 0) (by decide) dX12_units_69 ?_
      obtain rfl := Option.some.inj h
      exact z_iret C dX12_units_70 .boolean rfl rfl rfl
  · have h := zif_f hc h
    refine z_iload_n C rfl 1 rfl dX12_units_14 ?_
    refine z_iload_n C rfl 3 rfl dX12_units_15 ?_
    refine z_iushr C dX12_units_16 ?_
    obtain ⟨x3, ex3, h⟩ := zlt_e h
    refine z_eqi C ex3 ?_
    refine z_sipush C (v := 255) (by decide) dX12_units_17 ?_
    refine z_iand C dX12_units_20 ?_
    obtain ⟨x4, ex4, h⟩ := zlt_e h
    refine z_eqi C ex4 ?_
    refine z_istore C (lv' := [(4, .int x4), (0, .ref (B0 + 97)), (1, .int v1), (2, .int v2), (3, .int v3)]) (by decide) rfl dX12_units_21 ?_
    refine z_iload C 0 rfl dX12_units_23 ?_
    refine z_if_eq C 38 (by decide) dX12_units_25 (fun hc => ?_) (fun hc => ?_)
    · have h := zif_t hc h
      refine z_lv [1, 2, 3, 4, 0] (lv' := [(0, .ref (B0 + 97)), (1, .int v1), (2, .int v2), (3, .int v3), (4, .int x4)]) rfl ?_
      exact l_X12_units_38 C L k10 hk10 v1 v2 v3 x4 I h
    · have h := zif_f hc h
      refine z_iload C 0 rfl dX12_units_28 ?_
      obtain ⟨x6, hg5, h⟩ := zb1_e h
      refine z_callS C dX12_units_30 yy_X12_isCharacter (c_X12_isCharacter C.2.2.2.2.1  x4 I L hg5) q_1366 q_1367 (by decide) (by decide) rfl rfl (Nat.le_of_ble_eq_true rfl) ⟨Nat.le_refl _, Nat.le_refl _, Nat.le_refl _, Nat.le_refl _⟩ ?_
      refine z_if_ne C 38 (by decide) dX12_units_33 (fun hc => ?_) (fun hc => ?_)
      · have h := zif_f hc h
        refine z_lv [1, 2, 3, 4, 0] (lv' := [(0, .ref (B0 + 97)), (1, .int v1), (2, .int v2), (3, .int v3), (4, .int x4)]) rfl ?_
        exact l_X12_units_38 C L k10 hk10 v1 v2 v3 x4 I h
      · have h := zif_t hc h
        refine z_iconst C (v := 0) (by decide) dX12_units_36 ?_
        obtain rfl := Option.some.inj h
        exact z_iret C dX12_units_37 .boolean rfl rfl rfl
set_option maxHeartbeats 4000000 in
set_option maxRecDepth 100000 in
theorem L_X12_units_10 {r : Int32 × zI} (C : zC p l e R s m args below meth c s0 a0 d cy B0 yX12_units.cls cX12_units 5 (some .boolean) bc bs bc bs 1 20 []) (L : zL) (v1 : Int32) (v2 : Int32) (v3 : Int32) (I : zI) (h : zlp4 (f_X12_units_10) zF v1 v2 v3 I = some r) : zG p l e R s m args below meth c d cy B0 5 bc bs (zQ below s args d cy B0 bc bs (.inl (some (.int r.1))) zSH zKn bc bs r.2 L) 10 [(0, .ref (B0 + 97)), (1, .int v1), (2, .int v2), (3, .int v3)] [] zSH zKn bc bs I L :=
 zlp4_e (fun (v1 : Int32) (v2 : Int32) (v3 : Int32) (I : zI) => zG p l e R s m args below meth c d cy B0 5 bc bs (zQ below s args d cy B0 bc bs (.inl (some (.int r.1))) zSH zKn bc bs r.2 L) 10 [(0, .ref (B0 + 97)), (1, .int v1), (2, .int v2), (3, .int v3)] [] zSH zKn bc bs I L) (fun k9 hk9 v1 v2 v3 I h => l_X12_units_10 C L k9 hk9 v1 v2 v3 I h) zF v1 v2 v3 I h
set_option maxHeartbeats 4000000 in
set_option maxRecDepth 100000 in
theorem c_X12_units {r : Int32 × zI} (hE : zE0 l s0 a0 d cy B0) (a1 : Int32) (I : zI) (L : zL) (h : f_X12_units a1 I = some r) : zM l s0 d cy B0 yX12_units cX12_units 5 (some .boolean) 1 20 [.ref (B0 + 97), .int a1] zSH zKn bc bs I L (.inl (some (.int r.1))) zSH zKn bc bs r.2 L := by
  refine z_meth yy_X12_units hE (Nat.le_of_ble_eq_true rfl) (fun p e R s m args below meth c C => ?_)
  show zG p l e R s m args below meth c d cy B0 5 bc bs (zQ below s args d cy B0 bc bs (.inl (some (.int r.1))) zSH zKn bc bs r.2 L) 0 [(0, .ref (B0 + 97)), (1, .int a1)] [] zSH zKn bc bs I L
  unfold f_X12_units at h
  refine z_aload_n C rfl 0 rfl dX12_units_0 ?_
  refine z_iconst C (v := 0) (by decide) dX12_units_1 ?_
  refine z_puti C zc_12 dX12_units_2 0 97 rfl (by decide) (by decide) rfl q_1169 rfl rfl rfl ?_
  obtain ⟨I1, eI1, h⟩ := zlt_e h
  refine z_eqI C eI1 ?_
  refine z_iconst C (v := 0) (by decide) dX12_units_5 ?_
  refine z_istore_n C (lv' := [(2, .int (0 : Int32)), (0, .ref (B0 + 97)), (1, .int a1)]) rfl (by decide) rfl dX12_units_6 ?_
  refine z_bipush C (v := 24) (by decide) dX12_units_7 ?_
  refine z_istore_n C (lv' := [(3, .int (24 : Int32)), (2, .int (0 : Int32)), (0, .ref (B0 + 97)), (1, .int a1)]) rfl (by decide) rfl dX12_units_9 ?_
  refine z_lv [2, 3, 1, 0] (lv' := [(0, .ref (B0 + 97)), (1, .int a1), (2, .int (0 : Int32)), (3, .int (24 : Int32))]) rfl ?_
  exact L_X12_units_10 C L a1 (0 : Int32) (24 : Int32) I1 h
theorem q_1215 : (Cond.fieldLink "DeviceFindModel" (156 : Nat) "DeviceFindModel" "from" "I") ∈ lw_tbl := List.mem_of_getElem? (i := 1215) (by decide +kernel)
theorem q_1216 : (Cond.fieldLink "DeviceFindModel" (153 : Nat) "DeviceFindModel" "to" "I") ∈ lw_tbl := List.mem_of_getElem? (i := 1216) (by decide +kernel)
theorem q_1217 : (Cond.fieldLink "DeviceFindModel" (150 : Nat) "DeviceFindModel" "word" "I") ∈ lw_tbl := List.mem_of_getElem? (i := 1217) (by decide +kernel)
theorem q_1380 : (Cond.code ({ cls := "DeviceFindModel", name := "next", desc := "()V" } : Jvm.MethodName) prog_14_method_14_code (3 : Nat) (Option.none : Option Jvm.ClassFile.FieldType)) ∈ lw_tbl := List.mem_of_getElem? (i := 1380) (by decide +kernel)
theorem q_1381 : (Cond.methodLink "DeviceFindModel" (159 : Nat) ({ cls := "DeviceFindModel", name := "isLetter", desc := "(I)Z" } : Jvm.MethodName)) ∈ lw_tbl := List.mem_of_getElem? (i := 1381) (by decide +kernel)
theorem q_1382 : (Cond.static ({ cls := "DeviceFindModel", name := "isLetter", desc := "(I)Z" } : Jvm.MethodName)) ∈ lw_tbl := List.mem_of_getElem? (i := 1382) (by decide +kernel)
theorem q_1384 : (Cond.methodLink "DeviceFindModel" (162 : Nat) ({ cls := "DeviceFindModel", name := "isDigit", desc := "(I)Z" } : Jvm.MethodName)) ∈ lw_tbl := List.mem_of_getElem? (i := 1384) (by decide +kernel)
theorem q_1385 : (Cond.static ({ cls := "DeviceFindModel", name := "isDigit", desc := "(I)Z" } : Jvm.MethodName)) ∈ lw_tbl := List.mem_of_getElem? (i := 1385) (by decide +kernel)
theorem yy_X12_next : zY yX12_next cX12_next 3 none 0 := ⟨q_1380, q_88, by decide +kernel, by decide +kernel, by decide +kernel⟩
noncomputable def f_X12_next_57 (k18 : zI → Option zI) (I : zI) : Option zI :=
  zlt ((I 97 46) + (1 : Int32)) (fun x19 => zlt (zu I 97 46 x19) (fun I20 => k18 I20))
noncomputable def f_X12_next_175 (k126 : Int32 → Int32 → zI → Option zI) (v1 : Int32) (v2 : Int32) (I : zI) : Option zI :=
  zlt ((I 97 47) + (1 : Int32)) (fun x29 => zlt (zu I 97 47 x29) (fun I30 => k126 v1 v2 I30))
noncomputable def f_X12_next_188 (I : zI) : Option zI :=
  some I
noncomputable def f_X12_next_156 (k126 : Int32 → Int32 → zI → Option zI) (v1 : Int32) (v2 : Int32) (I : zI) : Option zI :=
  if v2 = 0 then (f_X12_next_188 I) else (zlt (I 97 47) (fun x25 => zck (zbd x25 800) (zb1 (f_X12_isDigit (I 117 x25.toNatClampNeg)) (fun x28 => if x28 = 0 then (f_X12_next_188 I) else (f_X12_next_175 k126 v1 v2 I)))))
noncomputable def f_X12_next_126 (k126 : Int32 → Int32 → zI → Option zI) (v1 : Int32) (v2 : Int32) (I : zI) : Option zI :=
  if (I 97 29) ≤ (I 97 47) then (f_X12_next_188 I) else (if v1 = 0 then (f_X12_next_156 k126 v1 v2 I) else (zlt (I 97 47) (fun x21 => zck (zbd x21 800) (zb1 (f_X12_isLetter (I 117 x21.toNatClampNeg)) (fun x24 => if x24 = 0 then (f_X12_next_156 k126 v1 v2 I) else (f_X12_next_175 k126 v1 v2 I))))))
noncomputable def f_X12_next_70 (I : zI) : Option zI :=
  zlt (zu I 97 47 (I 97 46)) (fun I8 => if (I8 97 46) = (I8 97 29) then (some I8) else (zlt (I8 97 46) (fun x9 => zck (zbd x9 800) (zb1 (f_X12_isLetter (I8 117 x9.toNatClampNeg)) (fun x12 => zlt (I8 97 46) (fun x13 => zck (zbd x13 800) (zb1 (f_X12_isDigit (I8 117 x13.toNatClampNeg)) (fun x16 => zlt ((I8 97 47) + (1 : Int32)) (fun x17 => zlt (zu I8 97 47 x17) (fun I18 => zlp3 (f_X12_next_126) zF x12 x16 I18))))))))))
noncomputable def f_X12_next_18 (k18 : zI → Option zI) (I : zI) : Option zI :=
  if (I 97 29) ≤ (I 97 46) then (f_X12_next_70 I) else (zlt (I 97 46) (fun x4 => zck (zbd x4 800) (if (I 117 x4.toNatClampNeg) = (32 : Int32) then (f_X12_next_57 k18 I) else (zlt (I 97 46) (fun x6 => zck (zbd x6 800) (if (I 117 x6.toNatClampNeg) = (10 : Int32) then (f_X12_next_57 k18 I) else (f_X12_next_70 I)))))))
noncomputable def f_X12_next (I : zI) : Option zI :=
  zlt ((I 97 48) + (1 : Int32)) (fun x1 => zlt (zu I 97 48 x1) (fun I2 => zlt (zu I2 97 46 (I2 97 47)) (fun I3 => zlp1 (f_X12_next_18) zF I3)))
set_option maxHeartbeats 4000000 in
set_option maxRecDepth 100000 in
theorem l_X12_next_57 {r : zI} (C : zC p l e R s m args below meth c s0 a0 d cy B0 yX12_next.cls cX12_next 3 none bc bs bc bs 1 20 []) (L : zL) (k18 : zI → Option zI) (hk18 : ∀ (I : zI), k18 I = some r → zG p l e R s m args below meth c d cy B0 3 bc bs (zQ below s args d cy B0 bc bs (.inl none) zSH zKn bc bs r L) 18 [(0, .ref (B0 + 97))] [] zSH zKn bc bs I L) (I : zI) (h : f_X12_next_57 k18 I = some r) : zG p l e R s m args below meth c d cy B0 3 bc bs (zQ below s args d cy B0 bc bs (.inl none) zSH zKn bc bs r L) 57 [(0, .ref (B0 + 97))] [] zSH zKn bc bs I L := by
  unfold f_X12_next_57 at h
  refine z_aload_n C rfl 0 rfl dX12_next_57 ?_
  refine z_dup C rfl dX12_next_58 ?_
  refine z_geti C zc_12 dX12_next_59 46 97 rfl (by decide) (by decide) q_1215 rfl ?_
  refine z_iconst C (v := 1) (by decide) dX12_next_62 ?_
  refine z_iadd C dX12_next_63 ?_
  obtain ⟨x19, ex19, h⟩ := zlt_e h
  refine z_eqi C ex19 ?_
  refine z_puti C zc_12 dX12_next_64 46 97 rfl (by decide) (by decide) rfl q_1215 rfl rfl rfl ?_
  obtain ⟨I20, eI20, h⟩ := zlt_e h
  refine z_eqI C eI20 ?_
  refine z_goto C 18 (by decide) dX12_next_67 ?_
  exact hk18 I20 h
set_option maxHeartbeats 4000000 in
set_option maxRecDepth 100000 in
theorem l_X12_next_175 {r : zI} (C : zC p l e R s m args below meth c s0 a0 d cy B0 yX12_next.cls cX12_next 3 none bc bs bc bs 1 20 []) (L : zL) (k126 : Int32 → Int32 → zI → Option zI) (hk126 : ∀ (v1 : Int32) (v2 : Int32) (I : zI), k126 v1 v2 I = some r → zG p l e R s m args below meth c d cy B0 3 bc bs (zQ below s args d cy B0 bc bs (.inl none) zSH zKn bc bs r L) 126 [(0, .ref (B0 + 97)), (1, .int v1), (2, .int v2)] [] zSH zKn bc bs I L) (v1 : Int32) (v2 : Int32) (I : zI) (h : f_X12_next_175 k126 v1 v2 I = some r) : zG p l e R s m args below meth c d cy B0 3 bc bs (zQ below s args d cy B0 bc bs (.inl none) zSH zKn bc bs r L) 175 [(0, .ref (B0 + 97)), (1, .int v1), (2, .int v2)] [] zSH zKn bc bs I L := by
  unfold f_X12_next_175 at h
  refine z_aload_n C rfl 0 rfl dX12_next_175 ?_
  refine z_dup C rfl dX12_next_176 ?_
  refine z_geti C zc_12 dX12_next_177 47 97 rfl (by decide) (by decide) q_1216 rfl ?_
  refine z_iconst C (v := 1) (by decide) dX12_next_180 ?_
  refine z_iadd C dX12_next_181 ?_
  obtain ⟨x29, ex29, h⟩ := zlt_e h
  refine z_eqi C ex29 ?_
  refine z_puti C zc_12 dX12_next_182 47 97 rfl (by decide) (by decide) rfl q_1216 rfl rfl rfl ?_
  obtain ⟨I30, eI30, h⟩ := zlt_e h
  refine z_eqI C eI30 ?_
  refine z_goto C 126 (by decide) dX12_next_185 ?_
  exact hk126 v1 v2 I30 h
set_option maxHeartbeats 4000000 in
set_option maxRecDepth 100000 in
theorem l_X12_next_188 {r : zI} (C : zC p l e R s m args below meth c s0 a0 d cy B0 yX12_next.cls cX12_next 3 none bc bs bc bs 1 20 []) (L : zL) (I : zI) (h : f_X12_next_188 I = some r) : zG p l e R s m args below meth c d cy B0 3 bc bs (zQ below s args d cy B0 bc bs (.inl none) zSH zKn bc bs r L) 188 [] [] zSH zKn bc bs I L := by
  unfold f_X12_next_188 at h
  obtain rfl := Option.some.inj h
  exact z_vret C dX12_next_188 rfl rfl
set_option maxHeartbeats 4000000 in
set_option maxRecDepth 100000 in
theorem l_X12_next_156 {r : zI} (C : zC p l e R s m args below meth c s0 a0 d cy B0 yX12_next.cls cX12_next 3 none bc bs bc bs 1 20 []) (L : zL) (k126 : Int32 → Int32 → zI → Option zI) (hk126 : ∀ (v1 : Int32) (v2 : Int32) (I : zI), k126 v1 v2 I = some r → zG p l e R s m args below meth c d cy B0 3 bc bs (zQ below s args d cy B0 bc bs (.inl none) zSH zKn bc bs r L) 126 [(0, .ref (B0 + 97)), (1, .int v1), (2, .int v2)] [] zSH zKn bc bs I L) (v1 : Int32) (v2 : Int32) (I : zI) (h : f_X12_next_156 k126 v1 v2 I = some r) : zG p l e R s m args below meth c d cy B0 3 bc bs (zQ below s args d cy B0 bc bs (.inl none) zSH zKn bc bs r L) 156 [(0, .ref (B0 + 97)), (1, .int v1), (2, .int v2)] [] zSH zKn bc bs I L := by
  unfold f_X12_next_156 at h
  refine z_iload_n C rfl 2 rfl dX12_next_156 ?_
  refine z_if_eq C 188 (by decide) dX12_next_157 (fun hc => ?_) (fun hc => ?_)
  · have h := zif_t hc h
    refine z_lv [] (lv' := []) rfl ?_
    exact l_X12_next_188 C L I h
  · have h := zif_f hc h
    refine z_aload_n C rfl 0 rfl dX12_next_160 ?_
    refine z_getr C zc_12 dX12_next_161 28 97 117 rfl (by decide) (by decide) q_1197 rfl rfl ?_
    refine z_aload_n C rfl 0 rfl dX12_next_164 ?_
    refine z_geti C zc_12 dX12_next_165 47 97 rfl (by decide) (by decide) q_1216 rfl ?_
    obtain ⟨x25, ex25, h⟩ := zlt_e h
    refine z_eqi C ex25 ?_
    obtain ⟨hb26, h⟩ := zck_e h
    refine z_iaload C dX12_next_168 rfl rfl (by decide) (zbd_in hb26) ?_
    obtain ⟨x28, hg27, h⟩ := zb1_e h
    refine z_callS C dX12_next_169 yy_X12_isDigit (c_X12_isDigit C.2.2.2.2.1  (I 117 x25.toNatClampNeg) I L hg27) q_1384 q_1385 (by decide) (by decide) rfl rfl (Nat.le_of_ble_eq_true rfl) ⟨Nat.le_refl _, Nat.le_refl _, Nat.le_refl _, Nat.le_refl _⟩ ?_
    refine z_if_eq C 188 (by decide) dX12_next_172 (fun hc => ?_) (fun hc => ?_)
    · have h := zif_t hc h
      refine z_lv [] (lv' := []) rfl ?_
      exact l_X12_next_188 C L I h
    · have h := zif_f hc h
      exact l_X12_next_175 C L k126 hk126 v1 v2 I h
set_option maxHeartbeats 4000000 in
set_option maxRecDepth 100000 in
theorem l_X12_next_126 {r : zI} (C : zC p l e R s m args below meth c s0 a0 d cy B0 yX12_next.cls cX12_next 3 none bc bs bc bs 1 20 []) (L : zL) (k126 : Int32 → Int32 → zI → Option zI) (hk126 : ∀ (v1 : Int32) (v2 : Int32) (I : zI), k126 v1 v2 I = some r → zG p l e R s m args below meth c d cy B0 3 bc bs (zQ below s args d cy B0 bc bs (.inl none) zSH zKn bc bs r L) 126 [(0, .ref (B0 + 97)), (1, .int v1), (2, .int v2)] [] zSH zKn bc bs I L) (v1 : Int32) (v2 : Int32) (I : zI) (h : f_X12_next_126 k126 v1 v2 I = some r) : zG p l e R s m args below meth c d cy B0 3 bc bs (zQ below s args d cy B0 bc bs (.inl none) zSH zKn bc bs r L) 126 [(0, .ref (B0 + 97)), (1, .int v1), (2, .int v2)] [] zSH zKn bc bs I L := by
  unfold f_X12_next_126 at h
  refine z_aload_n C rfl 0 rfl dX12_next_126 ?_
  refine z_geti C zc_12 dX12_next_127 47 97 rfl (by decide) (by decide) q_1216 rfl ?_
  refine z_aload_n C rfl 0 rfl dX12_next_130 ?_
  refine z_geti C zc_12 dX12_next_131 29 97 rfl (by decide) (by decide) q_1198 rfl ?_
  refine z_icmp_ge C 188 (by decide) dX12_next_134 (fun hc => ?_) (fun hc => ?_)
  · have h := zif_t hc h
    refine z_lv [] (lv' := []) rfl ?_
    exact l_X12_next_188 C L I h
  · have h := zif_f hc h
    refine z_iload_n C rfl 1 rfl dX12_next_137 ?_
    refine z_if_eq C 156 (by decide) dX12_next_138 (fun hc => ?_) (fun hc => ?_)
    · have h := zif_t hc h
      exact l_X12_next_156 C L k126 hk126 v1 v2 I h
    · have h := zif_f hc h
      refine z_aload_n C rfl 0 rfl dX12_next_141 ?_
      refine z_getr C zc_12 dX12_next_142 28 97 117 rfl (by decide) (by decide) q_1197 rfl rfl ?_
      refine z_aload_n C rfl 0 rfl dX12_next_145 ?_
      refine z_geti C zc_12 dX12_next_146 47 97 rfl (by decide) (by decide) q_1216 rfl ?_
      obtain ⟨x21, ex21, h⟩ := zlt_e h
      refine z_eqi C ex21 ?_
      obtain ⟨hb22, h⟩ := zck_e h
      refine z_iaload C dX12_next_149 rfl rfl (by decide) (zbd_in hb22) ?_
      obtain ⟨x24, hg23, h⟩ := zb1_e h
      refine z_callS C dX12_next_150 yy_X12_isLetter (c_X12_isLetter C.2.2.2.2.1  (I 117 x21.toNatClampNeg) I L hg23) q_1381 q_1382 (by decide) (by decide) rfl rfl (Nat.le_of_ble_eq_true rfl) ⟨Nat.le_refl _, Nat.le_refl _, Nat.le_refl _, Nat.le_refl _⟩ ?_
      refine z_if_ne C 175 (by decide) dX12_next_153 (fun hc => ?_) (fun hc => ?_)
      · have h := zif_f hc h
        exact l_X12_next_175 C L k126 hk126 v1 v2 I h
      · have h := zif_t hc h
        exact l_X12_next_156 C L k126 hk126 v1 v2 I h
set_option maxHeartbeats 4000000 in
set_option maxRecDepth 100000 in
theorem L_X12_next_126 {r : zI} (C : zC p l e R s m args below meth c s0 a0 d cy B0 yX12_next.cls cX12_next 3 none bc bs bc bs 1 20 []) (L : zL) (v1 : Int32) (v2 : Int32) (I : zI) (h : zlp3 (f_X12_next_126) zF v1 v2 I = some r) : zG p l e R s m args below meth c d cy B0 3 bc bs (zQ below s args d cy B0 bc bs (.inl none) zSH zKn bc bs r L) 126 [(0, .ref (B0 + 97)), (1, .int v1), (2, .int v2)] [] zSH zKn bc bs I L :=
 zlp3_e (fun (v1 : Int32) (v2 : Int32) (I : zI) => zG p l e R s m args below meth c d cy B0 3 bc bs (zQ below s args d cy B0 bc bs (.inl none) zSH zKn bc bs r L) 126 [(0, .ref (B0 + 97)), (1, .int v1), (2, .int v2)] [] zSH zKn bc bs I L) (fun k9 hk9 v1 v2 I h => l_X12_next_126 C L k9 hk9 v1 v2 I h) zF v1 v2 I h
set_option maxHeartbeats 4000000 in
set_option maxRecDepth 100000 in
theorem l_X12_next_70 {r : zI} (C : zC p l e R s m args below meth c s0 a0 d cy B0 yX12_next.cls cX12_next 3 none bc bs bc bs 1 20 []) (L : zL) (I : zI) (h : f_X12_next_70 I = some r) : zG p l e R s m args below meth c d cy B0 3 bc bs (zQ below s args d cy B0 bc bs (.inl none) zSH zKn bc bs r L) 70 [(0, .ref (B0 + 97))] [] zSH zKn bc bs I L := by
  unfold f_X12_next_70 at h
  refine z_aload_n C rfl 0 rfl dX12_next_70 ?_
  refine z_aload_n C rfl 0 rfl dX12_next_71 ?_
  refine z_geti C zc_12 dX12_next_72 46 97 rfl (by decide) (by decide) q_1215 rfl ?_
  refine z_puti C zc_12 dX12_next_75 47 97 rfl (by decide) (by decide) rfl q_1216 rfl rfl rfl ?_
  obtain ⟨I8, eI8, h⟩ := zlt_e h
  refine z_eqI C eI8 ?_
  refine z_aload_n C rfl 0 rfl dX12_next_78 ?_
  refine z_geti C zc_12 dX12_next_79 46 97 rfl (by decide) (by decide) q_1215 rfl ?_
  refine z_aload_n C rfl 0 rfl dX12_next_82 ?_
  refine z_geti C zc_12 dX12_next_83 29 97 rfl (by decide) (by decide) q_1198 rfl ?_
  refine z_icmp_ne C 90 (by decide) dX12_next_86 (fun hc => ?_) (fun hc => ?_)
  · have h := zif_f hc h
    refine z_aload_n C rfl 0 rfl dX12_next_90 ?_
    refine z_getr C zc_12 dX12_next_91 28 97 117 rfl (by decide) (by decide) q_1197 rfl rfl ?_
    refine z_aload_n C rfl 0 rfl dX12_next_94 ?_
    refine z_geti C zc_12 dX12_next_95 46 97 rfl (by decide) (by decide) q_1215 rfl ?_
    obtain ⟨x9, ex9, h⟩ := zlt_e h
    refine z_eqi C ex9 ?_
    obtain ⟨hb10, h⟩ := zck_e h
    refine z_iaload C dX12_next_98 rfl rfl (by decide) (zbd_in hb10) ?_
    obtain ⟨x12, hg11, h⟩ := zb1_e h
    refine z_callS C dX12_next_99 yy_X12_isLetter (c_X12_isLetter C.2.2.2.2.1  (I8 117 x9.toNatClampNeg) I8 L hg11) q_1381 q_1382 (by decide) (by decide) rfl rfl (Nat.le_of_ble_eq_true rfl) ⟨Nat.le_refl _, Nat.le_refl _, Nat.le_refl _, Nat.le_refl _⟩ ?_
    refine z_istore_n C (lv' := [(1, .int x12), (0, .ref (B0 + 97))]) rfl (by decide) rfl dX12_next_102 ?_
    refine z_aload_n C rfl 1 rfl dX12_next_103 ?_
    refine z_getr C zc_12 dX12_next_104 28 97 117 rfl (by decide) (by decide) q_1197 rfl rfl ?_
    refine z_aload_n C rfl 1 rfl dX12_next_107 ?_
    refine z_geti C zc_12 dX12_next_108 46 97 rfl (by decide) (by decide) q_1215 rfl ?_
    obtain ⟨x13, ex13, h⟩ := zlt_e h
    refine z_eqi C ex13 ?_
    obtain ⟨hb14, h⟩ := zck_e h
    refine z_iaload C dX12_next_111 rfl rfl (by decide) (zbd_in hb14) ?_
    obtain ⟨x16, hg15, h⟩ := zb1_e h
    refine z_callS C dX12_next_112 yy_X12_isDigit (c_X12_isDigit C.2.2.2.2.1  (I8 117 x13.toNatClampNeg) I8 L hg15) q_1384 q_1385 (by decide) (by decide) rfl rfl (Nat.le_of_ble_eq_true rfl) ⟨Nat.le_refl _, Nat.le_refl _, Nat.le_refl _, Nat.le_refl _⟩ ?_
    refine z_istore_n C (lv' := [(2, .int x16), (1, .int x12), (0, .ref (B0 + 97))]) rfl (by decide) rfl dX12_next_115 ?_
    refine z_aload_n C rfl 2 rfl dX12_next_116 ?_
    refine z_dup C rfl dX12_next_117 ?_
    refine z_geti C zc_12 dX12_next_118 47 97 rfl (by decide) (by decide) q_1216 rfl ?_
    refine z_iconst C (v := 1) (by decide) dX12_next_121 ?_
    refine z_iadd C dX12_next_122 ?_
    obtain ⟨x17, ex17, h⟩ := zlt_e h
    refine z_eqi C ex17 ?_
    refine z_puti C zc_12 dX12_next_123 47 97 rfl (by decide) (by decide) rfl q_1216 rfl rfl rfl ?_
    obtain ⟨I18, eI18, h⟩ := zlt_e h
    refine z_eqI C eI18 ?_
    refine z_lv [2, 1, 0] (lv' := [(0, .ref (B0 + 97)), (1, .int x12), (2, .int x16)]) rfl ?_
    exact L_X12_next_126 C L x12 x16 I18 h
  · have h := zif_t hc h
    obtain rfl := Option.some.inj h
    exact z_vret C dX12_next_89 rfl rfl
set_option maxHeartbeats 4000000 in
set_option maxRecDepth 100000 in
theorem l_X12_next_18 {r : zI} (C : zC p l e R s m args below meth c s0 a0 d cy B0 yX12_next.cls cX12_next 3 none bc bs bc bs 1 20 []) (L : zL) (k18 : zI → Option zI) (hk18 : ∀ (I : zI), k18 I = some r → zG p l e R s m args below meth c d cy B0 3 bc bs (zQ below s args d cy B0 bc bs (.inl none) zSH zKn bc bs r L) 18 [(0, .ref (B0 + 97))] [] zSH zKn bc bs I L) (I : zI) (h : f_X12_next_18 k18 I = some r) : zG p l e R s m args below meth c d cy B0 3 bc bs (zQ below s args d cy B0 bc bs (.inl none) zSH zKn bc bs r L) 18 [(0, .ref (B0 + 97))] [] zSH zKn bc bs I L := by
  unfold f_X12_next_18 at h
  refine z_aload_n C rfl 0 rfl dX12_next_18 ?_
  refine z_geti C zc_12 dX12_next_19 46 97 rfl (by decide) (by decide) q_1215 rfl ?_
  refine z_aload_n C rfl 0 rfl dX12_next_22 ?_
  refine z_geti C zc_12 dX12_next_23 29 97 rfl (by decide) (by decide) q_1198 rfl ?_
  refine z_icmp_ge C 70 (by decide) dX12_next_26 (fun hc => ?_) (fun hc => ?_)
  · have h := zif_t hc h
    exact l_X12_next_70 C L I h
  · have h := zif_f hc h
    refine z_aload_n C rfl 0 rfl dX12_next_29 ?_
    refine z_getr C zc_12 dX12_next_30 28 97 117 rfl (by decide) (by decide) q_1197 rfl rfl ?_
    refine z_aload_n C rfl 0 rfl dX12_next_33 ?_
    refine z_geti C zc_12 dX12_next_34 46 97 rfl (by decide) (by decide) q_1215 rfl ?_
    obtain ⟨x4, ex4, h⟩ := zlt_e h
    refine z_eqi C ex4 ?_
    obtain ⟨hb5, h⟩ := zck_e h
    refine z_iaload C dX12_next_37 rfl rfl (by decide) (zbd_in hb5) ?_
    refine z_bipush C (v := 32) (by decide) dX12_next_38 ?_
    refine z_icmp_eq C 57 (by decide) dX12_next_40 (fun hc => ?_) (fun hc => ?_)
    · have h := zif_t hc h
      exact l_X12_next_57 C L k18 hk18 I h
    · have h := zif_f hc h
      refine z_aload_n C rfl 0 rfl dX12_next_43 ?_
      refine z_getr C zc_12 dX12_next_44 28 97 117 rfl (by decide) (by decide) q_1197 rfl rfl ?_
      refine z_aload_n C rfl 0 rfl dX12_next_47 ?_
      refine z_geti C zc_12 dX12_next_48 46 97 rfl (by decide) (by decide) q_1215 rfl ?_
      obtain ⟨x6, ex6, h⟩ := zlt_e h
      refine z_eqi C ex6 ?_
      obtain ⟨hb7, h⟩ := zck_e h
      refine z_iaload C dX12_next_51 rfl rfl (by decide) (zbd_in hb7) ?_
      refine z_bipush C (v := 10) (by decide) dX12_next_52 ?_
      refine z_icmp_ne C 70 (by decide) dX12_next_54 (fun hc => ?_) (fun hc => ?_)
      · have h := zif_f hc h
        exact l_X12_next_70 C L I h
      · have h := zif_t hc h
        exact l_X12_next_57 C L k18 hk18 I h
set_option maxHeartbeats 4000000 in
set_option maxRecDepth 100000 in
theorem L_X12_next_18 {r : zI} (C : zC p l e R s m args below meth c s0 a0 d cy B0 yX12_next.cls cX12_next 3 none bc bs bc bs 1 20 []) (L : zL) (I : zI) (h : zlp1 (f_X12_next_18) zF I = some r) : zG p l e R s m args below meth c d cy B0 3 bc bs (zQ below s args d cy B0 bc bs (.inl none) zSH zKn bc bs r L) 18 [(0, .ref (B0 + 97))] [] zSH zKn bc bs I L :=
 zlp1_e (fun (I : zI) => zG p l e R s m args below meth c d cy B0 3 bc bs (zQ below s args d cy B0 bc bs (.inl none) zSH zKn bc bs r L) 18 [(0, .ref (B0 + 97))] [] zSH zKn bc bs I L) (fun k9 hk9 I h => l_X12_next_18 C L k9 hk9 I h) zF I h
set_option maxHeartbeats 4000000 in
set_option maxRecDepth 100000 in
theorem c_X12_next {r : zI} (hE : zE0 l s0 a0 d cy B0) (I : zI) (L : zL) (h : f_X12_next I = some r) : zM l s0 d cy B0 yX12_next cX12_next 3 none 1 20 [.ref (B0 + 97)] zSH zKn bc bs I L (.inl none) zSH zKn bc bs r L := by
  refine z_meth yy_X12_next hE (Nat.le_of_ble_eq_true rfl) (fun p e R s m args below meth c C => ?_)
  show zG p l e R s m args below meth c d cy B0 3 bc bs (zQ below s args d cy B0 bc bs (.inl none) zSH zKn bc bs r L) 0 [(0, .ref (B0 + 97))] [] zSH zKn bc bs I L
  unfold f_X12_next at h
  refine z_aload_n C rfl 0 rfl dX12_next_0 ?_
  refine z_dup C rfl dX12_next_1 ?_
  refine z_geti C zc_12 dX12_next_2 48 97 rfl (by decide) (by decide) q_1217 rfl ?_
  refine z_iconst C (v := 1) (by decide) dX12_next_5 ?_
  refine z_iadd C dX12_next_6 ?_
  obtain ⟨x1, ex1, h⟩ := zlt_e h
  refine z_eqi C ex1 ?_
  refine z_puti C zc_12 dX12_next_7 48 97 rfl (by decide) (by decide) rfl q_1217 rfl rfl rfl ?_
  obtain ⟨I2, eI2, h⟩ := zlt_e h
  refine z_eqI C eI2 ?_
  refine z_aload_n C rfl 0 rfl dX12_next_10 ?_
  refine z_aload_n C rfl 0 rfl dX12_next_11 ?_
  refine z_geti C zc_12 dX12_next_12 47 97 rfl (by decide) (by decide) q_1216 rfl ?_
  refine z_puti C zc_12 dX12_next_15 46 97 rfl (by decide) (by decide) rfl q_1215 rfl rfl rfl ?_
  obtain ⟨I3, eI3, h⟩ := zlt_e h
  refine z_eqI C eI3 ?_
  exact L_X12_next_18 C L I3 h
end Zp05_15_walk
