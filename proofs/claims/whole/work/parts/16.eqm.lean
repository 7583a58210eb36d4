set_option maxRecDepth 100000 in
set_option maxHeartbeats 4000000 in
theorem q_M_face_64 (ρ : Nat × (Nat → Int32)) (σ : rd_Sg) (x1 : Int32) : rd_R ρ 138 0 [some (.ref 64), some (.int x1), none, none, none] [] σ = ((rd_R ρ 137 0 [some (.int x1), some (.int (-1)), some (.int ((σ 64 0) - 1))] [] σ).bind fun q0 => (if q0.1 = 0 then some (((-1) : Int32), q0.2) else (if (q0.2 64 0) = 12 then some (((-3) : Int32), q0.2) else (rd_chk (q0.2 64 0) 12 ((if x1 < 0 then rd_R ρ 138 34 [some (.ref 64), some (.int x1), none, none, none] [.int 0, .int (q0.2 64 0), .ref 66] (rd_u q0.2 65 (q0.2 64 0).toNatClampNeg x1) else (rd_chk x1 12 (rd_R ρ 138 34 [some (.ref 64), some (.int x1), none, none, none] [.int (q0.2 66 x1.toNatClampNeg), .int (q0.2 64 0), .ref 66] (rd_u q0.2 65 (q0.2 64 0).toNatClampNeg x1))))))))) := by
  refine (r_iload_n L_138_0 rfl).trans ?_
  refine (r_iconst L_138_1 ki_m1).trans ?_
  refine (r_aload_n L_138_2 rfl).trans ?_
  refine (r_getfi L_138_3 gf_64_0).trans ?_
  refine (r_iconst L_138_4 ki_1).trans ?_
  refine (r_isub L_138_5).trans ?_
  refine (r_callS L_138_6 rfl isI_137 rfl).trans ?_
  refine bi_c (fun q0 => ?_)
  refine (r_ifne L_138_7).trans ?_
  refine it_c ?_ ?_
  · refine (r_iconst L_138_8 ki_m1).trans ?_
    exact r_ret L_138_9 mz_138
  · refine (r_aload_n L_138_10 rfl).trans ?_
    refine (r_getfi L_138_11 gf_64_0).trans ?_
    refine (r_bipush L_138_12 kb_12).trans ?_
    refine (r_cmpne L_138_13).trans ?_
    refine it_c ?_ ?_
    · refine (r_bipush L_138_14 kb_m3).trans ?_
      exact r_ret L_138_15 mz_138
    · refine (r_aload_n L_138_16 rfl).trans ?_
      refine (r_getfr L_138_17 gf_64_1).trans ?_
      refine (r_aload_n L_138_18 rfl).trans ?_
      refine (r_getfi L_138_19 gf_64_0).trans ?_
      refine (r_iload_n L_138_20 rfl).trans ?_
      refine (r_iast L_138_21 ar_65).trans ?_
      refine ck_c ?_
      refine (r_aload_n L_138_22 rfl).trans ?_
      refine (r_getfr L_138_23 gf_64_2).trans ?_
      refine (r_aload_n L_138_24 rfl).trans ?_
      refine (r_getfiv L_138_25 gf_64_0 (rd_un (by decide))).trans ?_
      refine (r_iload_n L_138_26 rfl).trans ?_
      refine (r_ifge L_138_27).trans ?_
      refine it_c ?_ ?_
      · refine (r_iconst L_138_28 ki_0).trans ?_
        refine (r_goto L_138_29).trans ?_
        rfl
      · refine (r_aload_n L_138_30 rfl).trans ?_
        refine (r_getfr L_138_31 gf_64_2).trans ?_
        refine (r_iload_n L_138_32 rfl).trans ?_
        refine (r_ialdv L_138_33 ar_66 (rd_un (by decide))).trans ?_
        refine ck_c ?_
        rfl
set_option maxRecDepth 100000 in
set_option maxHeartbeats 4000000 in
theorem q_M_face_64_at34 (ρ : Nat × (Nat → Int32)) (σ : rd_Sg) (x1 s1 s2 : Int32) (o2 o3 o4 : Option Value) : rd_R ρ 138 34 [some (.ref 64), some (.int x1), o2, o3, o4] [.int s2, .int s1, .ref 66] σ = (rd_chk s1 12 (rd_R ρ 138 37 [some (.ref 64), some (.int x1), some (.int 0), o3, o4] [] (rd_u σ 66 s1.toNatClampNeg s2))) := by
  refine (r_iast L_138_34 ar_66).trans ?_
  refine ck_c ?_
  refine (r_iconst L_138_35 ki_0).trans ?_
  refine (r_istore_n L_138_36 rfl).trans ?_
  rfl
set_option maxRecDepth 100000 in
set_option maxHeartbeats 4000000 in
theorem q_M_face_64_at37 (ρ : Nat × (Nat → Int32)) (σ : rd_Sg) (x1 x2 : Int32) (o3 o4 : Option Value) : rd_R ρ 138 37 [some (.ref 64), some (.int x1), some (.int x2), o3, o4] [] σ = (rd_chk (σ 64 0) 12 ((if x2 < (σ 66 (σ 64 0).toNatClampNeg) then (rd_chk ((8 * x1) + x2) 96 ((rd_chk ((8 * (σ 64 0)) + x2) 96 ((rd_chk ((8 * x1) + x2) 96 ((rd_chk ((8 * (σ 64 0)) + x2) 96 ((rd_chk ((8 * x1) + x2) 96 ((rd_chk ((8 * (σ 64 0)) + x2) 96 ((rd_chk ((8 * x1) + x2) 96 ((rd_chk ((8 * (σ 64 0)) + x2) 96 (rd_R ρ 138 37 [some (.ref 64), some (.int x1), some (.int (x2 + 1)), some (.int ((8 * x1) + x2)), some (.int ((8 * (σ 64 0)) + x2))] [] (rd_u (rd_u (rd_u (rd_u σ 67 ((8 * (σ 64 0)) + x2).toNatClampNeg (σ 67 ((8 * x1) + x2).toNatClampNeg)) 68 ((8 * (σ 64 0)) + x2).toNatClampNeg (σ 68 ((8 * x1) + x2).toNatClampNeg)) 69 ((8 * (σ 64 0)) + x2).toNatClampNeg (σ 69 ((8 * x1) + x2).toNatClampNeg)) 70 ((8 * (σ 64 0)) + x2).toNatClampNeg (σ 70 ((8 * x1) + x2).toNatClampNeg)))))))))))))))))) else some ((((σ 64 0) + 1) - 1), (rd_u σ 64 0 ((σ 64 0) + 1)))))) := by
  refine (r_iload_n L_138_37 rfl).trans ?_
  refine (r_aload_n L_138_38 rfl).trans ?_
  refine (r_getfr L_138_39 gf_64_2).trans ?_
  refine (r_aload_n L_138_40 rfl).trans ?_
  refine (r_getfi L_138_41 gf_64_0).trans ?_
  refine (r_iald L_138_42 ar_66).trans ?_
  refine ck_c ?_
  refine (r_cmpge L_138_43).trans ?_
  refine it_c ?_ ?_
  · refine (r_bipush L_138_44 kb_8).trans ?_
    refine (r_iload_n L_138_45 rfl).trans ?_
    refine (r_imul L_138_46).trans ?_
    refine (r_iload_n L_138_47 rfl).trans ?_
    refine (r_iadd L_138_48).trans ?_
    refine (r_istore_n L_138_49 rfl).trans ?_
    refine (r_bipush L_138_50 kb_8).trans ?_
    refine (r_aload_n L_138_51 rfl).trans ?_
    refine (r_getfi L_138_52 gf_64_0).trans ?_
    refine (r_imul L_138_53).trans ?_
    refine (r_iload_n L_138_54 rfl).trans ?_
    refine (r_iadd L_138_55).trans ?_
    refine (r_istore L_138_56 rfl).trans ?_
    refine (r_aload_n L_138_57 rfl).trans ?_
    refine (r_getfr L_138_58 gf_64_3).trans ?_
    refine (r_iload L_138_59 rfl).trans ?_
    refine (r_aload_n L_138_60 rfl).trans ?_
    refine (r_getfr L_138_61 gf_64_3).trans ?_
    refine (r_iload_n L_138_62 rfl).trans ?_
    refine (r_iald L_138_63 ar_67).trans ?_
    refine ck_c ?_
    refine (r_iast L_138_64 ar_67).trans ?_
    refine ck_c ?_
    refine (r_aload_n L_138_65 rfl).trans ?_
    refine (r_getfr L_138_66 gf_64_4).trans ?_
    refine (r_iload L_138_67 rfl).trans ?_
    refine (r_aload_n L_138_68 rfl).trans ?_
    refine (r_getfr L_138_69 gf_64_4).trans ?_
    refine (r_iload_n L_138_70 rfl).trans ?_
    refine (r_ialdv L_138_71 ar_68 (rd_un (by decide))).trans ?_
    refine ck_c ?_
    refine (r_iast L_138_72 ar_68).trans ?_
    refine ck_c ?_
    refine (r_aload_n L_138_73 rfl).trans ?_
    refine (r_getfr L_138_74 gf_64_5).trans ?_
    refine (r_iload L_138_75 rfl).trans ?_
    refine (r_aload_n L_138_76 rfl).trans ?_
    refine (r_getfr L_138_77 gf_64_5).trans ?_
    refine (r_iload_n L_138_78 rfl).trans ?_
    refine (r_ialdv L_138_79 ar_69 ((rd_un (by decide)).trans (rd_un (by decide)))).trans ?_
    refine ck_c ?_
    refine (r_iast L_138_80 ar_69).trans ?_
    refine ck_c ?_
    refine (r_aload_n L_138_81 rfl).trans ?_
    refine (r_getfr L_138_82 gf_64_6).trans ?_
    refine (r_iload L_138_83 rfl).trans ?_
    refine (r_aload_n L_138_84 rfl).trans ?_
    refine (r_getfr L_138_85 gf_64_6).trans ?_
    refine (r_iload_n L_138_86 rfl).trans ?_
    refine (r_ialdv L_138_87 ar_70 ((rd_un (by decide)).trans ((rd_un (by decide)).trans (rd_un (by decide))))).trans ?_
    refine ck_c ?_
    refine (r_iast L_138_88 ar_70).trans ?_
    refine ck_c ?_
    refine (r_iinc L_138_89 rfl ki_1 rfl).trans ?_
    refine (r_goto L_138_90).trans ?_
    rfl
  · refine (r_aload_n L_138_91 rfl).trans ?_
    refine (r_dupr L_138_92).trans ?_
    refine (r_getfi L_138_93 gf_64_0).trans ?_
    refine (r_iconst L_138_94 ki_1).trans ?_
    refine (r_iadd L_138_95).trans ?_
    refine (r_putfi L_138_96 gf_64_0).trans ?_
    refine (r_aload_n L_138_97 rfl).trans ?_
    refine (r_getfiv L_138_98 gf_64_0 (rd_us)).trans ?_
    refine (r_iconst L_138_99 ki_1).trans ?_
    refine (r_isub L_138_100).trans ?_
    exact r_ret L_138_101 mz_138
set_option maxRecDepth 100000 in
set_option maxHeartbeats 4000000 in
theorem q_M_method_64 (ρ : Nat × (Nat → Int32)) (σ : rd_Sg) (x1 x2 x3 x4 x5 : Int32) : rd_R ρ 140 0 [some (.ref 64), some (.int x1), some (.int x2), some (.int x3), some (.int x4), some (.int x5), none, none] [] σ = ((rd_R ρ 137 0 [some (.int x1), some (.int 0), some (.int ((σ 64 0) - 1))] [] σ).bind fun q0 => (if q0.1 = 0 then some (((-1) : Int32), q0.2) else ((rd_R ρ 137 0 [some (.int x2), some (.int 0), some (.int 3)] [] q0.2).bind fun q2 => (if q2.1 = 0 then some (((-1) : Int32), q2.2) else ((rd_R ρ 137 0 [some (.int x3), some (.int 0), some (.int ((1 <<< (x2 &&& 31)) - 1))] [] q2.2).bind fun q4 => (if q4.1 = 0 then some (((-1) : Int32), q4.2) else ((rd_R ρ 137 0 [some (.int x4), some (.int 0), some (.int 2)] [] q4.2).bind fun q6 => (if q6.1 = 0 then some (((-1) : Int32), q6.2) else ((rd_R ρ 137 0 [some (.int x5), some (.int 0), some (.int 255)] [] q6.2).bind fun q8 => (if q8.1 = 0 then some (((-1) : Int32), q8.2) else rd_R ρ 140 38 [some (.ref 64), some (.int x1), some (.int x2), some (.int x3), some (.int x4), some (.int x5), some (.int 0), some (.int 0)] [] q8.2)))))))))) := by
  refine (r_iload_n L_140_0 rfl).trans ?_
  refine (r_iconst L_140_1 ki_0).trans ?_
  refine (r_aload_n L_140_2 rfl).trans ?_
  refine (r_getfi L_140_3 gf_64_0).trans ?_
  refine (r_iconst L_140_4 ki_1).trans ?_
  refine (r_isub L_140_5).trans ?_
  refine (r_callS L_140_6 rfl isI_137 rfl).trans ?_
  refine bi_c (fun q0 => ?_)
  refine (r_ifeq L_140_7).trans ?_
  refine it_c ?_ ?_
  · refine (r_iconst L_140_32 ki_m1).trans ?_
    exact r_ret L_140_33 mz_140
  · refine (r_iload_n L_140_8 rfl).trans ?_
    refine (r_iconst L_140_9 ki_0).trans ?_
    refine (r_iconst L_140_10 ki_3).trans ?_
    refine (r_callS L_140_11 rfl isI_137 rfl).trans ?_
    refine bi_c (fun q2 => ?_)
    refine (r_ifeq L_140_12).trans ?_
    refine it_c ?_ ?_
    · refine (r_iconst L_140_32 ki_m1).trans ?_
      exact r_ret L_140_33 mz_140
    · refine (r_iload_n L_140_13 rfl).trans ?_
      refine (r_iconst L_140_14 ki_0).trans ?_
      refine (r_iconst L_140_15 ki_1).trans ?_
      refine (r_iload_n L_140_16 rfl).trans ?_
      refine (r_ishl L_140_17).trans ?_
      refine (r_iconst L_140_18 ki_1).trans ?_
      refine (r_isub L_140_19).trans ?_
      refine (r_callS L_140_20 rfl isI_137 rfl).trans ?_
      refine bi_c (fun q4 => ?_)
      refine (r_ifeq L_140_21).trans ?_
      refine it_c ?_ ?_
      · refine (r_iconst L_140_32 ki_m1).trans ?_
        exact r_ret L_140_33 mz_140
      · refine (r_iload L_140_22 rfl).trans ?_
        refine (r_iconst L_140_23 ki_0).trans ?_
        refine (r_iconst L_140_24 ki_2).trans ?_
        refine (r_callS L_140_25 rfl isI_137 rfl).trans ?_
        refine bi_c (fun q6 => ?_)
        refine (r_ifeq L_140_26).trans ?_
        refine it_c ?_ ?_
        · refine (r_iconst L_140_32 ki_m1).trans ?_
          exact r_ret L_140_33 mz_140
        · refine (r_iload L_140_27 rfl).trans ?_
          refine (r_iconst L_140_28 ki_0).trans ?_
          refine (r_sipush L_140_29 ks_255).trans ?_
          refine (r_callS L_140_30 rfl isI_137 rfl).trans ?_
          refine bi_c (fun q8 => ?_)
          refine (r_ifne L_140_31).trans ?_
          refine it_c ?_ ?_
          · refine (r_iconst L_140_32 ki_m1).trans ?_
            exact r_ret L_140_33 mz_140
          · refine (r_iconst L_140_34 ki_0).trans ?_
            refine (r_istore L_140_35 rfl).trans ?_
            refine (r_iconst L_140_36 ki_0).trans ?_
            refine (r_istore L_140_37 rfl).trans ?_
            rfl
set_option maxRecDepth 100000 in
set_option maxHeartbeats 4000000 in
theorem q_M_method_64_at38 (ρ : Nat × (Nat → Int32)) (σ : rd_Sg) (x1 x2 x3 x4 x5 x6 x7 : Int32) : rd_R ρ 140 38 [some (.ref 64), some (.int x1), some (.int x2), some (.int x3), some (.int x4), some (.int x5), some (.int x6), some (.int x7)] [] σ = (if x7 < (σ 64 0) then (if x6 = 0 then (rd_chk x7 12 ((if (σ 65 x7.toNatClampNeg) = x1 then rd_R ρ 140 50 [some (.ref 64), some (.int x1), some (.int x2), some (.int x3), some (.int x4), some (.int x5), some (.int x6), some (.int x7)] [] σ else rd_R ρ 140 53 [some (.ref 64), some (.int x1), some (.int x2), some (.int x3), some (.int x4), some (.int x5), some (.int x6), some (.int x7)] [.int 0] σ))) else rd_R ρ 140 50 [some (.ref 64), some (.int x1), some (.int x2), some (.int x3), some (.int x4), some (.int x5), some (.int x6), some (.int x7)] [] σ) else rd_R ρ 140 58 [some (.ref 64), some (.int x1), some (.int x2), some (.int x3), some (.int x4), some (.int x5), some (.int x6), some (.int 0)] [] σ) := by
  refine (r_iload L_140_38 rfl).trans ?_
  refine (r_aload_n L_140_39 rfl).trans ?_
  refine (r_getfi L_140_40 gf_64_0).trans ?_
  refine (r_cmpge L_140_41).trans ?_
  refine it_c ?_ ?_
  · refine (r_iload L_140_42 rfl).trans ?_
    refine (r_ifne L_140_43).trans ?_
    refine it_c ?_ ?_
    · refine (r_aload_n L_140_44 rfl).trans ?_
      refine (r_getfr L_140_45 gf_64_1).trans ?_
      refine (r_iload L_140_46 rfl).trans ?_
      refine (r_iald L_140_47 ar_65).trans ?_
      refine ck_c ?_
      refine (r_iload_n L_140_48 rfl).trans ?_
      refine (r_cmpne L_140_49).trans ?_
      refine it_c ?_ ?_
      · rfl
      · refine (r_iconst L_140_52 ki_0).trans ?_
        rfl
    · rfl
  · refine (r_iconst L_140_56 ki_0).trans ?_
    refine (r_istore L_140_57 rfl).trans ?_
    rfl
set_option maxRecDepth 100000 in
set_option maxHeartbeats 4000000 in
theorem q_M_method_64_at50 (ρ : Nat × (Nat → Int32)) (σ : rd_Sg) (x1 x2 x3 x4 x5 x7 : Int32) (o6 : Option Value) : rd_R ρ 140 50 [some (.ref 64), some (.int x1), some (.int x2), some (.int x3), some (.int x4), some (.int x5), o6, some (.int x7)] [] σ = rd_R ρ 140 53 [some (.ref 64), some (.int x1), some (.int x2), some (.int x3), some (.int x4), some (.int x5), o6, some (.int x7)] [.int 1] σ := by
  refine (r_iconst L_140_50 ki_1).trans ?_
  refine (r_goto L_140_51).trans ?_
  rfl
set_option maxRecDepth 100000 in
set_option maxHeartbeats 4000000 in
theorem q_M_method_64_at53 (ρ : Nat × (Nat → Int32)) (σ : rd_Sg) (x1 x2 x3 x4 x5 x7 s0 : Int32) (o6 : Option Value) : rd_R ρ 140 53 [some (.ref 64), some (.int x1), some (.int x2), some (.int x3), some (.int x4), some (.int x5), o6, some (.int x7)] [.int s0] σ = rd_R ρ 140 38 [some (.ref 64), some (.int x1), some (.int x2), some (.int x3), some (.int x4), some (.int x5), some (.int s0), some (.int (x7 + 1))] [] σ := by
  refine (r_istore L_140_53 rfl).trans ?_
  refine (r_iinc L_140_54 rfl ki_1 rfl).trans ?_
  refine (r_goto L_140_55).trans ?_
  rfl
set_option maxRecDepth 100000 in
set_option maxHeartbeats 4000000 in
theorem q_M_method_64_at58 (ρ : Nat × (Nat → Int32)) (σ : rd_Sg) (x1 x2 x3 x4 x5 x6 x7 : Int32) : rd_R ρ 140 58 [some (.ref 64), some (.int x1), some (.int x2), some (.int x3), some (.int x4), some (.int x5), some (.int x6), some (.int x7)] [] σ = (if x7 < (σ 64 7) then (if x6 = 0 then (rd_chk x7 24 (((rd_R ρ 139 0 [some (.ref 64), some (.int (σ 71 x7.toNatClampNeg)), some (.int x1), none] [] σ).bind fun q2 => (if q2.1 = 0 then rd_R ρ 140 75 [some (.ref 64), some (.int x1), some (.int x2), some (.int x3), some (.int x4), some (.int x5), some (.int x6), some (.int x7)] [.int 0] q2.2 else rd_R ρ 140 72 [some (.ref 64), some (.int x1), some (.int x2), some (.int x3), some (.int x4), some (.int x5), some (.int x6), some (.int x7)] [] q2.2)))) else rd_R ρ 140 72 [some (.ref 64), some (.int x1), some (.int x2), some (.int x3), some (.int x4), some (.int x5), some (.int x6), some (.int x7)] [] σ) else (if x6 = 0 then (rd_chk x1 12 ((if (σ 66 x1.toNatClampNeg) = 8 then some (((-3) : Int32), σ) else (rd_chk x1 12 ((rd_chk ((8 * x1) + (σ 66 x1.toNatClampNeg)) 96 ((rd_chk ((8 * x1) + (σ 66 x1.toNatClampNeg)) 96 ((rd_chk ((8 * x1) + (σ 66 x1.toNatClampNeg)) 96 ((rd_chk ((8 * x1) + (σ 66 x1.toNatClampNeg)) 96 ((rd_chk x1 12 ((rd_chk x1 12 ((rd_chk x1 12 (some ((((σ 66 x1.toNatClampNeg) + 1) - 1), (rd_u (rd_u (rd_u (rd_u (rd_u σ 67 ((8 * x1) + (σ 66 x1.toNatClampNeg)).toNatClampNeg x2) 68 ((8 * x1) + (σ 66 x1.toNatClampNeg)).toNatClampNeg x3) 69 ((8 * x1) + (σ 66 x1.toNatClampNeg)).toNatClampNeg x4) 70 ((8 * x1) + (σ 66 x1.toNatClampNeg)).toNatClampNeg x5) 66 x1.toNatClampNeg ((σ 66 x1.toNatClampNeg) + 1)))))))))))))))))))))) else some (((-2) : Int32), σ))) := by
  refine (r_iload L_140_58 rfl).trans ?_
  refine (r_aload_n L_140_59 rfl).trans ?_
  refine (r_getfi L_140_60 gf_64_7).trans ?_
  refine (r_cmpge L_140_61).trans ?_
  refine it_c ?_ ?_
  · refine (r_iload L_140_62 rfl).trans ?_
    refine (r_ifne L_140_63).trans ?_
    refine it_c ?_ ?_
    · refine (r_aload_n L_140_64 rfl).trans ?_
      refine (r_aload_n L_140_65 rfl).trans ?_
      refine (r_getfr L_140_66 gf_64_8).trans ?_
      refine (r_iload L_140_67 rfl).trans ?_
      refine (r_iald L_140_68 ar_71).trans ?_
      refine ck_c ?_
      refine (r_iload_n L_140_69 rfl).trans ?_
      refine (r_callV L_140_70 rfl isI_139 rfl).trans ?_
      refine bi_c (fun q2 => ?_)
      refine (r_ifeq L_140_71).trans ?_
      refine it_c ?_ ?_
      · refine (r_iconst L_140_74 ki_0).trans ?_
        rfl
      · rfl
    · rfl
  · refine (r_iload L_140_78 rfl).trans ?_
    refine (r_ifeq L_140_79).trans ?_
    refine it_c ?_ ?_
    · refine (r_aload_n L_140_82 rfl).trans ?_
      refine (r_getfr L_140_83 gf_64_2).trans ?_
      refine (r_iload_n L_140_84 rfl).trans ?_
      refine (r_iald L_140_85 ar_66).trans ?_
      refine ck_c ?_
      refine (r_bipush L_140_86 kb_8).trans ?_
      refine (r_cmpne L_140_87).trans ?_
      refine it_c ?_ ?_
      · refine (r_bipush L_140_88 kb_m3).trans ?_
        exact r_ret L_140_89 mz_140
      · refine (r_bipush L_140_90 kb_8).trans ?_
        refine (r_iload_n L_140_91 rfl).trans ?_
        refine (r_imul L_140_92).trans ?_
        refine (r_aload_n L_140_93 rfl).trans ?_
        refine (r_getfr L_140_94 gf_64_2).trans ?_
        refine (r_iload_n L_140_95 rfl).trans ?_
        refine (r_iald L_140_96 ar_66).trans ?_
        refine ck_c ?_
        refine (r_iadd L_140_97).trans ?_
        refine (r_istore L_140_98 rfl).trans ?_
        refine (r_aload_n L_140_99 rfl).trans ?_
        refine (r_getfr L_140_100 gf_64_3).trans ?_
        refine (r_iload L_140_101 rfl).trans ?_
        refine (r_iload_n L_140_102 rfl).trans ?_
        refine (r_iast L_140_103 ar_67).trans ?_
        refine ck_c ?_
        refine (r_aload_n L_140_104 rfl).trans ?_
        refine (r_getfr L_140_105 gf_64_4).trans ?_
        refine (r_iload L_140_106 rfl).trans ?_
        refine (r_iload_n L_140_107 rfl).trans ?_
        refine (r_iast L_140_108 ar_68).trans ?_
        refine ck_c ?_
        refine (r_aload_n L_140_109 rfl).trans ?_
        refine (r_getfr L_140_110 gf_64_5).trans ?_
        refine (r_iload L_140_111 rfl).trans ?_
        refine (r_iload L_140_112 rfl).trans ?_
        refine (r_iast L_140_113 ar_69).trans ?_
        refine ck_c ?_
        refine (r_aload_n L_140_114 rfl).trans ?_
        refine (r_getfr L_140_115 gf_64_6).trans ?_
        refine (r_iload L_140_116 rfl).trans ?_
        refine (r_iload L_140_117 rfl).trans ?_
        refine (r_iast L_140_118 ar_70).trans ?_
        refine ck_c ?_
        refine (r_aload_n L_140_119 rfl).trans ?_
        refine (r_getfr L_140_120 gf_64_2).trans ?_
        refine (r_iload_n L_140_121 rfl).trans ?_
        refine (r_dup2 L_140_122).trans ?_
        refine (r_ialdv L_140_123 ar_66 ((rd_un (by decide)).trans ((rd_un (by decide)).trans ((rd_un (by decide)).trans (rd_un (by decide)))))).trans ?_
        refine ck_c ?_
        refine (r_iconst L_140_124 ki_1).trans ?_
        refine (r_iadd L_140_125).trans ?_
        refine (r_iast L_140_126 ar_66).trans ?_
        refine ck_c ?_
        refine (r_aload_n L_140_127 rfl).trans ?_
        refine (r_getfr L_140_128 gf_64_2).trans ?_
        refine (r_iload_n L_140_129 rfl).trans ?_
        refine (r_ialdv L_140_130 ar_66 (rd_us)).trans ?_
        refine ck_c ?_
        refine (r_iconst L_140_131 ki_1).trans ?_
        refine (r_isub L_140_132).trans ?_
        exact r_ret L_140_133 mz_140
    · refine (r_bipush L_140_80 kb_m2).trans ?_
      exact r_ret L_140_81 mz_140
set_option maxRecDepth 100000 in
set_option maxHeartbeats 4000000 in
theorem q_M_method_64_at72 (ρ : Nat × (Nat → Int32)) (σ : rd_Sg) (x1 x2 x3 x4 x5 x7 : Int32) (o6 : Option Value) : rd_R ρ 140 72 [some (.ref 64), some (.int x1), some (.int x2), some (.int x3), some (.int x4), some (.int x5), o6, some (.int x7)] [] σ = rd_R ρ 140 75 [some (.ref 64), some (.int x1), some (.int x2), some (.int x3), some (.int x4), some (.int x5), o6, some (.int x7)] [.int 1] σ := by
  refine (r_iconst L_140_72 ki_1).trans ?_
  refine (r_goto L_140_73).trans ?_
  rfl
set_option maxRecDepth 100000 in
set_option maxHeartbeats 4000000 in
theorem q_M_method_64_at75 (ρ : Nat × (Nat → Int32)) (σ : rd_Sg) (x1 x2 x3 x4 x5 x7 s0 : Int32) (o6 : Option Value) : rd_R ρ 140 75 [some (.ref 64), some (.int x1), some (.int x2), some (.int x3), some (.int x4), some (.int x5), o6, some (.int x7)] [.int s0] σ = rd_R ρ 140 58 [some (.ref 64), some (.int x1), some (.int x2), some (.int x3), some (.int x4), some (.int x5), some (.int s0), some (.int (x7 + 1))] [] σ := by
  refine (r_istore L_140_75 rfl).trans ?_
  refine (r_iinc L_140_76 rfl ki_1 rfl).trans ?_
  refine (r_goto L_140_77).trans ?_
  rfl
set_option maxRecDepth 100000 in
set_option maxHeartbeats 4000000 in
theorem q_M_stand_64 (ρ : Nat × (Nat → Int32)) (σ : rd_Sg) (x1 x2 : Int32) : rd_R ρ 141 0 [some (.ref 64), some (.int x1), some (.int x2)] [] σ = ((rd_R ρ 137 0 [some (.int x1), some (.int 0), some (.int ((σ 64 0) - 1))] [] σ).bind fun q0 => (if q0.1 = 0 then some (((-1) : Int32), q0.2) else ((rd_R ρ 137 0 [some (.int x2), some (.int (-1)), some (.int 5)] [] q0.2).bind fun q2 => (if q2.1 = 0 then some (((-1) : Int32), q2.2) else (if (q2.2 64 7) = 24 then some (((-3) : Int32), q2.2) else (rd_chk (q2.2 64 7) 24 ((rd_chk (q2.2 64 7) 24 (some ((((q2.2 64 7) + 1) - 1), (rd_u (rd_u (rd_u q2.2 71 (q2.2 64 7).toNatClampNeg x1) 72 (q2.2 64 7).toNatClampNeg x2) 64 7 ((q2.2 64 7) + 1)))))))))))) := by
  refine (r_iload_n L_141_0 rfl).trans ?_
  refine (r_iconst L_141_1 ki_0).trans ?_
  refine (r_aload_n L_141_2 rfl).trans ?_
  refine (r_getfi L_141_3 gf_64_0).trans ?_
  refine (r_iconst L_141_4 ki_1).trans ?_
  refine (r_isub L_141_5).trans ?_
  refine (r_callS L_141_6 rfl isI_137 rfl).trans ?_
  refine bi_c (fun q0 => ?_)
  refine (r_ifeq L_141_7).trans ?_
  refine it_c ?_ ?_
  · refine (r_iconst L_141_13 ki_m1).trans ?_
    exact r_ret L_141_14 mz_141
  · refine (r_iload_n L_141_8 rfl).trans ?_
    refine (r_iconst L_141_9 ki_m1).trans ?_
    refine (r_iconst L_141_10 ki_5).trans ?_
    refine (r_callS L_141_11 rfl isI_137 rfl).trans ?_
    refine bi_c (fun q2 => ?_)
    refine (r_ifne L_141_12).trans ?_
    refine it_c ?_ ?_
    · refine (r_iconst L_141_13 ki_m1).trans ?_
      exact r_ret L_141_14 mz_141
    · refine (r_aload_n L_141_15 rfl).trans ?_
      refine (r_getfi L_141_16 gf_64_7).trans ?_
      refine (r_bipush L_141_17 kb_24).trans ?_
      refine (r_cmpne L_141_18).trans ?_
      refine it_c ?_ ?_
      · refine (r_bipush L_141_19 kb_m3).trans ?_
        exact r_ret L_141_20 mz_141
      · refine (r_aload_n L_141_21 rfl).trans ?_
        refine (r_getfr L_141_22 gf_64_8).trans ?_
        refine (r_aload_n L_141_23 rfl).trans ?_
        refine (r_getfi L_141_24 gf_64_7).trans ?_
        refine (r_iload_n L_141_25 rfl).trans ?_
        refine (r_iast L_141_26 ar_71).trans ?_
        refine ck_c ?_
        refine (r_aload_n L_141_27 rfl).trans ?_
        refine (r_getfr L_141_28 gf_64_9).trans ?_
        refine (r_aload_n L_141_29 rfl).trans ?_
        refine (r_getfiv L_141_30 gf_64_7 (rd_un (by decide))).trans ?_
        refine (r_iload_n L_141_31 rfl).trans ?_
        refine (r_iast L_141_32 ar_72).trans ?_
        refine ck_c ?_
        refine (r_aload_n L_141_33 rfl).trans ?_
        refine (r_dupr L_141_34).trans ?_
        refine (r_getfiv L_141_35 gf_64_7 ((rd_un (by decide)).trans (rd_un (by decide)))).trans ?_
        refine (r_iconst L_141_36 ki_1).trans ?_
        refine (r_iadd L_141_37).trans ?_
        refine (r_putfi L_141_38 gf_64_7).trans ?_
        refine (r_aload_n L_141_39 rfl).trans ?_
        refine (r_getfiv L_141_40 gf_64_7 (rd_us)).trans ?_
        refine (r_iconst L_141_41 ki_1).trans ?_
        refine (r_isub L_141_42).trans ?_
        exact r_ret L_141_43 mz_141
set_option maxRecDepth 100000 in
set_option maxHeartbeats 4000000 in
theorem q_M_of_64 (ρ : Nat × (Nat → Int32)) (σ : rd_Sg) (x1 x2 : Int32) : rd_R ρ 143 0 [some (.ref 64), some (.int x1), some (.int x2)] [] σ = ((rd_R ρ 142 0 [some (.ref 64), some (.int x1)] [] σ).bind fun q0 => (if q0.1 = 0 then some (((-1) : Int32), q0.2) else ((rd_R ρ 137 0 [some (.int x2), some (.int 0), some (.int ((q0.2 64 0) - 1))] [] q0.2).bind fun q2 => (if q2.1 = 0 then some (((-1) : Int32), q2.2) else (rd_chk x1 24 (((rd_R ρ 139 0 [some (.ref 64), some (.int (q2.2 71 x1.toNatClampNeg)), some (.int x2), none] [] q2.2).bind fun q4 => (if q4.1 = 0 then some ((0 : Int32), q4.2) else some ((1 : Int32), q4.2))))))))) := by
  refine (r_aload_n L_143_0 rfl).trans ?_
  refine (r_iload_n L_143_1 rfl).trans ?_
  refine (r_callV L_143_2 rfl isI_142 rfl).trans ?_
  refine bi_c (fun q0 => ?_)
  refine (r_ifeq L_143_3).trans ?_
  refine it_c ?_ ?_
  · refine (r_iconst L_143_12 ki_m1).trans ?_
    refine (r_goto L_143_13).trans ?_
    exact r_ret L_143_25 mz_143
  · refine (r_iload_n L_143_4 rfl).trans ?_
    refine (r_iconst L_143_5 ki_0).trans ?_
    refine (r_aload_n L_143_6 rfl).trans ?_
    refine (r_getfi L_143_7 gf_64_0).trans ?_
    refine (r_iconst L_143_8 ki_1).trans ?_
    refine (r_isub L_143_9).trans ?_
    refine (r_callS L_143_10 rfl isI_137 rfl).trans ?_
    refine bi_c (fun q2 => ?_)
    refine (r_ifne L_143_11).trans ?_
    refine it_c ?_ ?_
    · refine (r_iconst L_143_12 ki_m1).trans ?_
      refine (r_goto L_143_13).trans ?_
      exact r_ret L_143_25 mz_143
    · refine (r_aload_n L_143_14 rfl).trans ?_
      refine (r_aload_n L_143_15 rfl).trans ?_
      refine (r_getfr L_143_16 gf_64_8).trans ?_
      refine (r_iload_n L_143_17 rfl).trans ?_
      refine (r_iald L_143_18 ar_71).trans ?_
      refine ck_c ?_
      refine (r_iload_n L_143_19 rfl).trans ?_
      refine (r_callV L_143_20 rfl isI_139 rfl).trans ?_
      refine bi_c (fun q4 => ?_)
      refine (r_ifeq L_143_21).trans ?_
      refine it_c ?_ ?_
      · refine (r_iconst L_143_24 ki_0).trans ?_
        exact r_ret L_143_25 mz_143
      · refine (r_iconst L_143_22 ki_1).trans ?_
        refine (r_goto L_143_23).trans ?_
        exact r_ret L_143_25 mz_143
set_option maxRecDepth 100000 in
set_option maxHeartbeats 4000000 in
theorem q_M_level_64 (ρ : Nat × (Nat → Int32)) (σ : rd_Sg) (x1 : Int32) : rd_R ρ 144 0 [some (.ref 64), some (.int x1)] [] σ = ((rd_R ρ 137 0 [some (.int x1), some (.int 0), some (.int 5)] [] σ).bind fun q0 => (if q0.1 = 0 then some (((-1) : Int32), q0.2) else (rd_chk x1 6 (some ((q0.2 73 x1.toNatClampNeg), q0.2))))) := by
  refine (r_iload_n L_144_0 rfl).trans ?_
  refine (r_iconst L_144_1 ki_0).trans ?_
  refine (r_iconst L_144_2 ki_5).trans ?_
  refine (r_callS L_144_3 rfl isI_137 rfl).trans ?_
  refine bi_c (fun q0 => ?_)
  refine (r_ifeq L_144_4).trans ?_
  refine it_c ?_ ?_
  · refine (r_iconst L_144_10 ki_m1).trans ?_
    exact r_ret L_144_11 mz_144
  · refine (r_aload_n L_144_5 rfl).trans ?_
    refine (r_getfr L_144_6 gf_64_10).trans ?_
    refine (r_iload_n L_144_7 rfl).trans ?_
    refine (r_iald L_144_8 ar_73).trans ?_
    refine ck_c ?_
    refine (r_goto L_144_9).trans ?_
    exact r_ret L_144_11 mz_144
set_option maxRecDepth 100000 in
set_option maxHeartbeats 4000000 in
theorem q_M_rule_64 (ρ : Nat × (Nat → Int32)) (σ : rd_Sg) (x1 x2 : Int32) : rd_R ρ 153 0 [some (.ref 64), some (.int x1), some (.int x2), none] [] σ = ((rd_R ρ 142 0 [some (.ref 64), some (.int x1)] [] σ).bind fun q0 => (if q0.1 = 0 then some (((-1) : Int32), q0.2) else ((rd_R ρ 145 0 [some (.ref 64), some (.int x1), some (.int x2)] [] q0.2).bind fun q2 => (if q2.1 = 0 then some (((-1) : Int32), q2.2) else (if (q2.2 64 16) = 80 then some (((-3) : Int32), q2.2) else ((rd_R ρ 148 0 [some (.ref 64), some (.int (q2.2 64 16)), some (.int x1), some (.int x2), none] [] q2.2).bind fun q5 => (rd_chk (q5.2 64 16) 80 ((rd_chk (q5.2 64 16) 80 (rd_R ρ 153 37 [some (.ref 64), some (.int x1), some (.int x2), some (.int 0)] [] (rd_u (rd_u q5.2 79 (q5.2 64 16).toNatClampNeg 0) 82 (q5.2 64 16).toNatClampNeg 0))))))))))) := by
  refine (r_aload_n L_153_0 rfl).trans ?_
  refine (r_iload_n L_153_1 rfl).trans ?_
  refine (r_callV L_153_2 rfl isI_142 rfl).trans ?_
  refine bi_c (fun q0 => ?_)
  refine (r_ifeq L_153_3).trans ?_
  refine it_c ?_ ?_
  · refine (r_iconst L_153_9 ki_m1).trans ?_
    exact r_ret L_153_10 mz_153
  · refine (r_aload_n L_153_4 rfl).trans ?_
    refine (r_iload_n L_153_5 rfl).trans ?_
    refine (r_iload_n L_153_6 rfl).trans ?_
    refine (r_callV L_153_7 rfl isI_145 rfl).trans ?_
    refine bi_c (fun q2 => ?_)
    refine (r_ifne L_153_8).trans ?_
    refine it_c ?_ ?_
    · refine (r_iconst L_153_9 ki_m1).trans ?_
      exact r_ret L_153_10 mz_153
    · refine (r_aload_n L_153_11 rfl).trans ?_
      refine (r_getfi L_153_12 gf_64_16).trans ?_
      refine (r_bipush L_153_13 kb_80).trans ?_
      refine (r_cmpne L_153_14).trans ?_
      refine it_c ?_ ?_
      · refine (r_bipush L_153_15 kb_m3).trans ?_
        exact r_ret L_153_16 mz_153
      · refine (r_aload_n L_153_17 rfl).trans ?_
        refine (r_aload_n L_153_18 rfl).trans ?_
        refine (r_getfi L_153_19 gf_64_16).trans ?_
        refine (r_iload_n L_153_20 rfl).trans ?_
        refine (r_iload_n L_153_21 rfl).trans ?_
        refine (r_callVv L_153_22 rfl isI_148 (by decide) rfl).trans ?_
        refine bi_c (fun q5 => ?_)
        refine (r_aload_n L_153_23 rfl).trans ?_
        refine (r_getfr L_153_24 gf_64_17).trans ?_
        refine (r_aload_n L_153_25 rfl).trans ?_
        refine (r_getfi L_153_26 gf_64_16).trans ?_
        refine (r_iconst L_153_27 ki_0).trans ?_
        refine (r_iast L_153_28 ar_79).trans ?_
        refine ck_c ?_
        refine (r_aload_n L_153_29 rfl).trans ?_
        refine (r_getfr L_153_30 gf_64_20).trans ?_
        refine (r_aload_n L_153_31 rfl).trans ?_
        refine (r_getfiv L_153_32 gf_64_16 (rd_un (by decide))).trans ?_
        refine (r_iconst L_153_33 ki_0).trans ?_
        refine (r_iast L_153_34 ar_82).trans ?_
        refine ck_c ?_
        refine (r_iconst L_153_35 ki_0).trans ?_
        refine (r_istore_n L_153_36 rfl).trans ?_
        rfl
set_option maxRecDepth 100000 in
set_option maxHeartbeats 4000000 in
theorem q_M_rule_64_at37 (ρ : Nat × (Nat → Int32)) (σ : rd_Sg) (x3 : Int32) (o1 o2 : Option Value) : rd_R ρ 153 37 [some (.ref 64), o1, o2, some (.int x3)] [] σ = (if x3 < 3 then (rd_chk ((3 * (σ 64 16)) + x3) 240 (rd_R ρ 153 37 [some (.ref 64), o1, o2, some (.int (x3 + 1))] [] (rd_u σ 83 ((3 * (σ 64 16)) + x3).toNatClampNeg (0 &&& 1)))) else some ((((σ 64 16) + 1) - 1), (rd_u σ 64 16 ((σ 64 16) + 1)))) := by
  refine (r_iload_n L_153_37 rfl).trans ?_
  refine (r_iconst L_153_38 ki_3).trans ?_
  refine (r_cmpge L_153_39).trans ?_
  refine it_c ?_ ?_
  · refine (r_aload_n L_153_40 rfl).trans ?_
    refine (r_getfr L_153_41 gf_64_21).trans ?_
    refine (r_iconst L_153_42 ki_3).trans ?_
    refine (r_aload_n L_153_43 rfl).trans ?_
    refine (r_getfi L_153_44 gf_64_16).trans ?_
    refine (r_imul L_153_45).trans ?_
    refine (r_iload_n L_153_46 rfl).trans ?_
    refine (r_iadd L_153_47).trans ?_
    refine (r_iconst L_153_48 ki_0).trans ?_
    refine (r_zast L_153_49 ar_83).trans ?_
    refine ck_c ?_
    refine (r_iinc L_153_50 rfl ki_1 rfl).trans ?_
    refine (r_goto L_153_51).trans ?_
    rfl
  · refine (r_aload_n L_153_52 rfl).trans ?_
    refine (r_dupr L_153_53).trans ?_
    refine (r_getfi L_153_54 gf_64_16).trans ?_
    refine (r_iconst L_153_55 ki_1).trans ?_
    refine (r_iadd L_153_56).trans ?_
    refine (r_putfi L_153_57 gf_64_16).trans ?_
    refine (r_aload_n L_153_58 rfl).trans ?_
    refine (r_getfiv L_153_59 gf_64_16 (rd_us)).trans ?_
    refine (r_iconst L_153_60 ki_1).trans ?_
    refine (r_isub L_153_61).trans ?_
    exact r_ret L_153_62 mz_153
set_option maxRecDepth 100000 in
set_option maxHeartbeats 4000000 in
theorem q_M_on_64 (ρ : Nat × (Nat → Int32)) (σ : rd_Sg) (x1 x2 x3 x4 x5 : Int32) : rd_R ρ 154 0 [some (.ref 64), some (.int x1), some (.int x2), some (.int x3), some (.int x4), some (.int x5), none] [] σ = ((rd_R ρ 152 0 [some (.ref 64), some (.int x1)] [] σ).bind fun q0 => (if q0.1 = 0 then some (((-1) : Int32), q0.2) else ((rd_R ρ 149 0 [some (.ref 64), some (.int x1), some (.int x2), some (.int x3), some (.int x4), some (.int x5), none, none] [] q0.2).bind fun q2 => (if q2.1 = 1 then (rd_chk ((3 * x1) + x2) 240 (some (q2.1, (rd_u q2.2 83 ((3 * x1) + x2).toNatClampNeg (0 &&& 1))))) else some (q2.1, q2.2))))) := by
  refine (r_aload_n L_154_0 rfl).trans ?_
  refine (r_iload_n L_154_1 rfl).trans ?_
  refine (r_callV L_154_2 rfl isI_152 rfl).trans ?_
  refine bi_c (fun q0 => ?_)
  refine (r_ifne L_154_3).trans ?_
  refine it_c ?_ ?_
  · refine (r_iconst L_154_4 ki_m1).trans ?_
    exact r_ret L_154_5 mz_154
  · refine (r_aload_n L_154_6 rfl).trans ?_
    refine (r_iload_n L_154_7 rfl).trans ?_
    refine (r_iload_n L_154_8 rfl).trans ?_
    refine (r_iload_n L_154_9 rfl).trans ?_
    refine (r_iload L_154_10 rfl).trans ?_
    refine (r_iload L_154_11 rfl).trans ?_
    refine (r_callV L_154_12 rfl isI_149 rfl).trans ?_
    refine bi_c (fun q2 => ?_)
    refine (r_istore L_154_13 rfl).trans ?_
    refine (r_iload L_154_14 rfl).trans ?_
    refine (r_iconst L_154_15 ki_1).trans ?_
    refine (r_cmpne L_154_16).trans ?_
    refine it_c ?_ ?_
    · refine (r_aload_n L_154_17 rfl).trans ?_
      refine (r_getfr L_154_18 gf_64_21).trans ?_
      refine (r_iconst L_154_19 ki_3).trans ?_
      refine (r_iload_n L_154_20 rfl).trans ?_
      refine (r_imul L_154_21).trans ?_
      refine (r_iload_n L_154_22 rfl).trans ?_
      refine (r_iadd L_154_23).trans ?_
      refine (r_iconst L_154_24 ki_0).trans ?_
      refine (r_zast L_154_25 ar_83).trans ?_
      refine ck_c ?_
      refine (r_iload L_154_26 rfl).trans ?_
      exact r_ret L_154_27 mz_154
    · refine (r_iload L_154_26 rfl).trans ?_
      exact r_ret L_154_27 mz_154
set_option maxRecDepth 100000 in
set_option maxHeartbeats 4000000 in
theorem q_M_answer_64 (ρ : Nat × (Nat → Int32)) (σ : rd_Sg) (x1 x2 x3 : Int32) : rd_R ρ 155 0 [some (.ref 64), some (.int x1), some (.int x2), some (.int x3), none] [] σ = ((rd_R ρ 152 0 [some (.ref 64), some (.int x1)] [] σ).bind fun q0 => (if q0.1 = 0 then some (((-1) : Int32), q0.2) else ((rd_R ρ 137 0 [some (.int x2), some (.int 0), some (.int 5)] [] q0.2).bind fun q2 => (if q2.1 = 0 then some (((-1) : Int32), q2.2) else (rd_chk x1 120 ((rd_chk x1 120 (((rd_R ρ 146 0 [some (.ref 64), some (.int (q2.2 74 x1.toNatClampNeg)), some (.int (q2.2 75 x1.toNatClampNeg))] [] q2.2).bind fun q4 => (rd_chk q4.1 96 ((if x2 = 1 then ((rd_R ρ 137 0 [some (.int x3), some (.int (-1)), some (.int ((q4.2 64 7) - 1))] [] q4.2).bind fun q6 => (if q6.1 = 0 then some (((-1) : Int32), q6.2) else rd_R ρ 155 36 [some (.ref 64), some (.int x1), some (.int x2), some (.int x3), some (.int (q4.2 67 (q4.1).toNatClampNeg))] [] q6.2)) else rd_R ρ 155 36 [some (.ref 64), some (.int x1), some (.int x2), some (.int x3), some (.int (q4.2 67 (q4.1).toNatClampNeg))] [] q4.2)))))))))))) := by
  refine (r_aload_n L_155_0 rfl).trans ?_
  refine (r_iload_n L_155_1 rfl).trans ?_
  refine (r_callV L_155_2 rfl isI_152 rfl).trans ?_
  refine bi_c (fun q0 => ?_)
  refine (r_ifeq L_155_3).trans ?_
  refine it_c ?_ ?_
  · refine (r_iconst L_155_9 ki_m1).trans ?_
    exact r_ret L_155_10 mz_155
  · refine (r_iload_n L_155_4 rfl).trans ?_
    refine (r_iconst L_155_5 ki_0).trans ?_
    refine (r_iconst L_155_6 ki_5).trans ?_
    refine (r_callS L_155_7 rfl isI_137 rfl).trans ?_
    refine bi_c (fun q2 => ?_)
    refine (r_ifne L_155_8).trans ?_
    refine it_c ?_ ?_
    · refine (r_iconst L_155_9 ki_m1).trans ?_
      exact r_ret L_155_10 mz_155
    · refine (r_aload_n L_155_11 rfl).trans ?_
      refine (r_getfr L_155_12 gf_64_3).trans ?_
      refine (r_aload_n L_155_13 rfl).trans ?_
      refine (r_aload_n L_155_14 rfl).trans ?_
      refine (r_getfr L_155_15 gf_64_11).trans ?_
      refine (r_iload_n L_155_16 rfl).trans ?_
      refine (r_iald L_155_17 ar_74).trans ?_
      refine ck_c ?_
      refine (r_aload_n L_155_18 rfl).trans ?_
      refine (r_getfr L_155_19 gf_64_12).trans ?_
      refine (r_iload_n L_155_20 rfl).trans ?_
      refine (r_iald L_155_21 ar_75).trans ?_
      refine ck_c ?_
      refine (r_callV L_155_22 rfl isI_146 rfl).trans ?_
      refine bi_c (fun q4 => ?_)
      refine (r_iald L_155_23 ar_67).trans ?_
      refine ck_c ?_
      refine (r_istore L_155_24 rfl).trans ?_
      refine (r_iload_n L_155_25 rfl).trans ?_
      refine (r_iconst L_155_26 ki_1).trans ?_
      refine (r_cmpne L_155_27).trans ?_
      refine it_c ?_ ?_
      · refine (r_iload_n L_155_28 rfl).trans ?_
        refine (r_iconst L_155_29 ki_m1).trans ?_
        refine (r_aload_n L_155_30 rfl).trans ?_
        refine (r_getfi L_155_31 gf_64_7).trans ?_
        refine (r_iconst L_155_32 ki_1).trans ?_
        refine (r_isub L_155_33).trans ?_
        refine (r_callS L_155_34 rfl isI_137 rfl).trans ?_
        refine bi_c (fun q6 => ?_)
        refine (r_ifeq L_155_35).trans ?_
        refine it_c ?_ ?_
        · refine (r_iconst L_155_54 ki_m1).trans ?_
          exact r_ret L_155_55 mz_155
        · rfl
      · rfl
set_option maxRecDepth 100000 in
set_option maxHeartbeats 4000000 in
theorem q_M_answer_64_at36 (ρ : Nat × (Nat → Int32)) (σ : rd_Sg) (x1 x2 x3 x4 : Int32) : rd_R ρ 155 36 [some (.ref 64), some (.int x1), some (.int x2), some (.int x3), some (.int x4)] [] σ = (if x2 = 2 then ((rd_R ρ 137 0 [some (.int x3), some (.int 0), some (.int 7)] [] σ).bind fun q1 => (if q1.1 = 0 then some (((-1) : Int32), q1.2) else rd_R ρ 155 44 [some (.ref 64), some (.int x1), some (.int x2), some (.int x3), some (.int x4)] [] q1.2)) else rd_R ρ 155 44 [some (.ref 64), some (.int x1), some (.int x2), some (.int x3), some (.int x4)] [] σ) := by
  refine (r_iload_n L_155_36 rfl).trans ?_
  refine (r_iconst L_155_37 ki_2).trans ?_
  refine (r_cmpne L_155_38).trans ?_
  refine it_c ?_ ?_
  · refine (r_iload_n L_155_39 rfl).trans ?_
    refine (r_iconst L_155_40 ki_0).trans ?_
    refine (r_bipush L_155_41 kb_7).trans ?_
    refine (r_callS L_155_42 rfl isI_137 rfl).trans ?_
    refine bi_c (fun q1 => ?_)
    refine (r_ifeq L_155_43).trans ?_
    refine it_c ?_ ?_
    · refine (r_iconst L_155_54 ki_m1).trans ?_
      exact r_ret L_155_55 mz_155
    · rfl
  · rfl
set_option maxRecDepth 100000 in
set_option maxHeartbeats 4000000 in
theorem q_M_answer_64_at44 (ρ : Nat × (Nat → Int32)) (σ : rd_Sg) (x1 x2 x3 x4 : Int32) : rd_R ρ 155 44 [some (.ref 64), some (.int x1), some (.int x2), some (.int x3), some (.int x4)] [] σ = (if x2 = 4 then ((rd_R ρ 137 0 [some (.int x3), some (.int 0), some (.int (x4 - 1))] [] σ).bind fun q1 => (if q1.1 = 0 then some (((-1) : Int32), q1.2) else rd_R ρ 155 56 [some (.ref 64), some (.int x1), some (.int x2), some (.int x3), some (.int x4)] [] q1.2)) else rd_R ρ 155 56 [some (.ref 64), some (.int x1), some (.int x2), some (.int x3), some (.int x4)] [] σ) := by
  refine (r_iload_n L_155_44 rfl).trans ?_
  refine (r_iconst L_155_45 ki_4).trans ?_
  refine (r_cmpne L_155_46).trans ?_
  refine it_c ?_ ?_
  · refine (r_iload_n L_155_47 rfl).trans ?_
    refine (r_iconst L_155_48 ki_0).trans ?_
    refine (r_iload L_155_49 rfl).trans ?_
    refine (r_iconst L_155_50 ki_1).trans ?_
    refine (r_isub L_155_51).trans ?_
    refine (r_callS L_155_52 rfl isI_137 rfl).trans ?_
    refine bi_c (fun q1 => ?_)
    refine (r_ifne L_155_53).trans ?_
    refine it_c ?_ ?_
    · refine (r_iconst L_155_54 ki_m1).trans ?_
      exact r_ret L_155_55 mz_155
    · rfl
  · rfl
set_option maxRecDepth 100000 in
set_option maxHeartbeats 4000000 in
theorem q_M_answer_64_at56 (ρ : Nat × (Nat → Int32)) (σ : rd_Sg) (x1 x2 x3 : Int32) (o4 : Option Value) : rd_R ρ 155 56 [some (.ref 64), some (.int x1), some (.int x2), some (.int x3), o4] [] σ = (rd_chk x1 80 ((if (σ 79 x1.toNatClampNeg) = 6 then some (((-3) : Int32), σ) else (rd_chk x1 80 ((rd_chk ((6 * x1) + (σ 79 x1.toNatClampNeg)) 480 ((rd_chk x1 80 ((rd_chk ((6 * x1) + (σ 79 x1.toNatClampNeg)) 480 ((rd_chk x1 80 ((rd_chk x1 80 ((rd_chk x1 80 (some (((σ 79 x1.toNatClampNeg) + 1), (rd_u (rd_u (rd_u σ 80 ((6 * x1) + (σ 79 x1.toNatClampNeg)).toNatClampNeg x2) 81 ((6 * x1) + (σ 79 x1.toNatClampNeg)).toNatClampNeg x3) 79 x1.toNatClampNeg ((σ 79 x1.toNatClampNeg) + 1)))))))))))))))))))) := by
  refine (r_aload_n L_155_56 rfl).trans ?_
  refine (r_getfr L_155_57 gf_64_17).trans ?_
  refine (r_iload_n L_155_58 rfl).trans ?_
  refine (r_iald L_155_59 ar_79).trans ?_
  refine ck_c ?_
  refine (r_bipush L_155_60 kb_6).trans ?_
  refine (r_cmpne L_155_61).trans ?_
  refine it_c ?_ ?_
  · refine (r_bipush L_155_62 kb_m3).trans ?_
    exact r_ret L_155_63 mz_155
  · refine (r_aload_n L_155_64 rfl).trans ?_
    refine (r_getfr L_155_65 gf_64_18).trans ?_
    refine (r_bipush L_155_66 kb_6).trans ?_
    refine (r_iload_n L_155_67 rfl).trans ?_
    refine (r_imul L_155_68).trans ?_
    refine (r_aload_n L_155_69 rfl).trans ?_
    refine (r_getfr L_155_70 gf_64_17).trans ?_
    refine (r_iload_n L_155_71 rfl).trans ?_
    refine (r_iald L_155_72 ar_79).trans ?_
    refine ck_c ?_
    refine (r_iadd L_155_73).trans ?_
    refine (r_iload_n L_155_74 rfl).trans ?_
    refine (r_iast L_155_75 ar_80).trans ?_
    refine ck_c ?_
    refine (r_aload_n L_155_76 rfl).trans ?_
    refine (r_getfr L_155_77 gf_64_19).trans ?_
    refine (r_bipush L_155_78 kb_6).trans ?_
    refine (r_iload_n L_155_79 rfl).trans ?_
    refine (r_imul L_155_80).trans ?_
    refine (r_aload_n L_155_81 rfl).trans ?_
    refine (r_getfr L_155_82 gf_64_17).trans ?_
    refine (r_iload_n L_155_83 rfl).trans ?_
    refine (r_ialdv L_155_84 ar_79 (rd_un (by decide))).trans ?_
    refine ck_c ?_
    refine (r_iadd L_155_85).trans ?_
    refine (r_iload_n L_155_86 rfl).trans ?_
    refine (r_iast L_155_87 ar_81).trans ?_
    refine ck_c ?_
    refine (r_aload_n L_155_88 rfl).trans ?_
    refine (r_getfr L_155_89 gf_64_17).trans ?_
    refine (r_iload_n L_155_90 rfl).trans ?_
    refine (r_dup2 L_155_91).trans ?_
    refine (r_ialdv L_155_92 ar_79 ((rd_un (by decide)).trans (rd_un (by decide)))).trans ?_
    refine ck_c ?_
    refine (r_iconst L_155_93 ki_1).trans ?_
    refine (r_iadd L_155_94).trans ?_
    refine (r_iast L_155_95 ar_79).trans ?_
    refine ck_c ?_
    refine (r_aload_n L_155_96 rfl).trans ?_
    refine (r_getfr L_155_97 gf_64_17).trans ?_
    refine (r_iload_n L_155_98 rfl).trans ?_
    refine (r_ialdv L_155_99 ar_79 (rd_us)).trans ?_
    refine ck_c ?_
    exact r_ret L_155_100 mz_155
set_option maxRecDepth 100000 in
set_option maxHeartbeats 4000000 in
theorem q_M_caught_64 (ρ : Nat × (Nat → Int32)) (σ : rd_Sg) (x1 x2 : Int32) : rd_R ρ 156 0 [some (.ref 64), some (.int x1), some (.int x2)] [] σ = ((rd_R ρ 152 0 [some (.ref 64), some (.int x1)] [] σ).bind fun q0 => (if q0.1 = 0 then some (((-1001) : Int32), q0.2) else (rd_chk x1 120 ((rd_chk x1 120 (((rd_R ρ 146 0 [some (.ref 64), some (.int (q0.2 74 x1.toNatClampNeg)), some (.int (q0.2 75 x1.toNatClampNeg))] [] q0.2).bind fun q2 => (rd_chk q2.1 96 (((rd_R ρ 137 0 [some (.int x2), some (.int 0), some (.int ((q2.2 67 (q2.1).toNatClampNeg) - 1))] [] q2.2).bind fun q3 => (if q3.1 = 0 then some (((-1001) : Int32), q3.2) else (rd_chk ((3 * x1) + x2) 360 ((if (q3.2 76 ((3 * x1) + x2).toNatClampNeg) = 6 then (rd_chk ((3 * x1) + x2) 240 ((if (q3.2 83 ((3 * x1) + x2).toNatClampNeg) = 0 then some (((-1002) : Int32), q3.2) else (rd_chk ((3 * x1) + x2) 240 (some ((q3.2 84 ((3 * x1) + x2).toNatClampNeg), q3.2)))))) else some (((-1002) : Int32), q3.2))))))))))))))) := by
  refine (r_aload_n L_156_0 rfl).trans ?_
  refine (r_iload_n L_156_1 rfl).trans ?_
  refine (r_callV L_156_2 rfl isI_152 rfl).trans ?_
  refine bi_c (fun q0 => ?_)
  refine (r_ifeq L_156_3).trans ?_
  refine it_c ?_ ?_
  · refine (r_sipush L_156_23 ks_m1001).trans ?_
    exact r_ret L_156_24 mz_156
  · refine (r_iload_n L_156_4 rfl).trans ?_
    refine (r_iconst L_156_5 ki_0).trans ?_
    refine (r_aload_n L_156_6 rfl).trans ?_
    refine (r_getfr L_156_7 gf_64_3).trans ?_
    refine (r_aload_n L_156_8 rfl).trans ?_
    refine (r_aload_n L_156_9 rfl).trans ?_
    refine (r_getfr L_156_10 gf_64_11).trans ?_
    refine (r_iload_n L_156_11 rfl).trans ?_
    refine (r_iald L_156_12 ar_74).trans ?_
    refine ck_c ?_
    refine (r_aload_n L_156_13 rfl).trans ?_
    refine (r_getfr L_156_14 gf_64_12).trans ?_
    refine (r_iload_n L_156_15 rfl).trans ?_
    refine (r_iald L_156_16 ar_75).trans ?_
    refine ck_c ?_
    refine (r_callV L_156_17 rfl isI_146 rfl).trans ?_
    refine bi_c (fun q2 => ?_)
    refine (r_iald L_156_18 ar_67).trans ?_
    refine ck_c ?_
    refine (r_iconst L_156_19 ki_1).trans ?_
    refine (r_isub L_156_20).trans ?_
    refine (r_callS L_156_21 rfl isI_137 rfl).trans ?_
    refine bi_c (fun q3 => ?_)
    refine (r_ifne L_156_22).trans ?_
    refine it_c ?_ ?_
    · refine (r_sipush L_156_23 ks_m1001).trans ?_
      exact r_ret L_156_24 mz_156
    · refine (r_aload_n L_156_25 rfl).trans ?_
      refine (r_getfr L_156_26 gf_64_13).trans ?_
      refine (r_iconst L_156_27 ki_3).trans ?_
      refine (r_iload_n L_156_28 rfl).trans ?_
      refine (r_imul L_156_29).trans ?_
      refine (r_iload_n L_156_30 rfl).trans ?_
      refine (r_iadd L_156_31).trans ?_
      refine (r_iald L_156_32 ar_76).trans ?_
      refine ck_c ?_
      refine (r_bipush L_156_33 kb_6).trans ?_
      refine (r_cmpne L_156_34).trans ?_
      refine it_c ?_ ?_
      · refine (r_aload_n L_156_35 rfl).trans ?_
        refine (r_getfr L_156_36 gf_64_21).trans ?_
        refine (r_iconst L_156_37 ki_3).trans ?_
        refine (r_iload_n L_156_38 rfl).trans ?_
        refine (r_imul L_156_39).trans ?_
        refine (r_iload_n L_156_40 rfl).trans ?_
        refine (r_iadd L_156_41).trans ?_
        refine (r_zald L_156_42 ar_83).trans ?_
        refine ck_c ?_
        refine (r_ifeq L_156_43).trans ?_
        refine it_c ?_ ?_
        · refine (r_sipush L_156_53 ks_m1002).trans ?_
          exact r_ret L_156_54 mz_156
        · refine (r_aload_n L_156_44 rfl).trans ?_
          refine (r_getfr L_156_45 gf_64_22).trans ?_
          refine (r_iconst L_156_46 ki_3).trans ?_
          refine (r_iload_n L_156_47 rfl).trans ?_
          refine (r_imul L_156_48).trans ?_
          refine (r_iload_n L_156_49 rfl).trans ?_
          refine (r_iadd L_156_50).trans ?_
          refine (r_iald L_156_51 ar_84).trans ?_
          refine ck_c ?_
          refine (r_goto L_156_52).trans ?_
          exact r_ret L_156_54 mz_156
      · refine (r_sipush L_156_53 ks_m1002).trans ?_
        exact r_ret L_156_54 mz_156
set_option maxRecDepth 100000 in
set_option maxHeartbeats 4000000 in
theorem q_M_call_64 (ρ : Nat × (Nat → Int32)) (σ : rd_Sg) (x1 x2 x3 x4 x5 : Int32) : rd_R ρ 165 0 [some (.ref 64), some (.int x1), some (.int x2), some (.int x3), some (.int x4), some (.int x5)] [] σ = ((rd_R ρ 142 0 [some (.ref 64), some (.int x1)] [] σ).bind fun q0 => (if q0.1 = 0 then some (((-1) : Int32), q0.2) else ((rd_R ρ 145 0 [some (.ref 64), some (.int x1), some (.int x2)] [] q0.2).bind fun q2 => (if q2.1 = 0 then some (((-1) : Int32), q2.2) else ((rd_R ρ 164 0 [some (.ref 64), some (.int x1), some (.int x2), some (.int 0), some (.int x3), none] [] q2.2).bind fun q4 => (if q4.1 = 0 then some (((-1) : Int32), q4.2) else ((rd_R ρ 164 0 [some (.ref 64), some (.int x1), some (.int x2), some (.int 1), some (.int x4), none] [] q4.2).bind fun q6 => (if q6.1 = 0 then some (((-1) : Int32), q6.2) else ((rd_R ρ 164 0 [some (.ref 64), some (.int x1), some (.int x2), some (.int 2), some (.int x5), none] [] q6.2).bind fun q8 => (if q8.1 = 0 then some (((-1) : Int32), q8.2) else ((rd_R ρ 163 0 [some (.ref 64), some (.int x1), some (.int x2), some (.int x3), some (.int x4), some (.int x5), none, none, none, none, none] [] q8.2).bind fun q10 => some ((q10.2 64 31), q10.2)))))))))))) := by
  refine (r_aload_n L_165_0 rfl).trans ?_
  refine (r_iload_n L_165_1 rfl).trans ?_
  refine (r_callV L_165_2 rfl isI_142 rfl).trans ?_
  refine bi_c (fun q0 => ?_)
  refine (r_ifeq L_165_3).trans ?_
  refine it_c ?_ ?_
  · refine (r_iconst L_165_30 ki_m1).trans ?_
    exact r_ret L_165_31 mz_165
  · refine (r_aload_n L_165_4 rfl).trans ?_
    refine (r_iload_n L_165_5 rfl).trans ?_
    refine (r_iload_n L_165_6 rfl).trans ?_
    refine (r_callV L_165_7 rfl isI_145 rfl).trans ?_
    refine bi_c (fun q2 => ?_)
    refine (r_ifeq L_165_8).trans ?_
    refine it_c ?_ ?_
    · refine (r_iconst L_165_30 ki_m1).trans ?_
      exact r_ret L_165_31 mz_165
    · refine (r_aload_n L_165_9 rfl).trans ?_
      refine (r_iload_n L_165_10 rfl).trans ?_
      refine (r_iload_n L_165_11 rfl).trans ?_
      refine (r_iconst L_165_12 ki_0).trans ?_
      refine (r_iload_n L_165_13 rfl).trans ?_
      refine (r_callV L_165_14 rfl isI_164 rfl).trans ?_
      refine bi_c (fun q4 => ?_)
      refine (r_ifeq L_165_15).trans ?_
      refine it_c ?_ ?_
      · refine (r_iconst L_165_30 ki_m1).trans ?_
        exact r_ret L_165_31 mz_165
      · refine (r_aload_n L_165_16 rfl).trans ?_
        refine (r_iload_n L_165_17 rfl).trans ?_
        refine (r_iload_n L_165_18 rfl).trans ?_
        refine (r_iconst L_165_19 ki_1).trans ?_
        refine (r_iload L_165_20 rfl).trans ?_
        refine (r_callV L_165_21 rfl isI_164 rfl).trans ?_
        refine bi_c (fun q6 => ?_)
        refine (r_ifeq L_165_22).trans ?_
        refine it_c ?_ ?_
        · refine (r_iconst L_165_30 ki_m1).trans ?_
          exact r_ret L_165_31 mz_165
        · refine (r_aload_n L_165_23 rfl).trans ?_
          refine (r_iload_n L_165_24 rfl).trans ?_
          refine (r_iload_n L_165_25 rfl).trans ?_
          refine (r_iconst L_165_26 ki_2).trans ?_
          refine (r_iload L_165_27 rfl).trans ?_
          refine (r_callV L_165_28 rfl isI_164 rfl).trans ?_
          refine bi_c (fun q8 => ?_)
          refine (r_ifne L_165_29).trans ?_
          refine it_c ?_ ?_
          · refine (r_iconst L_165_30 ki_m1).trans ?_
            exact r_ret L_165_31 mz_165
          · refine (r_aload_n L_165_32 rfl).trans ?_
            refine (r_iload_n L_165_33 rfl).trans ?_
            refine (r_iload_n L_165_34 rfl).trans ?_
            refine (r_iload_n L_165_35 rfl).trans ?_
            refine (r_iload L_165_36 rfl).trans ?_
            refine (r_iload L_165_37 rfl).trans ?_
            refine (r_callVv L_165_38 rfl isI_163 (by decide) rfl).trans ?_
            refine bi_c (fun q10 => ?_)
            refine (r_aload_n L_165_39 rfl).trans ?_
            refine (r_getfi L_165_40 gf_64_31).trans ?_
            exact r_ret L_165_41 mz_165
set_option maxRecDepth 100000 in
set_option maxHeartbeats 4000000 in
theorem q_M_came_64 (ρ : Nat × (Nat → Int32)) (σ : rd_Sg) (x1 : Int32) : rd_R ρ 166 0 [some (.ref 64), some (.int x1)] [] σ = (if (σ 64 26) = 0 then some (((-1001) : Int32), σ) else ((rd_R ρ 137 0 [some (.int x1), some (.int 0), some (.int 3)] [] σ).bind fun q1 => (if q1.1 = 0 then some (((-1001) : Int32), q1.2) else (rd_chk x1 4 (some ((q1.2 86 x1.toNatClampNeg), q1.2)))))) := by
  refine (r_aload_n L_166_0 rfl).trans ?_
  refine (r_getfi L_166_1 gf_64_26).trans ?_
  refine (r_ifeq L_166_2).trans ?_
  refine it_c ?_ ?_
  · refine (r_sipush L_166_13 ks_m1001).trans ?_
    exact r_ret L_166_14 mz_166
  · refine (r_iload_n L_166_3 rfl).trans ?_
    refine (r_iconst L_166_4 ki_0).trans ?_
    refine (r_iconst L_166_5 ki_3).trans ?_
    refine (r_callS L_166_6 rfl isI_137 rfl).trans ?_
    refine bi_c (fun q1 => ?_)
    refine (r_ifeq L_166_7).trans ?_
    refine it_c ?_ ?_
    · refine (r_sipush L_166_13 ks_m1001).trans ?_
      exact r_ret L_166_14 mz_166
    · refine (r_aload_n L_166_8 rfl).trans ?_
      refine (r_getfr L_166_9 gf_64_27).trans ?_
      refine (r_iload_n L_166_10 rfl).trans ?_
      refine (r_iald L_166_11 ar_86).trans ?_
      refine ck_c ?_
      refine (r_goto L_166_12).trans ?_
      exact r_ret L_166_14 mz_166
set_option maxRecDepth 100000 in
set_option maxHeartbeats 4000000 in
theorem q_M_recorded_64 (ρ : Nat × (Nat → Int32)) (σ : rd_Sg) (x1 x2 : Int32) : rd_R ρ 167 0 [some (.ref 64), some (.int x1), some (.int x2)] [] σ = ((rd_R ρ 137 0 [some (.int x1), some (.int 0), some (.int ((σ 64 23) - 1))] [] σ).bind fun q0 => (if q0.1 = 0 then some (((-1001) : Int32), q0.2) else ((rd_R ρ 137 0 [some (.int x2), some (.int 0), some (.int 8)] [] q0.2).bind fun q2 => (if q2.1 = 0 then some (((-1001) : Int32), q2.2) else (rd_chk ((9 * x1) + x2) 4500 (some ((q2.2 85 ((9 * x1) + x2).toNatClampNeg), q2.2))))))) := by
  refine (r_iload_n L_167_0 rfl).trans ?_
  refine (r_iconst L_167_1 ki_0).trans ?_
  refine (r_aload_n L_167_2 rfl).trans ?_
  refine (r_getfi L_167_3 gf_64_23).trans ?_
  refine (r_iconst L_167_4 ki_1).trans ?_
  refine (r_isub L_167_5).trans ?_
  refine (r_callS L_167_6 rfl isI_137 rfl).trans ?_
  refine bi_c (fun q0 => ?_)
  refine (r_ifeq L_167_7).trans ?_
  refine it_c ?_ ?_
  · refine (r_sipush L_167_22 ks_m1001).trans ?_
    exact r_ret L_167_23 mz_167
  · refine (r_iload_n L_167_8 rfl).trans ?_
    refine (r_iconst L_167_9 ki_0).trans ?_
    refine (r_bipush L_167_10 kb_8).trans ?_
    refine (r_callS L_167_11 rfl isI_137 rfl).trans ?_
    refine bi_c (fun q2 => ?_)
    refine (r_ifeq L_167_12).trans ?_
    refine it_c ?_ ?_
    · refine (r_sipush L_167_22 ks_m1001).trans ?_
      exact r_ret L_167_23 mz_167
    · refine (r_aload_n L_167_13 rfl).trans ?_
      refine (r_getfr L_167_14 gf_64_25).trans ?_
      refine (r_bipush L_167_15 kb_9).trans ?_
      refine (r_iload_n L_167_16 rfl).trans ?_
      refine (r_imul L_167_17).trans ?_
      refine (r_iload_n L_167_18 rfl).trans ?_
      refine (r_iadd L_167_19).trans ?_
      refine (r_iald L_167_20 ar_85).trans ?_
      refine ck_c ?_
      refine (r_goto L_167_21).trans ?_
      exact r_ret L_167_23 mz_167
set_option maxRecDepth 100000 in
set_option maxHeartbeats 4000000 in
theorem q_M_expect_64 (ρ : Nat × (Nat → Int32)) (σ : rd_Sg) (x1 x2 x3 x4 : Int32) : rd_R ρ 169 0 [some (.ref 64), some (.int x1), some (.int x2), some (.int x3), some (.int x4)] [] σ = ((rd_R ρ 142 0 [some (.ref 64), some (.int x1)] [] σ).bind fun q0 => (if q0.1 = 0 then some (((-1) : Int32), q0.2) else ((rd_R ρ 145 0 [some (.ref 64), some (.int x1), some (.int x2)] [] q0.2).bind fun q2 => (if q2.1 = 0 then some (((-1) : Int32), q2.2) else (if x3 < 0 then some (((-1) : Int32), q2.2) else (if x4 < x3 then some (((-1) : Int32), q2.2) else (if (q2.2 64 32) = 40 then some (((-3) : Int32), q2.2) else ((rd_R ρ 148 0 [some (.ref 64), some (.int (80 + (q2.2 64 32))), some (.int x1), some (.int x2), none] [] q2.2).bind fun q7 => (rd_chk (q7.2 64 32) 40 ((rd_chk (q7.2 64 32) 40 (some ((((q7.2 64 32) + 1) - 1), (rd_u (rd_u (rd_u q7.2 87 (q7.2 64 32).toNatClampNeg x3) 88 (q7.2 64 32).toNatClampNeg x4) 64 32 ((q7.2 64 32) + 1))))))))))))))) := by
  refine (r_aload_n L_169_0 rfl).trans ?_
  refine (r_iload_n L_169_1 rfl).trans ?_
  refine (r_callV L_169_2 rfl isI_142 rfl).trans ?_
  refine bi_c (fun q0 => ?_)
  refine (r_ifeq L_169_3).trans ?_
  refine it_c ?_ ?_
  · refine (r_iconst L_169_14 ki_m1).trans ?_
    exact r_ret L_169_15 mz_169
  · refine (r_aload_n L_169_4 rfl).trans ?_
    refine (r_iload_n L_169_5 rfl).trans ?_
    refine (r_iload_n L_169_6 rfl).trans ?_
    refine (r_callV L_169_7 rfl isI_145 rfl).trans ?_
    refine bi_c (fun q2 => ?_)
    refine (r_ifeq L_169_8).trans ?_
    refine it_c ?_ ?_
    · refine (r_iconst L_169_14 ki_m1).trans ?_
      exact r_ret L_169_15 mz_169
    · refine (r_iload_n L_169_9 rfl).trans ?_
      refine (r_iflt L_169_10).trans ?_
      refine it_c ?_ ?_
      · refine (r_iconst L_169_14 ki_m1).trans ?_
        exact r_ret L_169_15 mz_169
      · refine (r_iload L_169_11 rfl).trans ?_
        refine (r_iload_n L_169_12 rfl).trans ?_
        refine (r_cmpge L_169_13).trans ?_
        refine it_c ?_ ?_
        · refine (r_iconst L_169_14 ki_m1).trans ?_
          exact r_ret L_169_15 mz_169
        · refine (r_aload_n L_169_16 rfl).trans ?_
          refine (r_getfi L_169_17 gf_64_32).trans ?_
          refine (r_bipush L_169_18 kb_40).trans ?_
          refine (r_cmpne L_169_19).trans ?_
          refine it_c ?_ ?_
          · refine (r_bipush L_169_20 kb_m3).trans ?_
            exact r_ret L_169_21 mz_169
          · refine (r_aload_n L_169_22 rfl).trans ?_
            refine (r_bipush L_169_23 kb_80).trans ?_
            refine (r_aload_n L_169_24 rfl).trans ?_
            refine (r_getfi L_169_25 gf_64_32).trans ?_
            refine (r_iadd L_169_26).trans ?_
            refine (r_iload_n L_169_27 rfl).trans ?_
            refine (r_iload_n L_169_28 rfl).trans ?_
            refine (r_callVv L_169_29 rfl isI_148 (by decide) rfl).trans ?_
            refine bi_c (fun q7 => ?_)
            refine (r_aload_n L_169_30 rfl).trans ?_
            refine (r_getfr L_169_31 gf_64_33).trans ?_
            refine (r_aload_n L_169_32 rfl).trans ?_
            refine (r_getfi L_169_33 gf_64_32).trans ?_
            refine (r_iload_n L_169_34 rfl).trans ?_
            refine (r_iast L_169_35 ar_87).trans ?_
            refine ck_c ?_
            refine (r_aload_n L_169_36 rfl).trans ?_
            refine (r_getfr L_169_37 gf_64_34).trans ?_
            refine (r_aload_n L_169_38 rfl).trans ?_
            refine (r_getfiv L_169_39 gf_64_32 (rd_un (by decide))).trans ?_
            refine (r_iload L_169_40 rfl).trans ?_
            refine (r_iast L_169_41 ar_88).trans ?_
            refine ck_c ?_
            refine (r_aload_n L_169_42 rfl).trans ?_
            refine (r_dupr L_169_43).trans ?_
            refine (r_getfiv L_169_44 gf_64_32 ((rd_un (by decide)).trans (rd_un (by decide)))).trans ?_
            refine (r_iconst L_169_45 ki_1).trans ?_
            refine (r_iadd L_169_46).trans ?_
            refine (r_putfi L_169_47 gf_64_32).trans ?_
            refine (r_aload_n L_169_48 rfl).trans ?_
            refine (r_getfiv L_169_49 gf_64_32 (rd_us)).trans ?_
            refine (r_iconst L_169_50 ki_1).trans ?_
            refine (r_isub L_169_51).trans ?_
            exact r_ret L_169_52 mz_169
set_option maxRecDepth 100000 in
set_option maxHeartbeats 4000000 in
theorem q_M_with_64 (ρ : Nat × (Nat → Int32)) (σ : rd_Sg) (x1 x2 x3 x4 x5 : Int32) : rd_R ρ 170 0 [some (.ref 64), some (.int x1), some (.int x2), some (.int x3), some (.int x4), some (.int x5)] [] σ = ((rd_R ρ 168 0 [some (.ref 64), some (.int x1)] [] σ).bind fun q0 => (if q0.1 = 0 then some (((-1) : Int32), q0.2) else ((rd_R ρ 149 0 [some (.ref 64), some (.int (80 + x1)), some (.int x2), some (.int x3), some (.int x4), some (.int x5), none, none] [] q0.2).bind fun q2 => some (q2.1, q2.2)))) := by
  refine (r_aload_n L_170_0 rfl).trans ?_
  refine (r_iload_n L_170_1 rfl).trans ?_
  refine (r_callV L_170_2 rfl isI_168 rfl).trans ?_
  refine bi_c (fun q0 => ?_)
  refine (r_ifeq L_170_3).trans ?_
  refine it_c ?_ ?_
  · refine (r_iconst L_170_14 ki_m1).trans ?_
    exact r_ret L_170_15 mz_170
  · refine (r_aload_n L_170_4 rfl).trans ?_
    refine (r_bipush L_170_5 kb_80).trans ?_
    refine (r_iload_n L_170_6 rfl).trans ?_
    refine (r_iadd L_170_7).trans ?_
    refine (r_iload_n L_170_8 rfl).trans ?_
    refine (r_iload_n L_170_9 rfl).trans ?_
    refine (r_iload L_170_10 rfl).trans ?_
    refine (r_iload L_170_11 rfl).trans ?_
    refine (r_callV L_170_12 rfl isI_149 rfl).trans ?_
    refine bi_c (fun q2 => ?_)
    refine (r_goto L_170_13).trans ?_
    exact r_ret L_170_15 mz_170
set_option maxRecDepth 100000 in
set_option maxHeartbeats 4000000 in
theorem q_M_order_64 (ρ : Nat × (Nat → Int32)) (σ : rd_Sg) (x1 x2 : Int32) : rd_R ρ 171 0 [some (.ref 64), some (.int x1), some (.int x2)] [] σ = ((rd_R ρ 168 0 [some (.ref 64), some (.int x1)] [] σ).bind fun q0 => (if q0.1 = 0 then some (((-1) : Int32), q0.2) else ((rd_R ρ 168 0 [some (.ref 64), some (.int x2)] [] q0.2).bind fun q2 => (if q2.1 = 0 then some (((-1) : Int32), q2.2) else (if x1 = x2 then some (((-1) : Int32), q2.2) else (if (q2.2 64 35) = 40 then some (((-3) : Int32), q2.2) else (rd_chk (q2.2 64 35) 40 ((rd_chk (q2.2 64 35) 40 (some (((q2.2 64 35) + 1), (rd_u (rd_u (rd_u q2.2 89 (q2.2 64 35).toNatClampNeg x1) 90 (q2.2 64 35).toNatClampNeg x2) 64 35 ((q2.2 64 35) + 1))))))))))))) := by
  refine (r_aload_n L_171_0 rfl).trans ?_
  refine (r_iload_n L_171_1 rfl).trans ?_
  refine (r_callV L_171_2 rfl isI_168 rfl).trans ?_
  refine bi_c (fun q0 => ?_)
  refine (r_ifeq L_171_3).trans ?_
  refine it_c ?_ ?_
  · refine (r_iconst L_171_11 ki_m1).trans ?_
    exact r_ret L_171_12 mz_171
  · refine (r_aload_n L_171_4 rfl).trans ?_
    refine (r_iload_n L_171_5 rfl).trans ?_
    refine (r_callV L_171_6 rfl isI_168 rfl).trans ?_
    refine bi_c (fun q2 => ?_)
    refine (r_ifeq L_171_7).trans ?_
    refine it_c ?_ ?_
    · refine (r_iconst L_171_11 ki_m1).trans ?_
      exact r_ret L_171_12 mz_171
    · refine (r_iload_n L_171_8 rfl).trans ?_
      refine (r_iload_n L_171_9 rfl).trans ?_
      refine (r_cmpne L_171_10).trans ?_
      refine it_c ?_ ?_
      · refine (r_iconst L_171_11 ki_m1).trans ?_
        exact r_ret L_171_12 mz_171
      · refine (r_aload_n L_171_13 rfl).trans ?_
        refine (r_getfi L_171_14 gf_64_35).trans ?_
        refine (r_bipush L_171_15 kb_40).trans ?_
        refine (r_cmpne L_171_16).trans ?_
        refine it_c ?_ ?_
        · refine (r_bipush L_171_17 kb_m3).trans ?_
          exact r_ret L_171_18 mz_171
        · refine (r_aload_n L_171_19 rfl).trans ?_
          refine (r_getfr L_171_20 gf_64_36).trans ?_
          refine (r_aload_n L_171_21 rfl).trans ?_
          refine (r_getfi L_171_22 gf_64_35).trans ?_
          refine (r_iload_n L_171_23 rfl).trans ?_
          refine (r_iast L_171_24 ar_89).trans ?_
          refine ck_c ?_
          refine (r_aload_n L_171_25 rfl).trans ?_
          refine (r_getfr L_171_26 gf_64_37).trans ?_
          refine (r_aload_n L_171_27 rfl).trans ?_
          refine (r_getfiv L_171_28 gf_64_35 (rd_un (by decide))).trans ?_
          refine (r_iload_n L_171_29 rfl).trans ?_
          refine (r_iast L_171_30 ar_90).trans ?_
          refine ck_c ?_
          refine (r_aload_n L_171_31 rfl).trans ?_
          refine (r_dupr L_171_32).trans ?_
          refine (r_getfiv L_171_33 gf_64_35 ((rd_un (by decide)).trans (rd_un (by decide)))).trans ?_
          refine (r_iconst L_171_34 ki_1).trans ?_
          refine (r_iadd L_171_35).trans ?_
          refine (r_putfi L_171_36 gf_64_35).trans ?_
          refine (r_aload_n L_171_37 rfl).trans ?_
          refine (r_getfiv L_171_38 gf_64_35 (rd_us)).trans ?_
          exact r_ret L_171_39 mz_171
set_option maxRecDepth 100000 in
set_option maxHeartbeats 4000000 in
theorem q_M_beside_64 (ρ : Nat × (Nat → Int32)) (σ : rd_Sg) (x1 x2 : Int32) : rd_R ρ 172 0 [some (.ref 64), some (.int x1), some (.int x2), none] [] σ = ((rd_R ρ 142 0 [some (.ref 64), some (.int x1)] [] σ).bind fun q0 => (if q0.1 = 0 then some (((-1) : Int32), q0.2) else (rd_chk x1 24 ((if (q0.2 91 x1.toNatClampNeg) = 0 then (rd_chk x1 24 (some ((0 : Int32), (rd_u q0.2 91 x1.toNatClampNeg (x2 &&& 1))))) else (rd_chk x1 24 (some ((1 : Int32), (rd_u q0.2 91 x1.toNatClampNeg (x2 &&& 1)))))))))) := by
  refine (r_aload_n L_172_0 rfl).trans ?_
  refine (r_iload_n L_172_1 rfl).trans ?_
  refine (r_callV L_172_2 rfl isI_142 rfl).trans ?_
  refine bi_c (fun q0 => ?_)
  refine (r_ifne L_172_3).trans ?_
  refine it_c ?_ ?_
  · refine (r_iconst L_172_4 ki_m1).trans ?_
    exact r_ret L_172_5 mz_172
  · refine (r_aload_n L_172_6 rfl).trans ?_
    refine (r_getfr L_172_7 gf_64_38).trans ?_
    refine (r_iload_n L_172_8 rfl).trans ?_
    refine (r_zald L_172_9 ar_91).trans ?_
    refine ck_c ?_
    refine (r_ifeq L_172_10).trans ?_
    refine it_c ?_ ?_
    · refine (r_iconst L_172_13 ki_0).trans ?_
      refine (r_istore_n L_172_14 rfl).trans ?_
      refine (r_aload_n L_172_15 rfl).trans ?_
      refine (r_getfr L_172_16 gf_64_38).trans ?_
      refine (r_iload_n L_172_17 rfl).trans ?_
      refine (r_iload_n L_172_18 rfl).trans ?_
      refine (r_zast L_172_19 ar_91).trans ?_
      refine ck_c ?_
      refine (r_iload_n L_172_20 rfl).trans ?_
      exact r_ret L_172_21 mz_172
    · refine (r_iconst L_172_11 ki_1).trans ?_
      refine (r_goto L_172_12).trans ?_
      refine (r_istore_n L_172_14 rfl).trans ?_
      refine (r_aload_n L_172_15 rfl).trans ?_
      refine (r_getfr L_172_16 gf_64_38).trans ?_
      refine (r_iload_n L_172_17 rfl).trans ?_
      refine (r_iload_n L_172_18 rfl).trans ?_
      refine (r_zast L_172_19 ar_91).trans ?_
      refine ck_c ?_
      refine (r_iload_n L_172_20 rfl).trans ?_
      exact r_ret L_172_21 mz_172
set_option maxRecDepth 100000 in
set_option maxHeartbeats 4000000 in
theorem q_M_met_64 (ρ : Nat × (Nat → Int32)) (σ : rd_Sg) (x1 : Int32) : rd_R ρ 175 0 [some (.ref 64), some (.int x1)] [] σ = ((rd_R ρ 168 0 [some (.ref 64), some (.int x1)] [] σ).bind fun q0 => (if q0.1 = 0 then some (((-1) : Int32), q0.2) else ((rd_R ρ 174 0 [some (.ref 64), some (.int x1), none, none] [] q0.2).bind fun q2 => some (q2.1, q2.2)))) := by
  refine (r_aload_n L_175_0 rfl).trans ?_
  refine (r_iload_n L_175_1 rfl).trans ?_
  refine (r_callV L_175_2 rfl isI_168 rfl).trans ?_
  refine bi_c (fun q0 => ?_)
  refine (r_ifeq L_175_3).trans ?_
  refine it_c ?_ ?_
  · refine (r_iconst L_175_8 ki_m1).trans ?_
    exact r_ret L_175_9 mz_175
  · refine (r_aload_n L_175_4 rfl).trans ?_
    refine (r_iload_n L_175_5 rfl).trans ?_
    refine (r_callV L_175_6 rfl isI_174 rfl).trans ?_
    refine bi_c (fun q2 => ?_)
    refine (r_goto L_175_7).trans ?_
    exact r_ret L_175_9 mz_175
set_option maxRecDepth 100000 in
set_option maxHeartbeats 4000000 in
theorem q_M_verify_64 (ρ : Nat × (Nat → Int32)) (σ : rd_Sg) : rd_R ρ 179 0 [some (.ref 64), none, none] [] σ = rd_R ρ 179 5 [some (.ref 64), some (.int 0), none] [] (rd_u σ 64 39 0) := by
  refine (r_aload_n L_179_0 rfl).trans ?_
  refine (r_iconst L_179_1 ki_0).trans ?_
  refine (r_putfi L_179_2 gf_64_39).trans ?_
  refine (r_iconst L_179_3 ki_0).trans ?_
  refine (r_istore_n L_179_4 rfl).trans ?_
  rfl
set_option maxRecDepth 100000 in
set_option maxHeartbeats 4000000 in
theorem q_M_verify_64_at5 (ρ : Nat × (Nat → Int32)) (σ : rd_Sg) (x1 : Int32) (o2 : Option Value) : rd_R ρ 179 5 [some (.ref 64), some (.int x1), o2] [] σ = (if x1 < (σ 64 32) then ((rd_R ρ 174 0 [some (.ref 64), some (.int x1), none, none] [] σ).bind fun q1 => (rd_chk x1 40 ((if q1.1 < (q1.2 87 x1.toNatClampNeg) then rd_R ρ 179 25 [some (.ref 64), some (.int x1), some (.int q1.1)] [] q1.2 else (rd_chk x1 40 ((if (q1.2 88 x1.toNatClampNeg) < q1.1 then rd_R ρ 179 25 [some (.ref 64), some (.int x1), some (.int q1.1)] [] q1.2 else rd_R ρ 179 38 [some (.ref 64), some (.int x1), some (.int q1.1)] [] q1.2))))))) else rd_R ρ 179 42 [some (.ref 64), some (.int 0), o2] [] σ) := by
  refine (r_iload_n L_179_5 rfl).trans ?_
  refine (r_aload_n L_179_6 rfl).trans ?_
  refine (r_getfi L_179_7 gf_64_32).trans ?_
  refine (r_cmpge L_179_8).trans ?_
  refine it_c ?_ ?_
  · refine (r_aload_n L_179_9 rfl).trans ?_
    refine (r_iload_n L_179_10 rfl).trans ?_
    refine (r_callV L_179_11 rfl isI_174 rfl).trans ?_
    refine bi_c (fun q1 => ?_)
    refine (r_istore_n L_179_12 rfl).trans ?_
    refine (r_iload_n L_179_13 rfl).trans ?_
    refine (r_aload_n L_179_14 rfl).trans ?_
    refine (r_getfr L_179_15 gf_64_33).trans ?_
    refine (r_iload_n L_179_16 rfl).trans ?_
    refine (r_iald L_179_17 ar_87).trans ?_
    refine ck_c ?_
    refine (r_cmplt L_179_18).trans ?_
    refine it_c ?_ ?_
    · rfl
    · refine (r_iload_n L_179_19 rfl).trans ?_
      refine (r_aload_n L_179_20 rfl).trans ?_
      refine (r_getfr L_179_21 gf_64_34).trans ?_
      refine (r_iload_n L_179_22 rfl).trans ?_
      refine (r_iald L_179_23 ar_88).trans ?_
      refine ck_c ?_
      refine (r_cmple L_179_24).trans ?_
      refine it_c ?_ ?_
      · rfl
      · rfl
  · refine (r_iconst L_179_40 ki_0).trans ?_
    refine (r_istore_n L_179_41 rfl).trans ?_
    rfl
set_option maxRecDepth 100000 in
set_option maxHeartbeats 4000000 in
theorem q_M_verify_64_at25 (ρ : Nat × (Nat → Int32)) (σ : rd_Sg) (x1 x2 : Int32) : rd_R ρ 179 25 [some (.ref 64), some (.int x1), some (.int x2)] [] σ = (rd_chk x1 40 ((if x2 < (σ 87 x1.toNatClampNeg) then rd_R ρ 179 35 [some (.ref 64), some (.int x1), some (.int x2)] [.int 1, .ref 64] σ else rd_R ρ 179 35 [some (.ref 64), some (.int x1), some (.int x2)] [.int 2, .ref 64] σ))) := by
  refine (r_aload_n L_179_25 rfl).trans ?_
  refine (r_iload_n L_179_26 rfl).trans ?_
  refine (r_aload_n L_179_27 rfl).trans ?_
  refine (r_getfr L_179_28 gf_64_33).trans ?_
  refine (r_iload_n L_179_29 rfl).trans ?_
  refine (r_iald L_179_30 ar_87).trans ?_
  refine ck_c ?_
  refine (r_cmpge L_179_31).trans ?_
  refine it_c ?_ ?_
  · refine (r_iconst L_179_32 ki_1).trans ?_
    refine (r_goto L_179_33).trans ?_
    rfl
  · refine (r_iconst L_179_34 ki_2).trans ?_
    rfl
set_option maxRecDepth 100000 in
set_option maxHeartbeats 4000000 in
theorem q_M_verify_64_at38 (ρ : Nat × (Nat → Int32)) (σ : rd_Sg) (x1 : Int32) (o2 : Option Value) : rd_R ρ 179 38 [some (.ref 64), some (.int x1), o2] [] σ = rd_R ρ 179 5 [some (.ref 64), some (.int (x1 + 1)), o2] [] σ := by
  refine (r_iinc L_179_38 rfl ki_1 rfl).trans ?_
  refine (r_goto L_179_39).trans ?_
  rfl
set_option maxRecDepth 100000 in
set_option maxHeartbeats 4000000 in
theorem q_M_verify_64_at42 (ρ : Nat × (Nat → Int32)) (σ : rd_Sg) (x1 : Int32) (o2 : Option Value) : rd_R ρ 179 42 [some (.ref 64), some (.int x1), o2] [] σ = (if x1 < (σ 64 35) then ((rd_R ρ 177 0 [some (.ref 64), some (.int x1), none, none] [] σ).bind fun q1 => (if q1.1 < 0 then rd_R ρ 179 57 [some (.ref 64), some (.int x1), some (.int q1.1)] [] q1.2 else ((rd_R ρ 176 0 [some (.ref 64), some (.int 3), some (.int x1), some (.int q1.1)] [] q1.2).bind fun q3 => rd_R ρ 179 57 [some (.ref 64), some (.int x1), some (.int q1.1)] [] q3.2))) else rd_R ρ 179 61 [some (.ref 64), some (.int 0), o2] [] σ) := by
  refine (r_iload_n L_179_42 rfl).trans ?_
  refine (r_aload_n L_179_43 rfl).trans ?_
  refine (r_getfi L_179_44 gf_64_35).trans ?_
  refine (r_cmpge L_179_45).trans ?_
  refine it_c ?_ ?_
  · refine (r_aload_n L_179_46 rfl).trans ?_
    refine (r_iload_n L_179_47 rfl).trans ?_
    refine (r_callV L_179_48 rfl isI_177 rfl).trans ?_
    refine bi_c (fun q1 => ?_)
    refine (r_istore_n L_179_49 rfl).trans ?_
    refine (r_iload_n L_179_50 rfl).trans ?_
    refine (r_iflt L_179_51).trans ?_
    refine it_c ?_ ?_
    · rfl
    · refine (r_aload_n L_179_52 rfl).trans ?_
      refine (r_iconst L_179_53 ki_3).trans ?_
      refine (r_iload_n L_179_54 rfl).trans ?_
      refine (r_iload_n L_179_55 rfl).trans ?_
      refine (r_callVv L_179_56 rfl isI_176 (by decide) rfl).trans ?_
      refine bi_c (fun q3 => ?_)
      rfl
  · refine (r_iconst L_179_59 ki_0).trans ?_
    refine (r_istore_n L_179_60 rfl).trans ?_
    rfl
set_option maxRecDepth 100000 in
set_option maxHeartbeats 4000000 in
theorem q_M_verify_64_at35 (ρ : Nat × (Nat → Int32)) (σ : rd_Sg) (x1 x2 s1 : Int32) : rd_R ρ 179 35 [some (.ref 64), some (.int x1), some (.int x2)] [.int s1, .ref 64] σ = ((rd_R ρ 176 0 [some (.ref 64), some (.int s1), some (.int x1), some (.int x2)] [] σ).bind fun q0 => rd_R ρ 179 38 [some (.ref 64), some (.int x1), some (.int x2)] [] q0.2) := by
  refine (r_iload_n L_179_35 rfl).trans ?_
  refine (r_iload_n L_179_36 rfl).trans ?_
  refine (r_callVv L_179_37 rfl isI_176 (by decide) rfl).trans ?_
  refine bi_c (fun q0 => ?_)
  rfl
set_option maxRecDepth 100000 in
set_option maxHeartbeats 4000000 in
theorem q_M_verify_64_at57 (ρ : Nat × (Nat → Int32)) (σ : rd_Sg) (x1 : Int32) (o2 : Option Value) : rd_R ρ 179 57 [some (.ref 64), some (.int x1), o2] [] σ = rd_R ρ 179 42 [some (.ref 64), some (.int (x1 + 1)), o2] [] σ := by
  refine (r_iinc L_179_57 rfl ki_1 rfl).trans ?_
  refine (r_goto L_179_58).trans ?_
  rfl
set_option maxRecDepth 100000 in
set_option maxHeartbeats 4000000 in
theorem q_M_verify_64_at61 (ρ : Nat × (Nat → Int32)) (σ : rd_Sg) (x1 : Int32) (o2 : Option Value) : rd_R ρ 179 61 [some (.ref 64), some (.int x1), o2] [] σ = (if x1 < (σ 64 23) then ((rd_R ρ 178 0 [some (.ref 64), some (.int x1), none, none] [] σ).bind fun q1 => (if q1.1 = 0 then rd_R ρ 179 72 [some (.ref 64), some (.int x1), o2] [.int 1] q1.2 else rd_R ρ 179 72 [some (.ref 64), some (.int x1), o2] [.int 0] q1.2)) else some ((σ 64 39), σ)) := by
  refine (r_iload_n L_179_61 rfl).trans ?_
  refine (r_aload_n L_179_62 rfl).trans ?_
  refine (r_getfi L_179_63 gf_64_23).trans ?_
  refine (r_cmpge L_179_64).trans ?_
  refine it_c ?_ ?_
  · refine (r_aload_n L_179_65 rfl).trans ?_
    refine (r_iload_n L_179_66 rfl).trans ?_
    refine (r_callV L_179_67 rfl isI_178 rfl).trans ?_
    refine bi_c (fun q1 => ?_)
    refine (r_ifne L_179_68).trans ?_
    refine it_c ?_ ?_
    · refine (r_iconst L_179_69 ki_1).trans ?_
      refine (r_goto L_179_70).trans ?_
      rfl
    · refine (r_iconst L_179_71 ki_0).trans ?_
      rfl
  · refine (r_aload_n L_179_124 rfl).trans ?_
    refine (r_getfi L_179_125 gf_64_39).trans ?_
    exact r_ret L_179_126 mz_179
set_option maxRecDepth 100000 in
set_option maxHeartbeats 4000000 in
theorem q_M_verify_64_at72 (ρ : Nat × (Nat → Int32)) (σ : rd_Sg) (x1 s0 : Int32) (o2 : Option Value) : rd_R ρ 179 72 [some (.ref 64), some (.int x1), o2] [.int s0] σ = (if s0 = 0 then rd_R ρ 179 90 [some (.ref 64), some (.int x1), some (.int s0)] [] σ else (rd_chk (9 * x1) 4500 ((rd_chk (σ 85 (9 * x1).toNatClampNeg) 24 ((if (σ 91 (σ 85 (9 * x1).toNatClampNeg).toNatClampNeg) = 0 then rd_R ρ 179 90 [some (.ref 64), some (.int x1), some (.int s0)] [] σ else ((rd_R ρ 176 0 [some (.ref 64), some (.int 4), some (.int x1), some (.int 0)] [] σ).bind fun q2 => rd_R ρ 179 90 [some (.ref 64), some (.int x1), some (.int s0)] [] q2.2))))))) := by
  refine (r_istore_n L_179_72 rfl).trans ?_
  refine (r_iload_n L_179_73 rfl).trans ?_
  refine (r_ifeq L_179_74).trans ?_
  refine it_c ?_ ?_
  · rfl
  · refine (r_aload_n L_179_75 rfl).trans ?_
    refine (r_getfr L_179_76 gf_64_38).trans ?_
    refine (r_aload_n L_179_77 rfl).trans ?_
    refine (r_getfr L_179_78 gf_64_25).trans ?_
    refine (r_bipush L_179_79 kb_9).trans ?_
    refine (r_iload_n L_179_80 rfl).trans ?_
    refine (r_imul L_179_81).trans ?_
    refine (r_iald L_179_82 ar_85).trans ?_
    refine ck_c ?_
    refine (r_zald L_179_83 ar_91).trans ?_
    refine ck_c ?_
    refine (r_ifeq L_179_84).trans ?_
    refine it_c ?_ ?_
    · rfl
    · refine (r_aload_n L_179_85 rfl).trans ?_
      refine (r_iconst L_179_86 ki_4).trans ?_
      refine (r_iload_n L_179_87 rfl).trans ?_
      refine (r_iconst L_179_88 ki_0).trans ?_
      refine (r_callVv L_179_89 rfl isI_176 (by decide) rfl).trans ?_
      refine bi_c (fun q2 => ?_)
      rfl
set_option maxRecDepth 100000 in
set_option maxHeartbeats 4000000 in
theorem q_M_verify_64_at90 (ρ : Nat × (Nat → Int32)) (σ : rd_Sg) (x1 x2 : Int32) : rd_R ρ 179 90 [some (.ref 64), some (.int x1), some (.int x2)] [] σ = (rd_chk ((9 * x1) + 5) 4500 ((if (σ 85 ((9 * x1) + 5).toNatClampNeg) = 2 then ((rd_R ρ 176 0 [some (.ref 64), some (.int 5), some (.int x1), some (.int 0)] [] σ).bind fun q1 => rd_R ρ 179 105 [some (.ref 64), some (.int x1), some (.int x2)] [] q1.2) else rd_R ρ 179 105 [some (.ref 64), some (.int x1), some (.int x2)] [] σ))) := by
  refine (r_aload_n L_179_90 rfl).trans ?_
  refine (r_getfr L_179_91 gf_64_25).trans ?_
  refine (r_bipush L_179_92 kb_9).trans ?_
  refine (r_iload_n L_179_93 rfl).trans ?_
  refine (r_imul L_179_94).trans ?_
  refine (r_iconst L_179_95 ki_5).trans ?_
  refine (r_iadd L_179_96).trans ?_
  refine (r_iald L_179_97 ar_85).trans ?_
  refine ck_c ?_
  refine (r_iconst L_179_98 ki_2).trans ?_
  refine (r_cmpne L_179_99).trans ?_
  refine it_c ?_ ?_
  · refine (r_aload_n L_179_100 rfl).trans ?_
    refine (r_iconst L_179_101 ki_5).trans ?_
    refine (r_iload_n L_179_102 rfl).trans ?_
    refine (r_iconst L_179_103 ki_0).trans ?_
    refine (r_callVv L_179_104 rfl isI_176 (by decide) rfl).trans ?_
    refine bi_c (fun q1 => ?_)
    rfl
  · rfl
set_option maxRecDepth 100000 in
set_option maxHeartbeats 4000000 in
theorem q_M_verify_64_at105 (ρ : Nat × (Nat → Int32)) (σ : rd_Sg) (x1 x2 : Int32) : rd_R ρ 179 105 [some (.ref 64), some (.int x1), some (.int x2)] [] σ = (if x2 = 0 then rd_R ρ 179 122 [some (.ref 64), some (.int x1), some (.int x2)] [] σ else (rd_chk ((9 * x1) + 5) 4500 ((if (σ 85 ((9 * x1) + 5).toNatClampNeg) = 3 then ((rd_R ρ 176 0 [some (.ref 64), some (.int 6), some (.int x1), some (.int 0)] [] σ).bind fun q2 => rd_R ρ 179 122 [some (.ref 64), some (.int x1), some (.int x2)] [] q2.2) else rd_R ρ 179 122 [some (.ref 64), some (.int x1), some (.int x2)] [] σ)))) := by
  refine (r_iload_n L_179_105 rfl).trans ?_
  refine (r_ifeq L_179_106).trans ?_
  refine it_c ?_ ?_
  · rfl
  · refine (r_aload_n L_179_107 rfl).trans ?_
    refine (r_getfr L_179_108 gf_64_25).trans ?_
    refine (r_bipush L_179_109 kb_9).trans ?_
    refine (r_iload_n L_179_110 rfl).trans ?_
    refine (r_imul L_179_111).trans ?_
    refine (r_iconst L_179_112 ki_5).trans ?_
    refine (r_iadd L_179_113).trans ?_
    refine (r_iald L_179_114 ar_85).trans ?_
    refine ck_c ?_
    refine (r_iconst L_179_115 ki_3).trans ?_
    refine (r_cmpne L_179_116).trans ?_
    refine it_c ?_ ?_
    · refine (r_aload_n L_179_117 rfl).trans ?_
      refine (r_bipush L_179_118 kb_6).trans ?_
      refine (r_iload_n L_179_119 rfl).trans ?_
      refine (r_iconst L_179_120 ki_0).trans ?_
      refine (r_callVv L_179_121 rfl isI_176 (by decide) rfl).trans ?_
      refine bi_c (fun q2 => ?_)
      rfl
    · rfl
set_option maxRecDepth 100000 in
set_option maxHeartbeats 4000000 in
theorem q_M_verify_64_at122 (ρ : Nat × (Nat → Int32)) (σ : rd_Sg) (x1 : Int32) (o2 : Option Value) : rd_R ρ 179 122 [some (.ref 64), some (.int x1), o2] [] σ = rd_R ρ 179 61 [some (.ref 64), some (.int (x1 + 1)), o2] [] σ := by
  refine (r_iinc L_179_122 rfl ki_1 rfl).trans ?_
  refine (r_goto L_179_123).trans ?_
  rfl
set_option maxRecDepth 100000 in
set_option maxHeartbeats 4000000 in
theorem q_M_wrong_64 (ρ : Nat × (Nat → Int32)) (σ : rd_Sg) (x1 x2 : Int32) : rd_R ρ 180 0 [some (.ref 64), some (.int x1), some (.int x2)] [] σ = ((rd_R ρ 137 0 [some (.int x1), some (.int 0), some (.int ((σ 64 39) - 1))] [] σ).bind fun q0 => (if q0.1 = 0 then some (((-1) : Int32), q0.2) else ((rd_R ρ 137 0 [some (.int x2), some (.int 0), some (.int 2)] [] q0.2).bind fun q2 => (if q2.1 = 0 then some (((-1) : Int32), q2.2) else (rd_chk ((3 * x1) + x2) 180 (some ((q2.2 92 ((3 * x1) + x2).toNatClampNeg), q2.2))))))) := by
  refine (r_iload_n L_180_0 rfl).trans ?_
  refine (r_iconst L_180_1 ki_0).trans ?_
  refine (r_aload_n L_180_2 rfl).trans ?_
  refine (r_getfi L_180_3 gf_64_39).trans ?_
  refine (r_iconst L_180_4 ki_1).trans ?_
  refine (r_isub L_180_5).trans ?_
  refine (r_callS L_180_6 rfl isI_137 rfl).trans ?_
  refine bi_c (fun q0 => ?_)
  refine (r_ifeq L_180_7).trans ?_
  refine it_c ?_ ?_
  · refine (r_iconst L_180_22 ki_m1).trans ?_
    exact r_ret L_180_23 mz_180
  · refine (r_iload_n L_180_8 rfl).trans ?_
    refine (r_iconst L_180_9 ki_0).trans ?_
    refine (r_iconst L_180_10 ki_2).trans ?_
    refine (r_callS L_180_11 rfl isI_137 rfl).trans ?_
    refine bi_c (fun q2 => ?_)
    refine (r_ifeq L_180_12).trans ?_
    refine it_c ?_ ?_
    · refine (r_iconst L_180_22 ki_m1).trans ?_
      exact r_ret L_180_23 mz_180
    · refine (r_aload_n L_180_13 rfl).trans ?_
      refine (r_getfr L_180_14 gf_64_40).trans ?_
      refine (r_iconst L_180_15 ki_3).trans ?_
      refine (r_iload_n L_180_16 rfl).trans ?_
      refine (r_imul L_180_17).trans ?_
      refine (r_iload_n L_180_18 rfl).trans ?_
      refine (r_iadd L_180_19).trans ?_
      refine (r_iald L_180_20 ar_92).trans ?_
      refine ck_c ?_
      refine (r_goto L_180_21).trans ?_
      exact r_ret L_180_23 mz_180
set_option maxRecDepth 100000 in
set_option maxHeartbeats 4000000 in
theorem q_M_cue_64 (ρ : Nat × (Nat → Int32)) (σ : rd_Sg) (x1 x2 x3 x4 : Int32) : rd_R ρ 181 0 [some (.ref 64), some (.int x1), some (.int x2), some (.int x3), some (.int x4), none] [] σ = ((rd_R ρ 137 0 [some (.int x1), some (.int 0), some (.int 9)] [] σ).bind fun q0 => (if x1 = 0 then ((rd_R ρ 137 0 [some (.int x2), some (.int 0), some (.int 7)] [] q0.2).bind fun q2 => rd_R ρ 181 125 [some (.ref 64), some (.int x1), some (.int x2), some (.int x3), some (.int x4), some (.int q2.1)] [] q2.2) else (if x1 = 1 then ((rd_R ρ 137 0 [some (.int x2), some (.int 0), some (.int 7)] [] q0.2).bind fun q2 => (if q2.1 = 0 then rd_R ρ 181 25 [some (.ref 64), some (.int x1), some (.int x2), some (.int x3), some (.int x4), some (.int q0.1)] [] q2.2 else ((rd_R ρ 137 0 [some (.int x3), some (.int 0), some (.int 7)] [] q2.2).bind fun q4 => (if q4.1 = 0 then rd_R ρ 181 25 [some (.ref 64), some (.int x1), some (.int x2), some (.int x3), some (.int x4), some (.int q0.1)] [] q4.2 else rd_R ρ 181 26 [some (.ref 64), some (.int x1), some (.int x2), some (.int x3), some (.int x4), some (.int q0.1)] [.int 1] q4.2)))) else (if x1 = 2 then ((rd_R ρ 137 0 [some (.int x2), some (.int 0), some (.int 3)] [] q0.2).bind fun q2 => (if q2.1 = 0 then rd_R ρ 181 40 [some (.ref 64), some (.int x1), some (.int x2), some (.int x3), some (.int x4), some (.int q0.1)] [] q2.2 else ((rd_R ρ 137 0 [some (.int x3), some (.int (-1)), some (.int 23)] [] q2.2).bind fun q4 => (if q4.1 = 0 then rd_R ρ 181 40 [some (.ref 64), some (.int x1), some (.int x2), some (.int x3), some (.int x4), some (.int q0.1)] [] q4.2 else rd_R ρ 181 41 [some (.ref 64), some (.int x1), some (.int x2), some (.int x3), some (.int x4), some (.int q0.1)] [.int 1] q4.2)))) else (if x1 = 3 then ((rd_R ρ 137 0 [some (.int x2), some (.int 0), some (.int 3)] [] q0.2).bind fun q2 => (if q2.1 = 0 then rd_R ρ 181 55 [some (.ref 64), some (.int x1), some (.int x2), some (.int x3), some (.int x4), some (.int q0.1)] [] q2.2 else ((rd_R ρ 137 0 [some (.int x3), some (.int 0), some (.int 7)] [] q2.2).bind fun q4 => (if q4.1 = 0 then rd_R ρ 181 55 [some (.ref 64), some (.int x1), some (.int x2), some (.int x3), some (.int x4), some (.int q0.1)] [] q4.2 else rd_R ρ 181 56 [some (.ref 64), some (.int x1), some (.int x2), some (.int x3), some (.int x4), some (.int q0.1)] [.int 1] q4.2)))) else (if x1 = 4 then ((rd_R ρ 137 0 [some (.int x2), some (.int 0), some (.int 60)] [] q0.2).bind fun q2 => rd_R ρ 181 125 [some (.ref 64), some (.int x1), some (.int x2), some (.int x3), some (.int x4), some (.int q2.1)] [] q2.2) else (if x1 = 5 then ((rd_R ρ 137 0 [some (.int x2), some (.int 0), some (.int 7)] [] q0.2).bind fun q2 => (if q2.1 = 0 then rd_R ρ 181 81 [some (.ref 64), some (.int x1), some (.int x2), some (.int x3), some (.int x4), some (.int q0.1)] [] q2.2 else ((rd_R ρ 137 0 [some (.int x3), some (.int 0), some (.int 7)] [] q2.2).bind fun q4 => (if q4.1 = 0 then rd_R ρ 181 81 [some (.ref 64), some (.int x1), some (.int x2), some (.int x3), some (.int x4), some (.int q0.1)] [] q4.2 else ((rd_R ρ 137 0 [some (.int x4), some (.int 0), some (.int 60)] [] q4.2).bind fun q6 => (if q6.1 = 0 then rd_R ρ 181 81 [some (.ref 64), some (.int x1), some (.int x2), some (.int x3), some (.int x4), some (.int q0.1)] [] q6.2 else rd_R ρ 181 82 [some (.ref 64), some (.int x1), some (.int x2), some (.int x3), some (.int x4), some (.int q0.1)] [.int 1] q6.2)))))) else (if x1 = 6 then ((rd_R ρ 137 0 [some (.int x2), some (.int 1), some (.int 59)] [] q0.2).bind fun q2 => (if q2.1 = 0 then rd_R ρ 181 96 [some (.ref 64), some (.int x1), some (.int x2), some (.int x3), some (.int x4), some (.int q0.1)] [] q2.2 else ((rd_R ρ 137 0 [some (.int x3), some (.int 0), some (.int 60)] [] q2.2).bind fun q4 => (if q4.1 = 0 then rd_R ρ 181 96 [some (.ref 64), some (.int x1), some (.int x2), some (.int x3), some (.int x4), some (.int q0.1)] [] q4.2 else rd_R ρ 181 97 [some (.ref 64), some (.int x1), some (.int x2), some (.int x3), some (.int x4), some (.int q0.1)] [.int 1] q4.2)))) else (if x1 = 7 then ((rd_R ρ 137 0 [some (.int x2), some (.int 0), some (.int 11)] [] q0.2).bind fun q2 => rd_R ρ 181 125 [some (.ref 64), some (.int x1), some (.int x2), some (.int x3), some (.int x4), some (.int q2.1)] [] q2.2) else (if x1 = 8 then ((rd_R ρ 137 0 [some (.int x2), some (.int 0), some (.int 3)] [] q0.2).bind fun q2 => (if q2.1 = 0 then rd_R ρ 181 122 [some (.ref 64), some (.int x1), some (.int x2), some (.int x3), some (.int x4), some (.int q0.1)] [] q2.2 else ((rd_R ρ 137 0 [some (.int x3), some (.int 0), some (.int 3)] [] q2.2).bind fun q4 => (if q4.1 = 0 then rd_R ρ 181 122 [some (.ref 64), some (.int x1), some (.int x2), some (.int x3), some (.int x4), some (.int q0.1)] [] q4.2 else ((rd_R ρ 137 0 [some (.int x4), some (.int 0), some (.int 7)] [] q4.2).bind fun q6 => (if q6.1 = 0 then rd_R ρ 181 122 [some (.ref 64), some (.int x1), some (.int x2), some (.int x3), some (.int x4), some (.int q0.1)] [] q6.2 else rd_R ρ 181 123 [some (.ref 64), some (.int x1), some (.int x2), some (.int x3), some (.int x4), some (.int q0.1)] [.int 1] q6.2)))))) else (if x1 = 9 then ((rd_R ρ 137 0 [some (.int x2), some (.int 0), some (.int 7)] [] q0.2).bind fun q2 => rd_R ρ 181 125 [some (.ref 64), some (.int x1), some (.int x2), some (.int x3), some (.int x4), some (.int q2.1)] [] q2.2) else rd_R ρ 181 125 [some (.ref 64), some (.int x1), some (.int x2), some (.int x3), some (.int x4), some (.int q0.1)] [] q0.2))))))))))) := by
  refine (r_iload_n L_181_0 rfl).trans ?_
  refine (r_iconst L_181_1 ki_0).trans ?_
  refine (r_bipush L_181_2 kb_9).trans ?_
  refine (r_callS L_181_3 rfl isI_137 rfl).trans ?_
  refine bi_c (fun q0 => ?_)
  refine (r_istore L_181_4 rfl).trans ?_
  refine (r_iload_n L_181_5 rfl).trans ?_
  refine (r_tsw L_181_6).trans ?_
  refine (r_swc ki_0 rfl).trans ?_
  refine it_c ?_ ?_
  · refine (r_iload_n L_181_7 rfl).trans ?_
    refine (r_iconst L_181_8 ki_0).trans ?_
    refine (r_bipush L_181_9 kb_7).trans ?_
    refine (r_callS L_181_10 rfl isI_137 rfl).trans ?_
    refine bi_c (fun q2 => ?_)
    refine (r_istore L_181_11 rfl).trans ?_
    refine (r_goto L_181_12).trans ?_
    rfl
  · refine (r_swc ki_1 rfl).trans ?_
    refine it_c ?_ ?_
    · refine (r_iload_n L_181_13 rfl).trans ?_
      refine (r_iconst L_181_14 ki_0).trans ?_
      refine (r_bipush L_181_15 kb_7).trans ?_
      refine (r_callS L_181_16 rfl isI_137 rfl).trans ?_
      refine bi_c (fun q2 => ?_)
      refine (r_ifeq L_181_17).trans ?_
      refine it_c ?_ ?_
      · rfl
      · refine (r_iload_n L_181_18 rfl).trans ?_
        refine (r_iconst L_181_19 ki_0).trans ?_
        refine (r_bipush L_181_20 kb_7).trans ?_
        refine (r_callS L_181_21 rfl isI_137 rfl).trans ?_
        refine bi_c (fun q4 => ?_)
        refine (r_ifeq L_181_22).trans ?_
        refine it_c ?_ ?_
        · rfl
        · refine (r_iconst L_181_23 ki_1).trans ?_
          refine (r_goto L_181_24).trans ?_
          rfl
    · refine (r_swc ki_2 rfl).trans ?_
      refine it_c ?_ ?_
      · refine (r_iload_n L_181_28 rfl).trans ?_
        refine (r_iconst L_181_29 ki_0).trans ?_
        refine (r_iconst L_181_30 ki_3).trans ?_
        refine (r_callS L_181_31 rfl isI_137 rfl).trans ?_
        refine bi_c (fun q2 => ?_)
        refine (r_ifeq L_181_32).trans ?_
        refine it_c ?_ ?_
        · rfl
        · refine (r_iload_n L_181_33 rfl).trans ?_
          refine (r_iconst L_181_34 ki_m1).trans ?_
          refine (r_bipush L_181_35 kb_23).trans ?_
          refine (r_callS L_181_36 rfl isI_137 rfl).trans ?_
          refine bi_c (fun q4 => ?_)
          refine (r_ifeq L_181_37).trans ?_
          refine it_c ?_ ?_
          · rfl
          · refine (r_iconst L_181_38 ki_1).trans ?_
            refine (r_goto L_181_39).trans ?_
            rfl
      · refine (r_swc ki_3 rfl).trans ?_
        refine it_c ?_ ?_
        · refine (r_iload_n L_181_43 rfl).trans ?_
          refine (r_iconst L_181_44 ki_0).trans ?_
          refine (r_iconst L_181_45 ki_3).trans ?_
          refine (r_callS L_181_46 rfl isI_137 rfl).trans ?_
          refine bi_c (fun q2 => ?_)
          refine (r_ifeq L_181_47).trans ?_
          refine it_c ?_ ?_
          · rfl
          · refine (r_iload_n L_181_48 rfl).trans ?_
            refine (r_iconst L_181_49 ki_0).trans ?_
            refine (r_bipush L_181_50 kb_7).trans ?_
            refine (r_callS L_181_51 rfl isI_137 rfl).trans ?_
            refine bi_c (fun q4 => ?_)
            refine (r_ifeq L_181_52).trans ?_
            refine it_c ?_ ?_
            · rfl
            · refine (r_iconst L_181_53 ki_1).trans ?_
              refine (r_goto L_181_54).trans ?_
              rfl
        · refine (r_swc ki_4 rfl).trans ?_
          refine it_c ?_ ?_
          · refine (r_iload_n L_181_58 rfl).trans ?_
            refine (r_iconst L_181_59 ki_0).trans ?_
            refine (r_bipush L_181_60 kb_60).trans ?_
            refine (r_callS L_181_61 rfl isI_137 rfl).trans ?_
            refine bi_c (fun q2 => ?_)
            refine (r_istore L_181_62 rfl).trans ?_
            refine (r_goto L_181_63).trans ?_
            rfl
          · refine (r_swc ki_5 rfl).trans ?_
            refine it_c ?_ ?_
            · refine (r_iload_n L_181_64 rfl).trans ?_
              refine (r_iconst L_181_65 ki_0).trans ?_
              refine (r_bipush L_181_66 kb_7).trans ?_
              refine (r_callS L_181_67 rfl isI_137 rfl).trans ?_
              refine bi_c (fun q2 => ?_)
              refine (r_ifeq L_181_68).trans ?_
              refine it_c ?_ ?_
              · rfl
              · refine (r_iload_n L_181_69 rfl).trans ?_
                refine (r_iconst L_181_70 ki_0).trans ?_
                refine (r_bipush L_181_71 kb_7).trans ?_
                refine (r_callS L_181_72 rfl isI_137 rfl).trans ?_
                refine bi_c (fun q4 => ?_)
                refine (r_ifeq L_181_73).trans ?_
                refine it_c ?_ ?_
                · rfl
                · refine (r_iload L_181_74 rfl).trans ?_
                  refine (r_iconst L_181_75 ki_0).trans ?_
                  refine (r_bipush L_181_76 kb_60).trans ?_
                  refine (r_callS L_181_77 rfl isI_137 rfl).trans ?_
                  refine bi_c (fun q6 => ?_)
                  refine (r_ifeq L_181_78).trans ?_
                  refine it_c ?_ ?_
                  · rfl
                  · refine (r_iconst L_181_79 ki_1).trans ?_
                    refine (r_goto L_181_80).trans ?_
                    rfl
            · refine (r_swc ki_6 rfl).trans ?_
              refine it_c ?_ ?_
              · refine (r_iload_n L_181_84 rfl).trans ?_
                refine (r_iconst L_181_85 ki_1).trans ?_
                refine (r_bipush L_181_86 kb_59).trans ?_
                refine (r_callS L_181_87 rfl isI_137 rfl).trans ?_
                refine bi_c (fun q2 => ?_)
                refine (r_ifeq L_181_88).trans ?_
                refine it_c ?_ ?_
                · rfl
                · refine (r_iload_n L_181_89 rfl).trans ?_
                  refine (r_iconst L_181_90 ki_0).trans ?_
                  refine (r_bipush L_181_91 kb_60).trans ?_
                  refine (r_callS L_181_92 rfl isI_137 rfl).trans ?_
                  refine bi_c (fun q4 => ?_)
                  refine (r_ifeq L_181_93).trans ?_
                  refine it_c ?_ ?_
                  · rfl
                  · refine (r_iconst L_181_94 ki_1).trans ?_
                    refine (r_goto L_181_95).trans ?_
                    rfl
              · refine (r_swc ki_7 rfl).trans ?_
                refine it_c ?_ ?_
                · refine (r_iload_n L_181_99 rfl).trans ?_
                  refine (r_iconst L_181_100 ki_0).trans ?_
                  refine (r_bipush L_181_101 kb_11).trans ?_
                  refine (r_callS L_181_102 rfl isI_137 rfl).trans ?_
                  refine bi_c (fun q2 => ?_)
                  refine (r_istore L_181_103 rfl).trans ?_
                  refine (r_goto L_181_104).trans ?_
                  rfl
                · refine (r_swc ki_8 rfl).trans ?_
                  refine it_c ?_ ?_
                  · refine (r_iload_n L_181_105 rfl).trans ?_
                    refine (r_iconst L_181_106 ki_0).trans ?_
                    refine (r_iconst L_181_107 ki_3).trans ?_
                    refine (r_callS L_181_108 rfl isI_137 rfl).trans ?_
                    refine bi_c (fun q2 => ?_)
                    refine (r_ifeq L_181_109).trans ?_
                    refine it_c ?_ ?_
                    · rfl
                    · refine (r_iload_n L_181_110 rfl).trans ?_
                      refine (r_iconst L_181_111 ki_0).trans ?_
                      refine (r_iconst L_181_112 ki_3).trans ?_
                      refine (r_callS L_181_113 rfl isI_137 rfl).trans ?_
                      refine bi_c (fun q4 => ?_)
                      refine (r_ifeq L_181_114).trans ?_
                      refine it_c ?_ ?_
                      · rfl
                      · refine (r_iload L_181_115 rfl).trans ?_
                        refine (r_iconst L_181_116 ki_0).trans ?_
                        refine (r_bipush L_181_117 kb_7).trans ?_
                        refine (r_callS L_181_118 rfl isI_137 rfl).trans ?_
                        refine bi_c (fun q6 => ?_)
                        refine (r_ifeq L_181_119).trans ?_
                        refine it_c ?_ ?_
                        · rfl
                        · refine (r_iconst L_181_120 ki_1).trans ?_
                          refine (r_goto L_181_121).trans ?_
                          rfl
                  · refine (r_swc ki_9 rfl).trans ?_
                    refine it_c ?_ ?_
                    · refine (r_iload_n L_181_7 rfl).trans ?_
                      refine (r_iconst L_181_8 ki_0).trans ?_
                      refine (r_bipush L_181_9 kb_7).trans ?_
                      refine (r_callS L_181_10 rfl isI_137 rfl).trans ?_
                      refine bi_c (fun q2 => ?_)
                      refine (r_istore L_181_11 rfl).trans ?_
                      refine (r_goto L_181_12).trans ?_
                      rfl
                    · refine (r_swn).trans ?_
                      rfl
set_option maxRecDepth 100000 in
set_option maxHeartbeats 4000000 in
theorem q_M_cue_64_at25 (ρ : Nat × (Nat → Int32)) (σ : rd_Sg) (x1 x2 x3 x4 : Int32) (o5 : Option Value) : rd_R ρ 181 25 [some (.ref 64), some (.int x1), some (.int x2), some (.int x3), some (.int x4), o5] [] σ = rd_R ρ 181 26 [some (.ref 64), some (.int x1), some (.int x2), some (.int x3), some (.int x4), o5] [.int 0] σ := by
  refine (r_iconst L_181_25 ki_0).trans ?_
  rfl
set_option maxRecDepth 100000 in
set_option maxHeartbeats 4000000 in
theorem q_M_cue_64_at26 (ρ : Nat × (Nat → Int32)) (σ : rd_Sg) (x1 x2 x3 x4 s0 : Int32) (o5 : Option Value) : rd_R ρ 181 26 [some (.ref 64), some (.int x1), some (.int x2), some (.int x3), some (.int x4), o5] [.int s0] σ = rd_R ρ 181 125 [some (.ref 64), some (.int x1), some (.int x2), some (.int x3), some (.int x4), some (.int s0)] [] σ := by
  refine (r_istore L_181_26 rfl).trans ?_
  refine (r_goto L_181_27).trans ?_
  rfl
set_option maxRecDepth 100000 in
set_option maxHeartbeats 4000000 in
theorem q_M_cue_64_at40 (ρ : Nat × (Nat → Int32)) (σ : rd_Sg) (x1 x2 x3 x4 : Int32) (o5 : Option Value) : rd_R ρ 181 40 [some (.ref 64), some (.int x1), some (.int x2), some (.int x3), some (.int x4), o5] [] σ = rd_R ρ 181 41 [some (.ref 64), some (.int x1), some (.int x2), some (.int x3), some (.int x4), o5] [.int 0] σ := by
  refine (r_iconst L_181_40 ki_0).trans ?_
  rfl
set_option maxRecDepth 100000 in
set_option maxHeartbeats 4000000 in
theorem q_M_cue_64_at41 (ρ : Nat × (Nat → Int32)) (σ : rd_Sg) (x1 x2 x3 x4 s0 : Int32) (o5 : Option Value) : rd_R ρ 181 41 [some (.ref 64), some (.int x1), some (.int x2), some (.int x3), some (.int x4), o5] [.int s0] σ = rd_R ρ 181 125 [some (.ref 64), some (.int x1), some (.int x2), some (.int x3), some (.int x4), some (.int s0)] [] σ := by
  refine (r_istore L_181_41 rfl).trans ?_
  refine (r_goto L_181_42).trans ?_
  rfl
set_option maxRecDepth 100000 in
set_option maxHeartbeats 4000000 in
theorem q_M_cue_64_at55 (ρ : Nat × (Nat → Int32)) (σ : rd_Sg) (x1 x2 x3 x4 : Int32) (o5 : Option Value) : rd_R ρ 181 55 [some (.ref 64), some (.int x1), some (.int x2), some (.int x3), some (.int x4), o5] [] σ = rd_R ρ 181 56 [some (.ref 64), some (.int x1), some (.int x2), some (.int x3), some (.int x4), o5] [.int 0] σ := by
  refine (r_iconst L_181_55 ki_0).trans ?_
  rfl
set_option maxRecDepth 100000 in
set_option maxHeartbeats 4000000 in
theorem q_M_cue_64_at56 (ρ : Nat × (Nat → Int32)) (σ : rd_Sg) (x1 x2 x3 x4 s0 : Int32) (o5 : Option Value) : rd_R ρ 181 56 [some (.ref 64), some (.int x1), some (.int x2), some (.int x3), some (.int x4), o5] [.int s0] σ = rd_R ρ 181 125 [some (.ref 64), some (.int x1), some (.int x2), some (.int x3), some (.int x4), some (.int s0)] [] σ := by
  refine (r_istore L_181_56 rfl).trans ?_
  refine (r_goto L_181_57).trans ?_
  rfl
set_option maxRecDepth 100000 in
set_option maxHeartbeats 4000000 in
theorem q_M_cue_64_at81 (ρ : Nat × (Nat → Int32)) (σ : rd_Sg) (x1 x2 x3 x4 : Int32) (o5 : Option Value) : rd_R ρ 181 81 [some (.ref 64), some (.int x1), some (.int x2), some (.int x3), some (.int x4), o5] [] σ = rd_R ρ 181 82 [some (.ref 64), some (.int x1), some (.int x2), some (.int x3), some (.int x4), o5] [.int 0] σ := by
  refine (r_iconst L_181_81 ki_0).trans ?_
  rfl
set_option maxRecDepth 100000 in
set_option maxHeartbeats 4000000 in
theorem q_M_cue_64_at82 (ρ : Nat × (Nat → Int32)) (σ : rd_Sg) (x1 x2 x3 x4 s0 : Int32) (o5 : Option Value) : rd_R ρ 181 82 [some (.ref 64), some (.int x1), some (.int x2), some (.int x3), some (.int x4), o5] [.int s0] σ = rd_R ρ 181 125 [some (.ref 64), some (.int x1), some (.int x2), some (.int x3), some (.int x4), some (.int s0)] [] σ := by
  refine (r_istore L_181_82 rfl).trans ?_
  refine (r_goto L_181_83).trans ?_
  rfl
set_option maxRecDepth 100000 in
set_option maxHeartbeats 4000000 in
theorem q_M_cue_64_at96 (ρ : Nat × (Nat → Int32)) (σ : rd_Sg) (x1 x2 x3 x4 : Int32) (o5 : Option Value) : rd_R ρ 181 96 [some (.ref 64), some (.int x1), some (.int x2), some (.int x3), some (.int x4), o5] [] σ = rd_R ρ 181 97 [some (.ref 64), some (.int x1), some (.int x2), some (.int x3), some (.int x4), o5] [.int 0] σ := by
  refine (r_iconst L_181_96 ki_0).trans ?_
  rfl
set_option maxRecDepth 100000 in
set_option maxHeartbeats 4000000 in
theorem q_M_cue_64_at97 (ρ : Nat × (Nat → Int32)) (σ : rd_Sg) (x1 x2 x3 x4 s0 : Int32) (o5 : Option Value) : rd_R ρ 181 97 [some (.ref 64), some (.int x1), some (.int x2), some (.int x3), some (.int x4), o5] [.int s0] σ = rd_R ρ 181 125 [some (.ref 64), some (.int x1), some (.int x2), some (.int x3), some (.int x4), some (.int s0)] [] σ := by
  refine (r_istore L_181_97 rfl).trans ?_
  refine (r_goto L_181_98).trans ?_
  rfl
set_option maxRecDepth 100000 in
set_option maxHeartbeats 4000000 in
theorem q_M_cue_64_at122 (ρ : Nat × (Nat → Int32)) (σ : rd_Sg) (x1 x2 x3 x4 : Int32) (o5 : Option Value) : rd_R ρ 181 122 [some (.ref 64), some (.int x1), some (.int x2), some (.int x3), some (.int x4), o5] [] σ = rd_R ρ 181 123 [some (.ref 64), some (.int x1), some (.int x2), some (.int x3), some (.int x4), o5] [.int 0] σ := by
  refine (r_iconst L_181_122 ki_0).trans ?_
  rfl
set_option maxRecDepth 100000 in
set_option maxHeartbeats 4000000 in
theorem q_M_cue_64_at123 (ρ : Nat × (Nat → Int32)) (σ : rd_Sg) (x1 x2 x3 x4 s0 : Int32) (o5 : Option Value) : rd_R ρ 181 123 [some (.ref 64), some (.int x1), some (.int x2), some (.int x3), some (.int x4), o5] [.int s0] σ = rd_R ρ 181 125 [some (.ref 64), some (.int x1), some (.int x2), some (.int x3), some (.int x4), some (.int s0)] [] σ := by
  refine (r_istore L_181_123 rfl).trans ?_
  refine (r_goto L_181_124).trans ?_
  rfl
set_option maxRecDepth 100000 in
set_option maxHeartbeats 4000000 in
theorem q_M_cue_64_at125 (ρ : Nat × (Nat → Int32)) (σ : rd_Sg) (x1 x2 x3 x4 x5 : Int32) : rd_R ρ 181 125 [some (.ref 64), some (.int x1), some (.int x2), some (.int x3), some (.int x4), some (.int x5)] [] σ = (if x5 = 0 then some (((-1) : Int32), σ) else (if (σ 64 41) = 60 then some (((-3) : Int32), σ) else (rd_chk (σ 64 41) 60 ((rd_chk (σ 64 41) 60 ((rd_chk (σ 64 41) 60 ((rd_chk (σ 64 41) 60 (some ((((σ 64 41) + 1) - 1), (rd_u (rd_u (rd_u (rd_u (rd_u σ 93 (σ 64 41).toNatClampNeg x1) 94 (σ 64 41).toNatClampNeg x2) 95 (σ 64 41).toNatClampNeg x3) 96 (σ 64 41).toNatClampNeg x4) 64 41 ((σ 64 41) + 1))))))))))))) := by
  refine (r_iload L_181_125 rfl).trans ?_
  refine (r_ifne L_181_126).trans ?_
  refine it_c ?_ ?_
  · refine (r_iconst L_181_127 ki_m1).trans ?_
    exact r_ret L_181_128 mz_181
  · refine (r_aload_n L_181_129 rfl).trans ?_
    refine (r_getfi L_181_130 gf_64_41).trans ?_
    refine (r_bipush L_181_131 kb_60).trans ?_
    refine (r_cmpne L_181_132).trans ?_
    refine it_c ?_ ?_
    · refine (r_bipush L_181_133 kb_m3).trans ?_
      exact r_ret L_181_134 mz_181
    · refine (r_aload_n L_181_135 rfl).trans ?_
      refine (r_getfr L_181_136 gf_64_42).trans ?_
      refine (r_aload_n L_181_137 rfl).trans ?_
      refine (r_getfi L_181_138 gf_64_41).trans ?_
      refine (r_iload_n L_181_139 rfl).trans ?_
      refine (r_iast L_181_140 ar_93).trans ?_
      refine ck_c ?_
      refine (r_aload_n L_181_141 rfl).trans ?_
      refine (r_getfr L_181_142 gf_64_43).trans ?_
      refine (r_aload_n L_181_143 rfl).trans ?_
      refine (r_getfiv L_181_144 gf_64_41 (rd_un (by decide))).trans ?_
      refine (r_iload_n L_181_145 rfl).trans ?_
      refine (r_iast L_181_146 ar_94).trans ?_
      refine ck_c ?_
      refine (r_aload_n L_181_147 rfl).trans ?_
      refine (r_getfr L_181_148 gf_64_44).trans ?_
      refine (r_aload_n L_181_149 rfl).trans ?_
      refine (r_getfiv L_181_150 gf_64_41 ((rd_un (by decide)).trans (rd_un (by decide)))).trans ?_
      refine (r_iload_n L_181_151 rfl).trans ?_
      refine (r_iast L_181_152 ar_95).trans ?_
      refine ck_c ?_
      refine (r_aload_n L_181_153 rfl).trans ?_
      refine (r_getfr L_181_154 gf_64_45).trans ?_
      refine (r_aload_n L_181_155 rfl).trans ?_
      refine (r_getfiv L_181_156 gf_64_41 ((rd_un (by decide)).trans ((rd_un (by decide)).trans (rd_un (by decide))))).trans ?_
      refine (r_iload L_181_157 rfl).trans ?_
      refine (r_iast L_181_158 ar_96).trans ?_
      refine ck_c ?_
      refine (r_aload_n L_181_159 rfl).trans ?_
      refine (r_dupr L_181_160).trans ?_
      refine (r_getfiv L_181_161 gf_64_41 ((rd_un (by decide)).trans ((rd_un (by decide)).trans ((rd_un (by decide)).trans (rd_un (by decide)))))).trans ?_
      refine (r_iconst L_181_162 ki_1).trans ?_
      refine (r_iadd L_181_163).trans ?_
      refine (r_putfi L_181_164 gf_64_41).trans ?_
      refine (r_aload_n L_181_165 rfl).trans ?_
      refine (r_getfiv L_181_166 gf_64_41 (rd_us)).trans ?_
      refine (r_iconst L_181_167 ki_1).trans ?_
      refine (r_isub L_181_168).trans ?_
      exact r_ret L_181_169 mz_181
set_option maxRecDepth 100000 in
set_option maxHeartbeats 4000000 in
theorem q_M_clear_64 (ρ : Nat × (Nat → Int32)) (σ : rd_Sg) : rd_R ρ 182 0 [some (.ref 64), none] [] σ = some ((σ 64 41), (rd_u σ 64 41 0)) := by
  refine (r_aload_n L_182_0 rfl).trans ?_
  refine (r_getfi L_182_1 gf_64_41).trans ?_
  refine (r_istore_n L_182_2 rfl).trans ?_
  refine (r_aload_n L_182_3 rfl).trans ?_
  refine (r_iconst L_182_4 ki_0).trans ?_
  refine (r_putfi L_182_5 gf_64_41).trans ?_
  refine (r_iload_n L_182_6 rfl).trans ?_
  exact r_ret L_182_7 mz_182
set_option maxRecDepth 100000 in
set_option maxHeartbeats 4000000 in
theorem q_M_run_64 (ρ : Nat × (Nat → Int32)) (σ : rd_Sg) (x1 : Int32) : rd_R ρ 187 0 [some (.ref 64), some (.int x1), none, none] [] σ = ((rd_R ρ 137 0 [some (.int x1), some (.int 1), some (.int 1000)] [] σ).bind fun q0 => (if q0.1 = 0 then some (((-1) : Int32), q0.2) else (if (q0.2 64 49) < 20000 then rd_R ρ 187 15 [some (.ref 64), some (.int x1), some (.int 0), none] [] q0.2 else some (((-3) : Int32), q0.2)))) := by
  refine (r_iload_n L_187_0 rfl).trans ?_
  refine (r_iconst L_187_1 ki_1).trans ?_
  refine (r_sipush L_187_2 ks_1000).trans ?_
  refine (r_callS L_187_3 rfl isI_137 rfl).trans ?_
  refine bi_c (fun q0 => ?_)
  refine (r_ifne L_187_4).trans ?_
  refine it_c ?_ ?_
  · refine (r_iconst L_187_5 ki_m1).trans ?_
    exact r_ret L_187_6 mz_187
  · refine (r_aload_n L_187_7 rfl).trans ?_
    refine (r_getfi L_187_8 gf_64_49).trans ?_
    refine (r_sipush L_187_9 ks_20000).trans ?_
    refine (r_cmplt L_187_10).trans ?_
    refine it_c ?_ ?_
    · refine (r_iconst L_187_13 ki_0).trans ?_
      refine (r_istore_n L_187_14 rfl).trans ?_
      rfl
    · refine (r_bipush L_187_11 kb_m3).trans ?_
      exact r_ret L_187_12 mz_187
set_option maxRecDepth 100000 in
set_option maxHeartbeats 4000000 in
theorem q_M_run_64_at15 (ρ : Nat × (Nat → Int32)) (σ : rd_Sg) (x1 x2 : Int32) (o3 : Option Value) : rd_R ρ 187 15 [some (.ref 64), some (.int x1), some (.int x2), o3] [] σ = (if x2 < 8 then (rd_chk x2 8 (rd_R ρ 187 15 [some (.ref 64), some (.int x1), some (.int (x2 + 1)), o3] [] (rd_u σ 97 x2.toNatClampNeg 0))) else rd_R ρ 187 27 [some (.ref 64), some (.int x1), some (.int 0), o3] [] σ) := by
  refine (r_iload_n L_187_15 rfl).trans ?_
  refine (r_bipush L_187_16 kb_8).trans ?_
  refine (r_cmpge L_187_17).trans ?_
  refine it_c ?_ ?_
  · refine (r_aload_n L_187_18 rfl).trans ?_
    refine (r_getfr L_187_19 gf_64_46).trans ?_
    refine (r_iload_n L_187_20 rfl).trans ?_
    refine (r_iconst L_187_21 ki_0).trans ?_
    refine (r_iast L_187_22 ar_97).trans ?_
    refine ck_c ?_
    refine (r_iinc L_187_23 rfl ki_1 rfl).trans ?_
    refine (r_goto L_187_24).trans ?_
    rfl
  · refine (r_iconst L_187_25 ki_0).trans ?_
    refine (r_istore_n L_187_26 rfl).trans ?_
    rfl
set_option maxRecDepth 100000 in
set_option maxHeartbeats 4000000 in
theorem q_M_run_64_at27 (ρ : Nat × (Nat → Int32)) (σ : rd_Sg) (x1 x2 : Int32) (o3 : Option Value) : rd_R ρ 187 27 [some (.ref 64), some (.int x1), some (.int x2), o3] [] σ = (if x2 < 4 then (rd_chk x2 4 (rd_R ρ 187 27 [some (.ref 64), some (.int x1), some (.int (x2 + 1)), o3] [] (rd_u σ 98 x2.toNatClampNeg (-1)))) else rd_R ρ 187 47 [some (.ref 64), some (.int x1), some (.int 0), some (.int 0)] [] (rd_u (rd_u σ 64 48 0) 64 52 0)) := by
  refine (r_iload_n L_187_27 rfl).trans ?_
  refine (r_iconst L_187_28 ki_4).trans ?_
  refine (r_cmpge L_187_29).trans ?_
  refine it_c ?_ ?_
  · refine (r_aload_n L_187_30 rfl).trans ?_
    refine (r_getfr L_187_31 gf_64_47).trans ?_
    refine (r_iload_n L_187_32 rfl).trans ?_
    refine (r_iconst L_187_33 ki_m1).trans ?_
    refine (r_iast L_187_34 ar_98).trans ?_
    refine ck_c ?_
    refine (r_iinc L_187_35 rfl ki_1 rfl).trans ?_
    refine (r_goto L_187_36).trans ?_
    rfl
  · refine (r_aload_n L_187_37 rfl).trans ?_
    refine (r_iconst L_187_38 ki_0).trans ?_
    refine (r_putfz L_187_39 gf_64_48 (by decide)).trans ?_
    refine (r_aload_n L_187_40 rfl).trans ?_
    refine (r_iconst L_187_41 ki_0).trans ?_
    refine (r_putfi L_187_42 gf_64_52).trans ?_
    refine (r_iconst L_187_43 ki_0).trans ?_
    refine (r_istore_n L_187_44 rfl).trans ?_
    refine (r_iconst L_187_45 ki_0).trans ?_
    refine (r_istore_n L_187_46 rfl).trans ?_
    rfl
set_option maxRecDepth 100000 in
set_option maxHeartbeats 4000000 in
theorem q_M_run_64_at47 (ρ : Nat × (Nat → Int32)) (σ : rd_Sg) (x1 x2 x3 : Int32) : rd_R ρ 187 47 [some (.ref 64), some (.int x1), some (.int x2), some (.int x3)] [] σ = (if x2 < (σ 64 41) then (if x3 = x1 then some (((-4) : Int32), σ) else ((rd_R ρ 186 0 [some (.ref 64), some (.int x2), none, none] [] σ).bind fun q2 => ((rd_R ρ 185 0 [some (.ref 64), some (.int x2), none, none, none] [] (rd_u q2.2 64 49 ((q2.2 64 49) + 1))).bind fun q3 => (if (q3.2 64 58) < 0 then rd_R ρ 187 47 [some (.ref 64), some (.int x1), some (.int q3.1), some (.int (x3 + 1))] [] q3.2 else (if (q3.2 64 52) = 0 then some ((1 + (q3.2 64 58)), q3.2) else (rd_chk ((q3.2 64 52) - 1) 10 (rd_R ρ 187 47 [some (.ref 64), some (.int x1), some (.int (q3.2 102 ((q3.2 64 52) - 1).toNatClampNeg)), some (.int (x3 + 1))] [] (rd_u (rd_u q3.2 64 52 ((q3.2 64 52) - 1)) 97 6 (q3.2 64 58))))))))) else some ((0 : Int32), σ)) := by
  refine (r_iload_n L_187_47 rfl).trans ?_
  refine (r_aload_n L_187_48 rfl).trans ?_
  refine (r_getfi L_187_49 gf_64_41).trans ?_
  refine (r_cmpge L_187_50).trans ?_
  refine it_c ?_ ?_
  · refine (r_iload_n L_187_51 rfl).trans ?_
    refine (r_iload_n L_187_52 rfl).trans ?_
    refine (r_cmpne L_187_53).trans ?_
    refine it_c ?_ ?_
    · refine (r_bipush L_187_54 kb_m4).trans ?_
      exact r_ret L_187_55 mz_187
    · refine (r_aload_n L_187_56 rfl).trans ?_
      refine (r_iload_n L_187_57 rfl).trans ?_
      refine (r_callVv L_187_58 rfl isI_186 (by decide) rfl).trans ?_
      refine bi_c (fun q2 => ?_)
      refine (r_iinc L_187_59 rfl ki_1 rfl).trans ?_
      refine (r_aload_n L_187_60 rfl).trans ?_
      refine (r_dupr L_187_61).trans ?_
      refine (r_getfi L_187_62 gf_64_49).trans ?_
      refine (r_iconst L_187_63 ki_1).trans ?_
      refine (r_iadd L_187_64).trans ?_
      refine (r_putfi L_187_65 gf_64_49).trans ?_
      refine (r_aload_n L_187_66 rfl).trans ?_
      refine (r_iload_n L_187_67 rfl).trans ?_
      refine (r_callV L_187_68 rfl isI_185 rfl).trans ?_
      refine bi_c (fun q3 => ?_)
      refine (r_istore_n L_187_69 rfl).trans ?_
      refine (r_aload_n L_187_70 rfl).trans ?_
      refine (r_getfi L_187_71 gf_64_58).trans ?_
      refine (r_iflt L_187_72).trans ?_
      refine it_c ?_ ?_
      · rfl
      · refine (r_aload_n L_187_73 rfl).trans ?_
        refine (r_getfi L_187_74 gf_64_52).trans ?_
        refine (r_ifne L_187_75).trans ?_
        refine it_c ?_ ?_
        · refine (r_iconst L_187_76 ki_1).trans ?_
          refine (r_aload_n L_187_77 rfl).trans ?_
          refine (r_getfi L_187_78 gf_64_58).trans ?_
          refine (r_iadd L_187_79).trans ?_
          exact r_ret L_187_80 mz_187
        · refine (r_aload_n L_187_81 rfl).trans ?_
          refine (r_dupr L_187_82).trans ?_
          refine (r_getfi L_187_83 gf_64_52).trans ?_
          refine (r_iconst L_187_84 ki_1).trans ?_
          refine (r_isub L_187_85).trans ?_
          refine (r_putfi L_187_86 gf_64_52).trans ?_
          refine (r_aload_n L_187_87 rfl).trans ?_
          refine (r_getfr L_187_88 gf_64_46).trans ?_
          refine (r_bipush L_187_89 kb_6).trans ?_
          refine (r_aload_n L_187_90 rfl).trans ?_
          refine (r_getfiv L_187_91 gf_64_58 (rd_uj (by decide))).trans ?_
          refine (r_iastc (m := 6) L_187_92 ar_97 (by decide)).trans ?_
          refine (r_aload_n L_187_93 rfl).trans ?_
          refine (r_getfr L_187_94 gf_64_55).trans ?_
          refine (r_aload_n L_187_95 rfl).trans ?_
          refine (r_getfiv L_187_96 gf_64_52 ((rd_un (by decide)).trans (rd_us))).trans ?_
          refine (r_ialdv L_187_97 ar_102 ((rd_un (by decide)).trans (rd_un (by decide)))).trans ?_
          refine ck_c ?_
          refine (r_istore_n L_187_98 rfl).trans ?_
          refine (r_goto L_187_99).trans ?_
          rfl
  · refine (r_iconst L_187_100 ki_0).trans ?_
    exact r_ret L_187_101 mz_187
set_option maxRecDepth 100000 in
set_option maxHeartbeats 4000000 in
theorem q_M_desk_64 (ρ : Nat × (Nat → Int32)) (σ : rd_Sg) (x1 : Int32) : rd_R ρ 188 0 [some (.ref 64), some (.int x1)] [] σ = ((rd_R ρ 137 0 [some (.int x1), some (.int 0), some (.int 7)] [] σ).bind fun q0 => (if q0.1 = 0 then ((rd_R ρ 137 0 [some (.int x1), some (.int 8), some (.int 11)] [] q0.2).bind fun q2 => (if q2.1 = 0 then some (((-1001) : Int32), q2.2) else (if (q2.2 64 48) = 0 then (rd_chk (x1 - 8) 4 (some ((q2.2 98 (x1 - 8).toNatClampNeg), q2.2))) else some (((-1) : Int32), q2.2)))) else (rd_chk x1 8 (some ((q0.2 97 x1.toNatClampNeg), q0.2))))) := by
  refine (r_iload_n L_188_0 rfl).trans ?_
  refine (r_iconst L_188_1 ki_0).trans ?_
  refine (r_bipush L_188_2 kb_7).trans ?_
  refine (r_callS L_188_3 rfl isI_137 rfl).trans ?_
  refine bi_c (fun q0 => ?_)
  refine (r_ifeq L_188_4).trans ?_
  refine it_c ?_ ?_
  · refine (r_iload_n L_188_10 rfl).trans ?_
    refine (r_bipush L_188_11 kb_8).trans ?_
    refine (r_bipush L_188_12 kb_11).trans ?_
    refine (r_callS L_188_13 rfl isI_137 rfl).trans ?_
    refine bi_c (fun q2 => ?_)
    refine (r_ifeq L_188_14).trans ?_
    refine it_c ?_ ?_
    · refine (r_sipush L_188_27 ks_m1001).trans ?_
      exact r_ret L_188_28 mz_188
    · refine (r_aload_n L_188_15 rfl).trans ?_
      refine (r_getfi L_188_16 gf_64_48).trans ?_
      refine (r_ifeq L_188_17).trans ?_
      refine it_c ?_ ?_
      · refine (r_aload_n L_188_20 rfl).trans ?_
        refine (r_getfr L_188_21 gf_64_47).trans ?_
        refine (r_iload_n L_188_22 rfl).trans ?_
        refine (r_bipush L_188_23 kb_8).trans ?_
        refine (r_isub L_188_24).trans ?_
        refine (r_iald L_188_25 ar_98).trans ?_
        refine ck_c ?_
        refine (r_goto L_188_26).trans ?_
        exact r_ret L_188_28 mz_188
      · refine (r_iconst L_188_18 ki_m1).trans ?_
        refine (r_goto L_188_19).trans ?_
        exact r_ret L_188_28 mz_188
  · refine (r_aload_n L_188_5 rfl).trans ?_
    refine (r_getfr L_188_6 gf_64_46).trans ?_
    refine (r_iload_n L_188_7 rfl).trans ?_
    refine (r_iald L_188_8 ar_97).trans ?_
    refine ck_c ?_
    refine (r_goto L_188_9).trans ?_
    exact r_ret L_188_28 mz_188
set_option maxRecDepth 100000 in
set_option maxHeartbeats 4000000 in
theorem q_M_told_64 (ρ : Nat × (Nat → Int32)) (σ : rd_Sg) (x1 : Int32) : rd_R ρ 189 0 [some (.ref 64), some (.int x1)] [] σ = ((rd_R ρ 137 0 [some (.int x1), some (.int 0), some (.int ((σ 64 50) - 1))] [] σ).bind fun q0 => (if q0.1 = 0 then some (((-1001) : Int32), q0.2) else (rd_chk x1 100 (some ((q0.2 99 x1.toNatClampNeg), q0.2))))) := by
  refine (r_iload_n L_189_0 rfl).trans ?_
  refine (r_iconst L_189_1 ki_0).trans ?_
  refine (r_aload_n L_189_2 rfl).trans ?_
  refine (r_getfi L_189_3 gf_64_50).trans ?_
  refine (r_iconst L_189_4 ki_1).trans ?_
  refine (r_isub L_189_5).trans ?_
  refine (r_callS L_189_6 rfl isI_137 rfl).trans ?_
  refine bi_c (fun q0 => ?_)
  refine (r_ifeq L_189_7).trans ?_
  refine it_c ?_ ?_
  · refine (r_sipush L_189_13 ks_m1001).trans ?_
    exact r_ret L_189_14 mz_189
  · refine (r_aload_n L_189_8 rfl).trans ?_
    refine (r_getfr L_189_9 gf_64_51).trans ?_
    refine (r_iload_n L_189_10 rfl).trans ?_
    refine (r_iald L_189_11 ar_99).trans ?_
    refine ck_c ?_
    refine (r_goto L_189_12).trans ?_
    exact r_ret L_189_14 mz_189
set_option maxRecDepth 100000 in
set_option maxHeartbeats 4000000 in
theorem q_M_count_64 (ρ : Nat × (Nat → Int32)) (σ : rd_Sg) (x1 : Int32) : rd_R ρ 190 0 [some (.ref 64), some (.int x1)] [] σ = (if x1 = 0 then some ((σ 64 0), σ) else (if x1 = 1 then some ((σ 64 7), σ) else (if x1 = 2 then some ((σ 64 16), σ) else (if x1 = 3 then some ((σ 64 23), σ) else (if x1 = 4 then some ((σ 64 24), σ) else (if x1 = 5 then some ((σ 64 32), σ) else (if x1 = 6 then some ((σ 64 35), σ) else (if x1 = 7 then some ((σ 64 41), σ) else (if x1 = 8 then some ((σ 64 49), σ) else (if x1 = 9 then some ((σ 64 50), σ) else ((rd_R ρ 137 0 [some (.int x1), some (.int 10), some (.int (9 + (σ 64 0)))] [] σ).bind fun q1 => (if q1.1 = 0 then some (((-1) : Int32), q1.2) else (rd_chk (x1 - 10) 12 (some ((q1.2 66 (x1 - 10).toNatClampNeg), q1.2))))))))))))))) := by
  refine (r_iload_n L_190_0 rfl).trans ?_
  refine (r_tsw L_190_1).trans ?_
  refine (r_swc ki_0 rfl).trans ?_
  refine it_c ?_ ?_
  · refine (r_aload_n L_190_2 rfl).trans ?_
    refine (r_getfi L_190_3 gf_64_0).trans ?_
    exact r_ret L_190_4 mz_190
  · refine (r_swc ki_1 rfl).trans ?_
    refine it_c ?_ ?_
    · refine (r_aload_n L_190_5 rfl).trans ?_
      refine (r_getfi L_190_6 gf_64_7).trans ?_
      exact r_ret L_190_7 mz_190
    · refine (r_swc ki_2 rfl).trans ?_
      refine it_c ?_ ?_
      · refine (r_aload_n L_190_8 rfl).trans ?_
        refine (r_getfi L_190_9 gf_64_16).trans ?_
        exact r_ret L_190_10 mz_190
      · refine (r_swc ki_3 rfl).trans ?_
        refine it_c ?_ ?_
        · refine (r_aload_n L_190_11 rfl).trans ?_
          refine (r_getfi L_190_12 gf_64_23).trans ?_
          exact r_ret L_190_13 mz_190
        · refine (r_swc ki_4 rfl).trans ?_
          refine it_c ?_ ?_
          · refine (r_aload_n L_190_14 rfl).trans ?_
            refine (r_getfi L_190_15 gf_64_24).trans ?_
            exact r_ret L_190_16 mz_190
          · refine (r_swc ki_5 rfl).trans ?_
            refine it_c ?_ ?_
            · refine (r_aload_n L_190_17 rfl).trans ?_
              refine (r_getfi L_190_18 gf_64_32).trans ?_
              exact r_ret L_190_19 mz_190
            · refine (r_swc ki_6 rfl).trans ?_
              refine it_c ?_ ?_
              · refine (r_aload_n L_190_20 rfl).trans ?_
                refine (r_getfi L_190_21 gf_64_35).trans ?_
                exact r_ret L_190_22 mz_190
              · refine (r_swc ki_7 rfl).trans ?_
                refine it_c ?_ ?_
                · refine (r_aload_n L_190_23 rfl).trans ?_
                  refine (r_getfi L_190_24 gf_64_41).trans ?_
                  exact r_ret L_190_25 mz_190
                · refine (r_swc ki_8 rfl).trans ?_
                  refine it_c ?_ ?_
                  · refine (r_aload_n L_190_26 rfl).trans ?_
                    refine (r_getfi L_190_27 gf_64_49).trans ?_
                    exact r_ret L_190_28 mz_190
                  · refine (r_swc ki_9 rfl).trans ?_
                    refine it_c ?_ ?_
                    · refine (r_aload_n L_190_29 rfl).trans ?_
                      refine (r_getfi L_190_30 gf_64_50).trans ?_
                      exact r_ret L_190_31 mz_190
                    · refine (r_swn).trans ?_
                      refine (r_iload_n L_190_32 rfl).trans ?_
                      refine (r_bipush L_190_33 kb_10).trans ?_
                      refine (r_bipush L_190_34 kb_9).trans ?_
                      refine (r_aload_n L_190_35 rfl).trans ?_
                      refine (r_getfi L_190_36 gf_64_0).trans ?_
                      refine (r_iadd L_190_37).trans ?_
                      refine (r_callS L_190_38 rfl isI_137 rfl).trans ?_
                      refine bi_c (fun q1 => ?_)
                      refine (r_ifeq L_190_39).trans ?_
                      refine it_c ?_ ?_
                      · refine (r_iconst L_190_47 ki_m1).trans ?_
                        exact r_ret L_190_48 mz_190
                      · refine (r_aload_n L_190_40 rfl).trans ?_
                        refine (r_getfr L_190_41 gf_64_2).trans ?_
                        refine (r_iload_n L_190_42 rfl).trans ?_
                        refine (r_bipush L_190_43 kb_10).trans ?_
                        refine (r_isub L_190_44).trans ?_
                        refine (r_iald L_190_45 ar_66).trans ?_
                        refine ck_c ?_
                        refine (r_goto L_190_46).trans ?_
                        exact r_ret L_190_48 mz_190
set_option maxRecDepth 100000 in
set_option maxHeartbeats 4000000 in
theorem q_M_forget_64 (ρ : Nat × (Nat → Int32)) (σ : rd_Sg) : rd_R ρ 191 0 [some (.ref 64), none, none] [] σ = rd_R ρ 191 14 [some (.ref 64), some (.int (σ 64 23)), some (.int 0)] [] (rd_u (rd_u (rd_u σ 64 23 0) 64 24 0) 64 50 0) := by
  refine (r_aload_n L_191_0 rfl).trans ?_
  refine (r_getfi L_191_1 gf_64_23).trans ?_
  refine (r_istore_n L_191_2 rfl).trans ?_
  refine (r_aload_n L_191_3 rfl).trans ?_
  refine (r_iconst L_191_4 ki_0).trans ?_
  refine (r_putfi L_191_5 gf_64_23).trans ?_
  refine (r_aload_n L_191_6 rfl).trans ?_
  refine (r_iconst L_191_7 ki_0).trans ?_
  refine (r_putfi L_191_8 gf_64_24).trans ?_
  refine (r_aload_n L_191_9 rfl).trans ?_
  refine (r_iconst L_191_10 ki_0).trans ?_
  refine (r_putfi L_191_11 gf_64_50).trans ?_
  refine (r_iconst L_191_12 ki_0).trans ?_
  refine (r_istore_n L_191_13 rfl).trans ?_
  rfl
set_option maxRecDepth 100000 in
set_option maxHeartbeats 4000000 in
theorem q_M_forget_64_at14 (ρ : Nat × (Nat → Int32)) (σ : rd_Sg) (x1 x2 : Int32) : rd_R ρ 191 14 [some (.ref 64), some (.int x1), some (.int x2)] [] σ = (if x2 < 240 then (rd_chk x2 240 (rd_R ρ 191 14 [some (.ref 64), some (.int x1), some (.int (x2 + 1))] [] (rd_u σ 83 x2.toNatClampNeg (0 &&& 1)))) else rd_R ρ 191 26 [some (.ref 64), some (.int x1), some (.int 0)] [] σ) := by
  refine (r_iload_n L_191_14 rfl).trans ?_
  refine (r_sipush L_191_15 ks_240).trans ?_
  refine (r_cmpge L_191_16).trans ?_
  refine it_c ?_ ?_
  · refine (r_aload_n L_191_17 rfl).trans ?_
    refine (r_getfr L_191_18 gf_64_21).trans ?_
    refine (r_iload_n L_191_19 rfl).trans ?_
    refine (r_iconst L_191_20 ki_0).trans ?_
    refine (r_zast L_191_21 ar_83).trans ?_
    refine ck_c ?_
    refine (r_iinc L_191_22 rfl ki_1 rfl).trans ?_
    refine (r_goto L_191_23).trans ?_
    rfl
  · refine (r_iconst L_191_24 ki_0).trans ?_
    refine (r_istore_n L_191_25 rfl).trans ?_
    rfl
set_option maxRecDepth 100000 in
set_option maxHeartbeats 4000000 in
theorem q_M_forget_64_at26 (ρ : Nat × (Nat → Int32)) (σ : rd_Sg) (x1 x2 : Int32) : rd_R ρ 191 26 [some (.ref 64), some (.int x1), some (.int x2)] [] σ = (if x2 < 80 then (rd_chk x2 80 (rd_R ρ 191 26 [some (.ref 64), some (.int x1), some (.int (x2 + 1))] [] (rd_u σ 82 x2.toNatClampNeg 0))) else rd_R ρ 191 38 [some (.ref 64), some (.int x1), some (.int 0)] [] σ) := by
  refine (r_iload_n L_191_26 rfl).trans ?_
  refine (r_bipush L_191_27 kb_80).trans ?_
  refine (r_cmpge L_191_28).trans ?_
  refine it_c ?_ ?_
  · refine (r_aload_n L_191_29 rfl).trans ?_
    refine (r_getfr L_191_30 gf_64_20).trans ?_
    refine (r_iload_n L_191_31 rfl).trans ?_
    refine (r_iconst L_191_32 ki_0).trans ?_
    refine (r_iast L_191_33 ar_82).trans ?_
    refine ck_c ?_
    refine (r_iinc L_191_34 rfl ki_1 rfl).trans ?_
    refine (r_goto L_191_35).trans ?_
    rfl
  · refine (r_iconst L_191_36 ki_0).trans ?_
    refine (r_istore_n L_191_37 rfl).trans ?_
    rfl
set_option maxRecDepth 100000 in
set_option maxHeartbeats 4000000 in
theorem q_M_forget_64_at38 (ρ : Nat × (Nat → Int32)) (σ : rd_Sg) (x1 x2 : Int32) : rd_R ρ 191 38 [some (.ref 64), some (.int x1), some (.int x2)] [] σ = (if x2 < 6 then (rd_chk x2 6 (rd_R ρ 191 38 [some (.ref 64), some (.int x1), some (.int (x2 + 1))] [] (rd_u σ 73 x2.toNatClampNeg 0))) else some (x1, σ)) := by
  refine (r_iload_n L_191_38 rfl).trans ?_
  refine (r_bipush L_191_39 kb_6).trans ?_
  refine (r_cmpge L_191_40).trans ?_
  refine it_c ?_ ?_
  · refine (r_aload_n L_191_41 rfl).trans ?_
    refine (r_getfr L_191_42 gf_64_10).trans ?_
    refine (r_iload_n L_191_43 rfl).trans ?_
    refine (r_iconst L_191_44 ki_0).trans ?_
    refine (r_iast L_191_45 ar_73).trans ?_
    refine ck_c ?_
    refine (r_iinc L_191_46 rfl ki_1 rfl).trans ?_
    refine (r_goto L_191_47).trans ?_
    rfl
  · refine (r_iload_n L_191_48 rfl).trans ?_
    exact r_ret L_191_49 mz_191
set_option maxRecDepth 100000 in
set_option maxHeartbeats 4000000 in
theorem q_M_in (ρ : Nat × (Nat → Int32)) (σ : rd_Sg) (x0 x1 x2 : Int32) : rd_R ρ 137 0 [some (.int x0), some (.int x1), some (.int x2)] [] σ = (if x0 < x1 then some (0, σ) else (if x2 < x0 then some (0, σ) else some (1, σ))) := by
  refine (r_iload_n L_137_0 rfl).trans ?_
  refine (r_iload_n L_137_1 rfl).trans ?_
  refine (r_cmplt L_137_2).trans ?_
  refine it_c ?_ ?_
  · refine (r_iconst L_137_8 ki_0).trans ?_
    exact r_ret0 L_137_9 mz_137
  · refine (r_iload_n L_137_3 rfl).trans ?_
    refine (r_iload_n L_137_4 rfl).trans ?_
    refine (r_cmpgt L_137_5).trans ?_
    refine it_c ?_ ?_
    · refine (r_iconst L_137_8 ki_0).trans ?_
      exact r_ret0 L_137_9 mz_137
    · refine (r_iconst L_137_6 ki_1).trans ?_
      refine (r_goto L_137_7).trans ?_
      exact r_ret1 L_137_9 mz_137
set_option maxRecDepth 100000 in
set_option maxHeartbeats 4000000 in
theorem q_M_isBelow_64 (ρ : Nat × (Nat → Int32)) (σ : rd_Sg) (x1 x2 : Int32) : rd_R ρ 139 0 [some (.ref 64), some (.int x1), some (.int x2), none] [] σ = rd_R ρ 139 2 [some (.ref 64), some (.int x1), some (.int x2), some (.int x1)] [] σ := by
  refine (r_iload_n L_139_0 rfl).trans ?_
  refine (r_istore_n L_139_1 rfl).trans ?_
  rfl
set_option maxRecDepth 100000 in
set_option maxHeartbeats 4000000 in
theorem q_M_isBelow_64_at2 (ρ : Nat × (Nat → Int32)) (σ : rd_Sg) (x2 x3 : Int32) (o1 : Option Value) : rd_R ρ 139 2 [some (.ref 64), o1, some (.int x2), some (.int x3)] [] σ = (if x3 < 0 then (if x3 < 0 then some (0, σ) else some (1, σ)) else (if x3 = x2 then (if x3 < 0 then some (0, σ) else some (1, σ)) else (rd_chk x3 12 (rd_R ρ 139 2 [some (.ref 64), o1, some (.int x2), some (.int (σ 65 x3.toNatClampNeg))] [] σ)))) := by
  refine (r_iload_n L_139_2 rfl).trans ?_
  refine (r_iflt L_139_3).trans ?_
  refine it_c ?_ ?_
  · refine (r_iload_n L_139_13 rfl).trans ?_
    refine (r_iflt L_139_14).trans ?_
    refine it_c ?_ ?_
    · refine (r_iconst L_139_17 ki_0).trans ?_
      exact r_ret0 L_139_18 mz_139
    · refine (r_iconst L_139_15 ki_1).trans ?_
      refine (r_goto L_139_16).trans ?_
      exact r_ret1 L_139_18 mz_139
  · refine (r_iload_n L_139_4 rfl).trans ?_
    refine (r_iload_n L_139_5 rfl).trans ?_
    refine (r_cmpeq L_139_6).trans ?_
    refine it_c ?_ ?_
    · refine (r_iload_n L_139_13 rfl).trans ?_
      refine (r_iflt L_139_14).trans ?_
      refine it_c ?_ ?_
      · refine (r_iconst L_139_17 ki_0).trans ?_
        exact r_ret0 L_139_18 mz_139
      · refine (r_iconst L_139_15 ki_1).trans ?_
        refine (r_goto L_139_16).trans ?_
        exact r_ret1 L_139_18 mz_139
    · refine (r_aload_n L_139_7 rfl).trans ?_
      refine (r_getfr L_139_8 gf_64_1).trans ?_
      refine (r_iload_n L_139_9 rfl).trans ?_
      refine (r_iald L_139_10 ar_65).trans ?_
      refine ck_c ?_
      refine (r_istore_n L_139_11 rfl).trans ?_
      refine (r_goto L_139_12).trans ?_
      rfl
set_option maxRecDepth 100000 in
set_option maxHeartbeats 4000000 in
theorem q_M_isStand_64 (ρ : Nat × (Nat → Int32)) (σ : rd_Sg) (x1 : Int32) : rd_R ρ 142 0 [some (.ref 64), some (.int x1)] [] σ = ((rd_R ρ 137 0 [some (.int x1), some (.int 0), some (.int ((σ 64 7) - 1))] [] σ).bind fun q0 => some (q0.1 &&& 1, q0.2)) := by
  refine (r_iload_n L_142_0 rfl).trans ?_
  refine (r_iconst L_142_1 ki_0).trans ?_
  refine (r_aload_n L_142_2 rfl).trans ?_
  refine (r_getfi L_142_3 gf_64_7).trans ?_
  refine (r_iconst L_142_4 ki_1).trans ?_
  refine (r_isub L_142_5).trans ?_
  refine (r_callS L_142_6 rfl isI_137 rfl).trans ?_
  refine bi_c (fun q0 => ?_)
  exact r_retb L_142_7 mz_142
set_option maxRecDepth 100000 in
set_option maxHeartbeats 4000000 in
theorem q_M_isMethod_64 (ρ : Nat × (Nat → Int32)) (σ : rd_Sg) (x1 x2 : Int32) : rd_R ρ 145 0 [some (.ref 64), some (.int x1), some (.int x2)] [] σ = (rd_chk x1 24 ((rd_chk (σ 71 x1.toNatClampNeg) 12 (((rd_R ρ 137 0 [some (.int x2), some (.int 0), some (.int ((σ 66 (σ 71 x1.toNatClampNeg).toNatClampNeg) - 1))] [] σ).bind fun q0 => some (q0.1 &&& 1, q0.2)))))) := by
  refine (r_iload_n L_145_0 rfl).trans ?_
  refine (r_iconst L_145_1 ki_0).trans ?_
  refine (r_aload_n L_145_2 rfl).trans ?_
  refine (r_getfr L_145_3 gf_64_2).trans ?_
  refine (r_aload_n L_145_4 rfl).trans ?_
  refine (r_getfr L_145_5 gf_64_8).trans ?_
  refine (r_iload_n L_145_6 rfl).trans ?_
  refine (r_iald L_145_7 ar_71).trans ?_
  refine ck_c ?_
  refine (r_iald L_145_8 ar_66).trans ?_
  refine ck_c ?_
  refine (r_iconst L_145_9 ki_1).trans ?_
  refine (r_isub L_145_10).trans ?_
  refine (r_callS L_145_11 rfl isI_137 rfl).trans ?_
  refine bi_c (fun q0 => ?_)
  exact r_retb L_145_12 mz_145
set_option maxRecDepth 100000 in
set_option maxHeartbeats 4000000 in
theorem q_M_begin_64 (ρ : Nat × (Nat → Int32)) (σ : rd_Sg) (x1 x2 x3 : Int32) : rd_R ρ 148 0 [some (.ref 64), some (.int x1), some (.int x2), some (.int x3), none] [] σ = (rd_chk x1 120 ((rd_chk x1 120 (rd_R ρ 148 12 [some (.ref 64), some (.int x1), some (.int x2), some (.int x3), some (.int 0)] [] (rd_u (rd_u σ 74 x1.toNatClampNeg x2) 75 x1.toNatClampNeg x3))))) := by
  refine (r_aload_n L_148_0 rfl).trans ?_
  refine (r_getfr L_148_1 gf_64_11).trans ?_
  refine (r_iload_n L_148_2 rfl).trans ?_
  refine (r_iload_n L_148_3 rfl).trans ?_
  refine (r_iast L_148_4 ar_74).trans ?_
  refine ck_c ?_
  refine (r_aload_n L_148_5 rfl).trans ?_
  refine (r_getfr L_148_6 gf_64_12).trans ?_
  refine (r_iload_n L_148_7 rfl).trans ?_
  refine (r_iload_n L_148_8 rfl).trans ?_
  refine (r_iast L_148_9 ar_75).trans ?_
  refine ck_c ?_
  refine (r_iconst L_148_10 ki_0).trans ?_
  refine (r_istore L_148_11 rfl).trans ?_
  rfl
set_option maxRecDepth 100000 in
set_option maxHeartbeats 4000000 in
theorem q_M_begin_64_at12 (ρ : Nat × (Nat → Int32)) (σ : rd_Sg) (x1 x4 : Int32) (o2 o3 : Option Value) : rd_R ρ 148 12 [some (.ref 64), some (.int x1), o2, o3, some (.int x4)] [] σ = (if x4 < 3 then (rd_chk ((3 * x1) + x4) 360 (rd_R ρ 148 12 [some (.ref 64), some (.int x1), o2, o3, some (.int (x4 + 1))] [] (rd_u σ 76 ((3 * x1) + x4).toNatClampNeg 0))) else some (0, σ)) := by
  refine (r_iload L_148_12 rfl).trans ?_
  refine (r_iconst L_148_13 ki_3).trans ?_
  refine (r_cmpge L_148_14).trans ?_
  refine it_c ?_ ?_
  · refine (r_aload_n L_148_15 rfl).trans ?_
    refine (r_getfr L_148_16 gf_64_13).trans ?_
    refine (r_iconst L_148_17 ki_3).trans ?_
    refine (r_iload_n L_148_18 rfl).trans ?_
    refine (r_imul L_148_19).trans ?_
    refine (r_iload L_148_20 rfl).trans ?_
    refine (r_iadd L_148_21).trans ?_
    refine (r_iconst L_148_22 ki_0).trans ?_
    refine (r_iast L_148_23 ar_76).trans ?_
    refine ck_c ?_
    refine (r_iinc L_148_24 rfl ki_1 rfl).trans ?_
    refine (r_goto L_148_25).trans ?_
    rfl
  · exact r_retv L_148_26
set_option maxRecDepth 100000 in
set_option maxHeartbeats 4000000 in
theorem q_M_isRule_64 (ρ : Nat × (Nat → Int32)) (σ : rd_Sg) (x1 : Int32) : rd_R ρ 152 0 [some (.ref 64), some (.int x1)] [] σ = ((rd_R ρ 137 0 [some (.int x1), some (.int 0), some (.int ((σ 64 16) - 1))] [] σ).bind fun q0 => some (q0.1 &&& 1, q0.2)) := by
  refine (r_iload_n L_152_0 rfl).trans ?_
  refine (r_iconst L_152_1 ki_0).trans ?_
  refine (r_aload_n L_152_2 rfl).trans ?_
  refine (r_getfi L_152_3 gf_64_16).trans ?_
  refine (r_iconst L_152_4 ki_1).trans ?_
  refine (r_isub L_152_5).trans ?_
  refine (r_callS L_152_6 rfl isI_137 rfl).trans ?_
  refine bi_c (fun q0 => ?_)
  exact r_retb L_152_7 mz_152
set_option maxRecDepth 100000 in
set_option maxHeartbeats 4000000 in
theorem q_M_putCondition_64 (ρ : Nat × (Nat → Int32)) (σ : rd_Sg) (x1 x2 x3 x4 x5 : Int32) : rd_R ρ 149 0 [some (.ref 64), some (.int x1), some (.int x2), some (.int x3), some (.int x4), some (.int x5), none, none] [] σ = (rd_chk x1 120 ((rd_chk x1 120 (((rd_R ρ 146 0 [some (.ref 64), some (.int (σ 74 x1.toNatClampNeg)), some (.int (σ 75 x1.toNatClampNeg))] [] σ).bind fun q0 => (rd_chk q0.1 96 (((rd_R ρ 137 0 [some (.int x2), some (.int 0), some (.int ((q0.2 67 (q0.1).toNatClampNeg) - 1))] [] q0.2).bind fun q1 => (if q1.1 = 0 then some (((-1) : Int32), q1.2) else ((rd_R ρ 137 0 [some (.int x3), some (.int 0), some (.int 6)] [] q1.2).bind fun q3 => (if q3.1 = 0 then some (((-1) : Int32), q3.2) else (rd_chk x1 120 (((rd_R ρ 147 0 [some (.ref 64), some (.int (σ 74 x1.toNatClampNeg)), some (.int (q3.2 75 x1.toNatClampNeg)), some (.int x2)] [] q3.2).bind fun q5 => (if q5.1 = 0 then (if x3 = 4 then some (((-1) : Int32), q5.2) else (if x3 = 5 then some (((-1) : Int32), q5.2) else rd_R ρ 149 51 [some (.ref 64), some (.int x1), some (.int x2), some (.int x3), some (.int x4), some (.int x5), some (.int (σ 74 x1.toNatClampNeg)), some (.int q5.1)] [] q5.2)) else (if x3 = 2 then some (((-1) : Int32), q5.2) else rd_R ρ 149 51 [some (.ref 64), some (.int x1), some (.int x2), some (.int x3), some (.int x4), some (.int x5), some (.int (σ 74 x1.toNatClampNeg)), some (.int q5.1)] [] q5.2)))))))))))))))) := by
  refine (r_aload_n L_149_0 rfl).trans ?_
  refine (r_getfr L_149_1 gf_64_11).trans ?_
  refine (r_iload_n L_149_2 rfl).trans ?_
  refine (r_iald L_149_3 ar_74).trans ?_
  refine ck_c ?_
  refine (r_istore L_149_4 rfl).trans ?_
  refine (r_iload_n L_149_5 rfl).trans ?_
  refine (r_iconst L_149_6 ki_0).trans ?_
  refine (r_aload_n L_149_7 rfl).trans ?_
  refine (r_getfr L_149_8 gf_64_3).trans ?_
  refine (r_aload_n L_149_9 rfl).trans ?_
  refine (r_iload L_149_10 rfl).trans ?_
  refine (r_aload_n L_149_11 rfl).trans ?_
  refine (r_getfr L_149_12 gf_64_12).trans ?_
  refine (r_iload_n L_149_13 rfl).trans ?_
  refine (r_iald L_149_14 ar_75).trans ?_
  refine ck_c ?_
  refine (r_callV L_149_15 rfl isI_146 rfl).trans ?_
  refine bi_c (fun q0 => ?_)
  refine (r_iald L_149_16 ar_67).trans ?_
  refine ck_c ?_
  refine (r_iconst L_149_17 ki_1).trans ?_
  refine (r_isub L_149_18).trans ?_
  refine (r_callS L_149_19 rfl isI_137 rfl).trans ?_
  refine bi_c (fun q1 => ?_)
  refine (r_ifeq L_149_20).trans ?_
  refine it_c ?_ ?_
  · refine (r_iconst L_149_26 ki_m1).trans ?_
    exact r_ret L_149_27 mz_149
  · refine (r_iload_n L_149_21 rfl).trans ?_
    refine (r_iconst L_149_22 ki_0).trans ?_
    refine (r_bipush L_149_23 kb_6).trans ?_
    refine (r_callS L_149_24 rfl isI_137 rfl).trans ?_
    refine bi_c (fun q3 => ?_)
    refine (r_ifne L_149_25).trans ?_
    refine it_c ?_ ?_
    · refine (r_iconst L_149_26 ki_m1).trans ?_
      exact r_ret L_149_27 mz_149
    · refine (r_aload_n L_149_28 rfl).trans ?_
      refine (r_iload L_149_29 rfl).trans ?_
      refine (r_aload_n L_149_30 rfl).trans ?_
      refine (r_getfr L_149_31 gf_64_12).trans ?_
      refine (r_iload_n L_149_32 rfl).trans ?_
      refine (r_iald L_149_33 ar_75).trans ?_
      refine ck_c ?_
      refine (r_iload_n L_149_34 rfl).trans ?_
      refine (r_callV L_149_35 rfl isI_147 rfl).trans ?_
      refine bi_c (fun q5 => ?_)
      refine (r_istore L_149_36 rfl).trans ?_
      refine (r_iload L_149_37 rfl).trans ?_
      refine (r_ifeq L_149_38).trans ?_
      refine it_c ?_ ?_
      · refine (r_iload_n L_149_43 rfl).trans ?_
        refine (r_iconst L_149_44 ki_4).trans ?_
        refine (r_cmpeq L_149_45).trans ?_
        refine it_c ?_ ?_
        · refine (r_iconst L_149_49 ki_m1).trans ?_
          exact r_ret L_149_50 mz_149
        · refine (r_iload_n L_149_46 rfl).trans ?_
          refine (r_iconst L_149_47 ki_5).trans ?_
          refine (r_cmpne L_149_48).trans ?_
          refine it_c ?_ ?_
          · refine (r_iconst L_149_49 ki_m1).trans ?_
            exact r_ret L_149_50 mz_149
          · rfl
      · refine (r_iload_n L_149_39 rfl).trans ?_
        refine (r_iconst L_149_40 ki_2).trans ?_
        refine (r_cmpne L_149_41).trans ?_
        refine it_c ?_ ?_
        · refine (r_goto L_149_42).trans ?_
          refine (r_iconst L_149_49 ki_m1).trans ?_
          exact r_ret L_149_50 mz_149
        · rfl
set_option maxRecDepth 100000 in
set_option maxHeartbeats 4000000 in
theorem q_M_putCondition_64_at51 (ρ : Nat × (Nat → Int32)) (σ : rd_Sg) (x1 x2 x3 x4 x5 x7 : Int32) (o6 : Option Value) : rd_R ρ 149 51 [some (.ref 64), some (.int x1), some (.int x2), some (.int x3), some (.int x4), some (.int x5), o6, some (.int x7)] [] σ = (if x7 = 0 then rd_R ρ 149 63 [some (.ref 64), some (.int x1), some (.int x2), some (.int x3), some (.int x4), some (.int x5), o6, some (.int x7)] [] σ else (if x3 = 1 then rd_R ρ 149 59 [some (.ref 64), some (.int x1), some (.int x2), some (.int x3), some (.int x4), some (.int x5), o6, some (.int x7)] [] σ else (if x3 = 3 then rd_R ρ 149 59 [some (.ref 64), some (.int x1), some (.int x2), some (.int x3), some (.int x4), some (.int x5), o6, some (.int x7)] [] σ else rd_R ρ 149 63 [some (.ref 64), some (.int x1), some (.int x2), some (.int x3), some (.int x4), some (.int x5), o6, some (.int x7)] [] σ))) := by
  refine (r_iload L_149_51 rfl).trans ?_
  refine (r_ifeq L_149_52).trans ?_
  refine it_c ?_ ?_
  · rfl
  · refine (r_iload_n L_149_53 rfl).trans ?_
    refine (r_iconst L_149_54 ki_1).trans ?_
    refine (r_cmpeq L_149_55).trans ?_
    refine it_c ?_ ?_
    · rfl
    · refine (r_iload_n L_149_56 rfl).trans ?_
      refine (r_iconst L_149_57 ki_3).trans ?_
      refine (r_cmpne L_149_58).trans ?_
      refine it_c ?_ ?_
      · rfl
      · rfl
set_option maxRecDepth 100000 in
set_option maxHeartbeats 4000000 in
theorem q_M_putCondition_64_at59 (ρ : Nat × (Nat → Int32)) (σ : rd_Sg) (x1 x2 x3 x4 x5 : Int32) (o6 o7 : Option Value) : rd_R ρ 149 59 [some (.ref 64), some (.int x1), some (.int x2), some (.int x3), some (.int x4), some (.int x5), o6, o7] [] σ = ((rd_R ρ 142 0 [some (.ref 64), some (.int x4)] [] σ).bind fun q0 => (if q0.1 = 0 then some (((-1) : Int32), q0.2) else rd_R ρ 149 63 [some (.ref 64), some (.int x1), some (.int x2), some (.int x3), some (.int x4), some (.int x5), o6, o7] [] q0.2)) := by
  refine (r_aload_n L_149_59 rfl).trans ?_
  refine (r_iload L_149_60 rfl).trans ?_
  refine (r_callV L_149_61 rfl isI_142 rfl).trans ?_
  refine bi_c (fun q0 => ?_)
  refine (r_ifeq L_149_62).trans ?_
  refine it_c ?_ ?_
  · refine (r_iconst L_149_74 ki_m1).trans ?_
    exact r_ret L_149_75 mz_149
  · rfl
set_option maxRecDepth 100000 in
set_option maxHeartbeats 4000000 in
theorem q_M_putCondition_64_at63 (ρ : Nat × (Nat → Int32)) (σ : rd_Sg) (x1 x2 x3 x4 x5 : Int32) (o6 o7 : Option Value) : rd_R ρ 149 63 [some (.ref 64), some (.int x1), some (.int x2), some (.int x3), some (.int x4), some (.int x5), o6, o7] [] σ = (if x3 = 4 then ((rd_R ρ 137 0 [some (.int x4), some (.int 0), some (.int ((σ 64 0) - 1))] [] σ).bind fun q1 => (if q1.1 = 0 then some (((-1) : Int32), q1.2) else rd_R ρ 149 76 [some (.ref 64), some (.int x1), some (.int x2), some (.int x3), some (.int x4), some (.int x5), o6, o7] [] q1.2)) else rd_R ρ 149 76 [some (.ref 64), some (.int x1), some (.int x2), some (.int x3), some (.int x4), some (.int x5), o6, o7] [] σ) := by
  refine (r_iload_n L_149_63 rfl).trans ?_
  refine (r_iconst L_149_64 ki_4).trans ?_
  refine (r_cmpne L_149_65).trans ?_
  refine it_c ?_ ?_
  · refine (r_iload L_149_66 rfl).trans ?_
    refine (r_iconst L_149_67 ki_0).trans ?_
    refine (r_aload_n L_149_68 rfl).trans ?_
    refine (r_getfi L_149_69 gf_64_0).trans ?_
    refine (r_iconst L_149_70 ki_1).trans ?_
    refine (r_isub L_149_71).trans ?_
    refine (r_callS L_149_72 rfl isI_137 rfl).trans ?_
    refine bi_c (fun q1 => ?_)
    refine (r_ifne L_149_73).trans ?_
    refine it_c ?_ ?_
    · refine (r_iconst L_149_74 ki_m1).trans ?_
      exact r_ret L_149_75 mz_149
    · rfl
  · rfl
set_option maxRecDepth 100000 in
set_option maxHeartbeats 4000000 in
theorem q_M_putCondition_64_at76 (ρ : Nat × (Nat → Int32)) (σ : rd_Sg) (x1 x2 x3 x4 x5 : Int32) (o6 o7 : Option Value) : rd_R ρ 149 76 [some (.ref 64), some (.int x1), some (.int x2), some (.int x3), some (.int x4), some (.int x5), o6, o7] [] σ = (rd_chk ((3 * x1) + x2) 360 ((rd_chk ((3 * x1) + x2) 360 ((rd_chk ((3 * x1) + x2) 360 (some ((1 : Int32), (rd_u (rd_u (rd_u σ 76 ((3 * x1) + x2).toNatClampNeg x3) 77 ((3 * x1) + x2).toNatClampNeg x4) 78 ((3 * x1) + x2).toNatClampNeg x5)))))))) := by
  refine (r_aload_n L_149_76 rfl).trans ?_
  refine (r_getfr L_149_77 gf_64_13).trans ?_
  refine (r_iconst L_149_78 ki_3).trans ?_
  refine (r_iload_n L_149_79 rfl).trans ?_
  refine (r_imul L_149_80).trans ?_
  refine (r_iload_n L_149_81 rfl).trans ?_
  refine (r_iadd L_149_82).trans ?_
  refine (r_iload_n L_149_83 rfl).trans ?_
  refine (r_iast L_149_84 ar_76).trans ?_
  refine ck_c ?_
  refine (r_aload_n L_149_85 rfl).trans ?_
  refine (r_getfr L_149_86 gf_64_14).trans ?_
  refine (r_iconst L_149_87 ki_3).trans ?_
  refine (r_iload_n L_149_88 rfl).trans ?_
  refine (r_imul L_149_89).trans ?_
  refine (r_iload_n L_149_90 rfl).trans ?_
  refine (r_iadd L_149_91).trans ?_
  refine (r_iload L_149_92 rfl).trans ?_
  refine (r_iast L_149_93 ar_77).trans ?_
  refine ck_c ?_
  refine (r_aload_n L_149_94 rfl).trans ?_
  refine (r_getfr L_149_95 gf_64_15).trans ?_
  refine (r_iconst L_149_96 ki_3).trans ?_
  refine (r_iload_n L_149_97 rfl).trans ?_
  refine (r_imul L_149_98).trans ?_
  refine (r_iload_n L_149_99 rfl).trans ?_
  refine (r_iadd L_149_100).trans ?_
  refine (r_iload L_149_101 rfl).trans ?_
  refine (r_iast L_149_102 ar_78).trans ?_
  refine ck_c ?_
  refine (r_iconst L_149_103 ki_1).trans ?_
  exact r_ret L_149_104 mz_149
set_option maxRecDepth 100000 in
set_option maxHeartbeats 4000000 in
theorem q_M_methodAt_64 (ρ : Nat × (Nat → Int32)) (σ : rd_Sg) (x1 x2 : Int32) : rd_R ρ 146 0 [some (.ref 64), some (.int x1), some (.int x2)] [] σ = (rd_chk x1 24 (some (((8 * (σ 71 x1.toNatClampNeg)) + x2), σ))) := by
  refine (r_bipush L_146_0 kb_8).trans ?_
  refine (r_aload_n L_146_1 rfl).trans ?_
  refine (r_getfr L_146_2 gf_64_8).trans ?_
  refine (r_iload_n L_146_3 rfl).trans ?_
  refine (r_iald L_146_4 ar_71).trans ?_
  refine ck_c ?_
  refine (r_imul L_146_5).trans ?_
  refine (r_iload_n L_146_6 rfl).trans ?_
  refine (r_iadd L_146_7).trans ?_
  exact r_ret L_146_8 mz_146
set_option maxRecDepth 100000 in
set_option maxHeartbeats 4000000 in
theorem q_M_mayCome_64 (ρ : Nat × (Nat → Int32)) (σ : rd_Sg) (x1 x2 x3 x4 : Int32) : rd_R ρ 164 0 [some (.ref 64), some (.int x1), some (.int x2), some (.int x3), some (.int x4), none] [] σ = ((rd_R ρ 146 0 [some (.ref 64), some (.int x1), some (.int x2)] [] σ).bind fun q0 => (rd_chk q0.1 96 ((if x3 < (q0.2 67 (q0.1).toNatClampNeg) then (rd_chk q0.1 96 ((if (((q0.2 68 (q0.1).toNatClampNeg) >>> (x3 &&& 31)) &&& 1) = 0 then some (1, q0.2) else ((rd_R ρ 137 0 [some (.int x4), some (.int (-1)), some (.int ((q0.2 64 7) - 1))] [] q0.2).bind fun q3 => (if q3.1 = 0 then some (0, q3.2) else some (1, q3.2)))))) else some (1, q0.2))))) := by
  refine (r_aload_n L_164_0 rfl).trans ?_
  refine (r_iload_n L_164_1 rfl).trans ?_
  refine (r_iload_n L_164_2 rfl).trans ?_
  refine (r_callV L_164_3 rfl isI_146 rfl).trans ?_
  refine bi_c (fun q0 => ?_)
  refine (r_istore L_164_4 rfl).trans ?_
  refine (r_iload_n L_164_5 rfl).trans ?_
  refine (r_aload_n L_164_6 rfl).trans ?_
  refine (r_getfr L_164_7 gf_64_3).trans ?_
  refine (r_iload L_164_8 rfl).trans ?_
  refine (r_iald L_164_9 ar_67).trans ?_
  refine ck_c ?_
  refine (r_cmpge L_164_10).trans ?_
  refine it_c ?_ ?_
  · refine (r_aload_n L_164_11 rfl).trans ?_
    refine (r_getfr L_164_12 gf_64_4).trans ?_
    refine (r_iload L_164_13 rfl).trans ?_
    refine (r_iald L_164_14 ar_68).trans ?_
    refine ck_c ?_
    refine (r_iload_n L_164_15 rfl).trans ?_
    refine (r_ishr L_164_16).trans ?_
    refine (r_iconst L_164_17 ki_1).trans ?_
    refine (r_iand L_164_18).trans ?_
    refine (r_ifeq L_164_19).trans ?_
    refine it_c ?_ ?_
    · refine (r_iconst L_164_28 ki_1).trans ?_
      refine (r_goto L_164_29).trans ?_
      exact r_ret1 L_164_31 mz_164
    · refine (r_iload L_164_20 rfl).trans ?_
      refine (r_iconst L_164_21 ki_m1).trans ?_
      refine (r_aload_n L_164_22 rfl).trans ?_
      refine (r_getfi L_164_23 gf_64_7).trans ?_
      refine (r_iconst L_164_24 ki_1).trans ?_
      refine (r_isub L_164_25).trans ?_
      refine (r_callS L_164_26 rfl isI_137 rfl).trans ?_
      refine bi_c (fun q3 => ?_)
      refine (r_ifeq L_164_27).trans ?_
      refine it_c ?_ ?_
      · refine (r_iconst L_164_30 ki_0).trans ?_
        exact r_ret0 L_164_31 mz_164
      · refine (r_iconst L_164_28 ki_1).trans ?_
        refine (r_goto L_164_29).trans ?_
        exact r_ret1 L_164_31 mz_164
  · refine (r_iconst L_164_28 ki_1).trans ?_
    refine (r_goto L_164_29).trans ?_
    exact r_ret1 L_164_31 mz_164
set_option maxRecDepth 100000 in
set_option maxHeartbeats 4000000 in
theorem q_M_answerCall_64 (ρ : Nat × (Nat → Int32)) (σ : rd_Sg) (x1 x2 x3 x4 x5 : Int32) : rd_R ρ 163 0 [some (.ref 64), some (.int x1), some (.int x2), some (.int x3), some (.int x4), some (.int x5), none, none, none, none, none] [] σ = ((rd_R ρ 146 0 [some (.ref 64), some (.int x1), some (.int x2)] [] σ).bind fun q0 => (rd_chk q0.1 96 (((rd_R ρ 161 0 [some (.ref 64), some (.int x1), some (.int x2), some (.int x3), some (.int x4), some (.int x5), none] [] (rd_u (rd_u (rd_u (rd_u q0.2 64 28 0) 64 29 0) 64 30 (-1)) 64 31 0)).bind fun q1 => (if q1.1 < 0 then ((rd_R ρ 159 0 [some (.ref 64), some (.int q0.1), some (.int x3), some (.int x4), some (.int x5), none, none, none] [] q1.2).bind fun q3 => ((rd_R ρ 160 0 [some (.ref 64), some (.int x1), some (.int q0.1), some (.int q3.1), none, none] [] q3.2).bind fun q4 => rd_R ρ 163 51 [some (.ref 64), some (.int x1), some (.int x2), some (.int x3), some (.int x4), some (.int x5), some (.int q0.1), some (.int (q0.2 67 (q0.1).toNatClampNeg)), some (.int q1.1), none, none] [] q4.2)) else ((rd_R ρ 162 0 [some (.ref 64), some (.int q1.1), some (.int x1), some (.int q0.1), some (.int x3), some (.int x4), some (.int x5), none, none] [] q1.2).bind fun q3 => rd_R ρ 163 51 [some (.ref 64), some (.int x1), some (.int x2), some (.int x3), some (.int x4), some (.int x5), some (.int q0.1), some (.int (q0.2 67 (q0.1).toNatClampNeg)), some (.int q1.1), none, none] [] q3.2)))))) := by
  refine (r_aload_n L_163_0 rfl).trans ?_
  refine (r_iload_n L_163_1 rfl).trans ?_
  refine (r_iload_n L_163_2 rfl).trans ?_
  refine (r_callV L_163_3 rfl isI_146 rfl).trans ?_
  refine bi_c (fun q0 => ?_)
  refine (r_istore L_163_4 rfl).trans ?_
  refine (r_aload_n L_163_5 rfl).trans ?_
  refine (r_getfr L_163_6 gf_64_3).trans ?_
  refine (r_iload L_163_7 rfl).trans ?_
  refine (r_iald L_163_8 ar_67).trans ?_
  refine ck_c ?_
  refine (r_istore L_163_9 rfl).trans ?_
  refine (r_aload_n L_163_10 rfl).trans ?_
  refine (r_iconst L_163_11 ki_0).trans ?_
  refine (r_putfi L_163_12 gf_64_28).trans ?_
  refine (r_aload_n L_163_13 rfl).trans ?_
  refine (r_iconst L_163_14 ki_0).trans ?_
  refine (r_putfi L_163_15 gf_64_29).trans ?_
  refine (r_aload_n L_163_16 rfl).trans ?_
  refine (r_iconst L_163_17 ki_m1).trans ?_
  refine (r_putfi L_163_18 gf_64_30).trans ?_
  refine (r_aload_n L_163_19 rfl).trans ?_
  refine (r_iconst L_163_20 ki_0).trans ?_
  refine (r_putfi L_163_21 gf_64_31).trans ?_
  refine (r_aload_n L_163_22 rfl).trans ?_
  refine (r_iload_n L_163_23 rfl).trans ?_
  refine (r_iload_n L_163_24 rfl).trans ?_
  refine (r_iload_n L_163_25 rfl).trans ?_
  refine (r_iload L_163_26 rfl).trans ?_
  refine (r_iload L_163_27 rfl).trans ?_
  refine (r_callV L_163_28 rfl isI_161 rfl).trans ?_
  refine bi_c (fun q1 => ?_)
  refine (r_istore L_163_29 rfl).trans ?_
  refine (r_iload L_163_30 rfl).trans ?_
  refine (r_iflt L_163_31).trans ?_
  refine it_c ?_ ?_
  · refine (r_aload_n L_163_41 rfl).trans ?_
    refine (r_iload_n L_163_42 rfl).trans ?_
    refine (r_iload L_163_43 rfl).trans ?_
    refine (r_aload_n L_163_44 rfl).trans ?_
    refine (r_iload L_163_45 rfl).trans ?_
    refine (r_iload_n L_163_46 rfl).trans ?_
    refine (r_iload L_163_47 rfl).trans ?_
    refine (r_iload L_163_48 rfl).trans ?_
    refine (r_callV L_163_49 rfl isI_159 rfl).trans ?_
    refine bi_c (fun q3 => ?_)
    refine (r_callVv L_163_50 rfl isI_160 (by decide) rfl).trans ?_
    refine bi_c (fun q4 => ?_)
    rfl
  · refine (r_aload_n L_163_32 rfl).trans ?_
    refine (r_iload L_163_33 rfl).trans ?_
    refine (r_iload_n L_163_34 rfl).trans ?_
    refine (r_iload L_163_35 rfl).trans ?_
    refine (r_iload_n L_163_36 rfl).trans ?_
    refine (r_iload L_163_37 rfl).trans ?_
    refine (r_iload L_163_38 rfl).trans ?_
    refine (r_callVv L_163_39 rfl isI_162 (by decide) rfl).trans ?_
    refine bi_c (fun q3 => ?_)
    refine (r_goto L_163_40).trans ?_
    rfl
set_option maxRecDepth 100000 in
set_option maxHeartbeats 4000000 in
theorem q_M_answerCall_64_at51 (ρ : Nat × (Nat → Int32)) (σ : rd_Sg) (x1 x2 x3 x4 x5 x6 x7 x8 : Int32) (o9 o10 : Option Value) : rd_R ρ 163 51 [some (.ref 64), some (.int x1), some (.int x2), some (.int x3), some (.int x4), some (.int x5), some (.int x6), some (.int x7), some (.int x8), o9, o10] [] σ = (rd_chk x6 96 ((if (σ 69 x6.toNatClampNeg) = 1 then (if (σ 64 28) = 1 then rd_R ρ 163 82 [some (.ref 64), some (.int x1), some (.int x2), some (.int x3), some (.int x4), some (.int x5), some (.int x6), some (.int x7), some (.int x8), o9, o10] [.int (σ 64 29)] σ else rd_R ρ 163 82 [some (.ref 64), some (.int x1), some (.int x2), some (.int x3), some (.int x4), some (.int x5), some (.int x6), some (.int x7), some (.int x8), o9, o10] [.int 0] σ) else (rd_chk x6 96 ((if (σ 69 x6.toNatClampNeg) = 2 then (if (σ 64 28) = 2 then rd_R ρ 163 82 [some (.ref 64), some (.int x1), some (.int x2), some (.int x3), some (.int x4), some (.int x5), some (.int x6), some (.int x7), some (.int x8), o9, o10] [.int (σ 64 29)] σ else rd_R ρ 163 82 [some (.ref 64), some (.int x1), some (.int x2), some (.int x3), some (.int x4), some (.int x5), some (.int x6), some (.int x7), some (.int x8), o9, o10] [.int (-1)] σ) else rd_R ρ 163 82 [some (.ref 64), some (.int x1), some (.int x2), some (.int x3), some (.int x4), some (.int x5), some (.int x6), some (.int x7), some (.int x8), o9, o10] [.int 0] σ)))))) := by
  refine (r_aload_n L_163_51 rfl).trans ?_
  refine (r_getfr L_163_52 gf_64_5).trans ?_
  refine (r_iload L_163_53 rfl).trans ?_
  refine (r_iald L_163_54 ar_69).trans ?_
  refine ck_c ?_
  refine (r_iconst L_163_55 ki_1).trans ?_
  refine (r_cmpne L_163_56).trans ?_
  refine it_c ?_ ?_
  · refine (r_aload_n L_163_57 rfl).trans ?_
    refine (r_getfi L_163_58 gf_64_28).trans ?_
    refine (r_iconst L_163_59 ki_1).trans ?_
    refine (r_cmpne L_163_60).trans ?_
    refine it_c ?_ ?_
    · refine (r_aload_n L_163_61 rfl).trans ?_
      refine (r_getfi L_163_62 gf_64_29).trans ?_
      refine (r_goto L_163_63).trans ?_
      rfl
    · refine (r_iconst L_163_64 ki_0).trans ?_
      refine (r_goto L_163_65).trans ?_
      rfl
  · refine (r_aload_n L_163_66 rfl).trans ?_
    refine (r_getfr L_163_67 gf_64_5).trans ?_
    refine (r_iload L_163_68 rfl).trans ?_
    refine (r_iald L_163_69 ar_69).trans ?_
    refine ck_c ?_
    refine (r_iconst L_163_70 ki_2).trans ?_
    refine (r_cmpne L_163_71).trans ?_
    refine it_c ?_ ?_
    · refine (r_aload_n L_163_72 rfl).trans ?_
      refine (r_getfi L_163_73 gf_64_28).trans ?_
      refine (r_iconst L_163_74 ki_2).trans ?_
      refine (r_cmpne L_163_75).trans ?_
      refine it_c ?_ ?_
      · refine (r_aload_n L_163_76 rfl).trans ?_
        refine (r_getfi L_163_77 gf_64_29).trans ?_
        refine (r_goto L_163_78).trans ?_
        rfl
      · refine (r_iconst L_163_79 ki_m1).trans ?_
        refine (r_goto L_163_80).trans ?_
        rfl
    · refine (r_iconst L_163_81 ki_0).trans ?_
      rfl
set_option maxRecDepth 100000 in
set_option maxHeartbeats 4000000 in
theorem q_M_answerCall_64_at82 (ρ : Nat × (Nat → Int32)) (σ : rd_Sg) (x1 x2 x3 x4 x5 x7 x8 s0 : Int32) (o6 o9 o10 : Option Value) : rd_R ρ 163 82 [some (.ref 64), some (.int x1), some (.int x2), some (.int x3), some (.int x4), some (.int x5), o6, some (.int x7), some (.int x8), o9, o10] [.int s0] σ = (if (σ 64 23) = 500 then some (0, (rd_u (rd_u (rd_u (rd_u (rd_u (rd_u (rd_u σ 64 29 s0) 86 0 (σ 64 31)) 86 1 s0) 86 2 (σ 64 30)) 86 3 x8) 64 26 1) 64 24 ((σ 64 24) + 1))) else (rd_chk (9 * (σ 64 23)) 4500 ((rd_chk ((9 * (σ 64 23)) + 1) 4500 ((if 0 < x7 then rd_R ρ 163 149 [some (.ref 64), some (.int x1), some (.int x2), some (.int x3), some (.int x4), some (.int x5), o6, some (.int x7), some (.int x8), some (.int s0), some (.int (9 * (σ 64 23)))] [.int x3, .int ((9 * (σ 64 23)) + 2), .ref 85] (rd_u (rd_u (rd_u (rd_u (rd_u (rd_u (rd_u (rd_u σ 64 29 s0) 86 0 (σ 64 31)) 86 1 s0) 86 2 (σ 64 30)) 86 3 x8) 64 26 1) 85 (9 * (σ 64 23)).toNatClampNeg x1) 85 ((9 * (σ 64 23)) + 1).toNatClampNeg x2) else rd_R ρ 163 149 [some (.ref 64), some (.int x1), some (.int x2), some (.int x3), some (.int x4), some (.int x5), o6, some (.int x7), some (.int x8), some (.int s0), some (.int (9 * (σ 64 23)))] [.int 0, .int ((9 * (σ 64 23)) + 2), .ref 85] (rd_u (rd_u (rd_u (rd_u (rd_u (rd_u (rd_u (rd_u σ 64 29 s0) 86 0 (σ 64 31)) 86 1 s0) 86 2 (σ 64 30)) 86 3 x8) 64 26 1) 85 (9 * (σ 64 23)).toNatClampNeg x1) 85 ((9 * (σ 64 23)) + 1).toNatClampNeg x2))))))) := by
  refine (r_istore L_163_82 rfl).trans ?_
  refine (r_aload_n L_163_83 rfl).trans ?_
  refine (r_iload L_163_84 rfl).trans ?_
  refine (r_putfi L_163_85 gf_64_29).trans ?_
  refine (r_aload_n L_163_86 rfl).trans ?_
  refine (r_getfr L_163_87 gf_64_27).trans ?_
  refine (r_iconst L_163_88 ki_0).trans ?_
  refine (r_aload_n L_163_89 rfl).trans ?_
  refine (r_getfiv L_163_90 gf_64_31 (rd_uj (by decide))).trans ?_
  refine (r_iastc (m := 0) L_163_91 ar_86 (by decide)).trans ?_
  refine (r_aload_n L_163_92 rfl).trans ?_
  refine (r_getfr L_163_93 gf_64_27).trans ?_
  refine (r_iconst L_163_94 ki_1).trans ?_
  refine (r_iload L_163_95 rfl).trans ?_
  refine (r_iastc (m := 1) L_163_96 ar_86 (by decide)).trans ?_
  refine (r_aload_n L_163_97 rfl).trans ?_
  refine (r_getfr L_163_98 gf_64_27).trans ?_
  refine (r_iconst L_163_99 ki_2).trans ?_
  refine (r_aload_n L_163_100 rfl).trans ?_
  refine (r_getfiv L_163_101 gf_64_30 ((rd_un (by decide)).trans ((rd_un (by decide)).trans (rd_uj (by decide))))).trans ?_
  refine (r_iastc (m := 2) L_163_102 ar_86 (by decide)).trans ?_
  refine (r_aload_n L_163_103 rfl).trans ?_
  refine (r_getfr L_163_104 gf_64_27).trans ?_
  refine (r_iconst L_163_105 ki_3).trans ?_
  refine (r_iload L_163_106 rfl).trans ?_
  refine (r_iastc (m := 3) L_163_107 ar_86 (by decide)).trans ?_
  refine (r_aload_n L_163_108 rfl).trans ?_
  refine (r_iconst L_163_109 ki_1).trans ?_
  refine (r_putfz L_163_110 gf_64_26 (by decide)).trans ?_
  refine (r_aload_n L_163_111 rfl).trans ?_
  refine (r_getfiv L_163_112 gf_64_23 ((rd_uj (by decide)).trans ((rd_un (by decide)).trans ((rd_un (by decide)).trans ((rd_un (by decide)).trans ((rd_un (by decide)).trans (rd_uj (by decide)))))))).trans ?_
  refine (r_sipush L_163_113 ks_500).trans ?_
  refine (r_cmpne L_163_114).trans ?_
  refine it_c ?_ ?_
  · refine (r_aload_n L_163_115 rfl).trans ?_
    refine (r_dupr L_163_116).trans ?_
    refine (r_getfiv L_163_117 gf_64_24 ((rd_uj (by decide)).trans ((rd_un (by decide)).trans ((rd_un (by decide)).trans ((rd_un (by decide)).trans ((rd_un (by decide)).trans (rd_uj (by decide)))))))).trans ?_
    refine (r_iconst L_163_118 ki_1).trans ?_
    refine (r_iadd L_163_119).trans ?_
    refine (r_putfi L_163_120 gf_64_24).trans ?_
    exact r_retv L_163_121
  · refine (r_bipush L_163_122 kb_9).trans ?_
    refine (r_aload_n L_163_123 rfl).trans ?_
    refine (r_getfiv L_163_124 gf_64_23 ((rd_uj (by decide)).trans ((rd_un (by decide)).trans ((rd_un (by decide)).trans ((rd_un (by decide)).trans ((rd_un (by decide)).trans (rd_uj (by decide)))))))).trans ?_
    refine (r_imul L_163_125).trans ?_
    refine (r_istore L_163_126 rfl).trans ?_
    refine (r_aload_n L_163_127 rfl).trans ?_
    refine (r_getfr L_163_128 gf_64_25).trans ?_
    refine (r_iload L_163_129 rfl).trans ?_
    refine (r_iload_n L_163_130 rfl).trans ?_
    refine (r_iast L_163_131 ar_85).trans ?_
    refine ck_c ?_
    refine (r_aload_n L_163_132 rfl).trans ?_
    refine (r_getfr L_163_133 gf_64_25).trans ?_
    refine (r_iload L_163_134 rfl).trans ?_
    refine (r_iconst L_163_135 ki_1).trans ?_
    refine (r_iadd L_163_136).trans ?_
    refine (r_iload_n L_163_137 rfl).trans ?_
    refine (r_iast L_163_138 ar_85).trans ?_
    refine ck_c ?_
    refine (r_aload_n L_163_139 rfl).trans ?_
    refine (r_getfr L_163_140 gf_64_25).trans ?_
    refine (r_iload L_163_141 rfl).trans ?_
    refine (r_iconst L_163_142 ki_2).trans ?_
    refine (r_iadd L_163_143).trans ?_
    refine (r_iload L_163_144 rfl).trans ?_
    refine (r_ifle L_163_145).trans ?_
    refine it_c ?_ ?_
    · refine (r_iload_n L_163_146 rfl).trans ?_
      refine (r_goto L_163_147).trans ?_
      rfl
    · refine (r_iconst L_163_148 ki_0).trans ?_
      rfl
set_option maxRecDepth 100000 in
set_option maxHeartbeats 4000000 in
theorem q_M_answerCall_64_at149 (ρ : Nat × (Nat → Int32)) (σ : rd_Sg) (x4 x5 x7 x8 x9 x10 s1 s2 : Int32) (o1 o2 o3 o6 : Option Value) : rd_R ρ 163 149 [some (.ref 64), o1, o2, o3, some (.int x4), some (.int x5), o6, some (.int x7), some (.int x8), some (.int x9), some (.int x10)] [.int s2, .int s1, .ref 85] σ = (rd_chk s1 4500 ((if 1 < x7 then rd_R ρ 163 161 [some (.ref 64), o1, o2, o3, some (.int x4), some (.int x5), o6, some (.int x7), some (.int x8), some (.int x9), some (.int x10)] [.int x4, .int (x10 + 3), .ref 85] (rd_u σ 85 s1.toNatClampNeg s2) else rd_R ρ 163 161 [some (.ref 64), o1, o2, o3, some (.int x4), some (.int x5), o6, some (.int x7), some (.int x8), some (.int x9), some (.int x10)] [.int 0, .int (x10 + 3), .ref 85] (rd_u σ 85 s1.toNatClampNeg s2)))) := by
  refine (r_iast L_163_149 ar_85).trans ?_
  refine ck_c ?_
  refine (r_aload_n L_163_150 rfl).trans ?_
  refine (r_getfr L_163_151 gf_64_25).trans ?_
  refine (r_iload L_163_152 rfl).trans ?_
  refine (r_iconst L_163_153 ki_3).trans ?_
  refine (r_iadd L_163_154).trans ?_
  refine (r_iload L_163_155 rfl).trans ?_
  refine (r_iconst L_163_156 ki_1).trans ?_
  refine (r_cmple L_163_157).trans ?_
  refine it_c ?_ ?_
  · refine (r_iload L_163_158 rfl).trans ?_
    refine (r_goto L_163_159).trans ?_
    rfl
  · refine (r_iconst L_163_160 ki_0).trans ?_
    rfl
set_option maxRecDepth 100000 in
set_option maxHeartbeats 4000000 in
theorem q_M_answerCall_64_at161 (ρ : Nat × (Nat → Int32)) (σ : rd_Sg) (x5 x7 x8 x9 x10 s1 s2 : Int32) (o1 o2 o3 o4 o6 : Option Value) : rd_R ρ 163 161 [some (.ref 64), o1, o2, o3, o4, some (.int x5), o6, some (.int x7), some (.int x8), some (.int x9), some (.int x10)] [.int s2, .int s1, .ref 85] σ = (rd_chk s1 4500 ((if 2 < x7 then rd_R ρ 163 173 [some (.ref 64), o1, o2, o3, o4, some (.int x5), o6, some (.int x7), some (.int x8), some (.int x9), some (.int x10)] [.int x5, .int (x10 + 4), .ref 85] (rd_u σ 85 s1.toNatClampNeg s2) else rd_R ρ 163 173 [some (.ref 64), o1, o2, o3, o4, some (.int x5), o6, some (.int x7), some (.int x8), some (.int x9), some (.int x10)] [.int 0, .int (x10 + 4), .ref 85] (rd_u σ 85 s1.toNatClampNeg s2)))) := by
  refine (r_iast L_163_161 ar_85).trans ?_
  refine ck_c ?_
  refine (r_aload_n L_163_162 rfl).trans ?_
  refine (r_getfr L_163_163 gf_64_25).trans ?_
  refine (r_iload L_163_164 rfl).trans ?_
  refine (r_iconst L_163_165 ki_4).trans ?_
  refine (r_iadd L_163_166).trans ?_
  refine (r_iload L_163_167 rfl).trans ?_
  refine (r_iconst L_163_168 ki_2).trans ?_
  refine (r_cmple L_163_169).trans ?_
  refine it_c ?_ ?_
  · refine (r_iload L_163_170 rfl).trans ?_
    refine (r_goto L_163_171).trans ?_
    rfl
  · refine (r_iconst L_163_172 ki_0).trans ?_
    rfl
set_option maxRecDepth 100000 in
set_option maxHeartbeats 4000000 in
theorem q_M_answerCall_64_at173 (ρ : Nat × (Nat → Int32)) (σ : rd_Sg) (x8 x9 x10 s1 s2 : Int32) (o1 o2 o3 o4 o5 o6 o7 : Option Value) : rd_R ρ 163 173 [some (.ref 64), o1, o2, o3, o4, o5, o6, o7, some (.int x8), some (.int x9), some (.int x10)] [.int s2, .int s1, .ref 85] σ = (rd_chk s1 4500 ((rd_chk (x10 + 5) 4500 ((rd_chk (x10 + 6) 4500 ((rd_chk (x10 + 7) 4500 ((rd_chk (x10 + 8) 4500 (some (0, (rd_u (rd_u (rd_u (rd_u (rd_u (rd_u σ 85 s1.toNatClampNeg s2) 85 (x10 + 5).toNatClampNeg (σ 64 31)) 85 (x10 + 6).toNatClampNeg x8) 85 (x10 + 7).toNatClampNeg x9) 85 (x10 + 8).toNatClampNeg (σ 64 30)) 64 23 ((σ 64 23) + 1))))))))))))) := by
  refine (r_iast L_163_173 ar_85).trans ?_
  refine ck_c ?_
  refine (r_aload_n L_163_174 rfl).trans ?_
  refine (r_getfr L_163_175 gf_64_25).trans ?_
  refine (r_iload L_163_176 rfl).trans ?_
  refine (r_iconst L_163_177 ki_5).trans ?_
  refine (r_iadd L_163_178).trans ?_
  refine (r_aload_n L_163_179 rfl).trans ?_
  refine (r_getfiv L_163_180 gf_64_31 (rd_un (by decide))).trans ?_
  refine (r_iast L_163_181 ar_85).trans ?_
  refine ck_c ?_
  refine (r_aload_n L_163_182 rfl).trans ?_
  refine (r_getfr L_163_183 gf_64_25).trans ?_
  refine (r_iload L_163_184 rfl).trans ?_
  refine (r_bipush L_163_185 kb_6).trans ?_
  refine (r_iadd L_163_186).trans ?_
  refine (r_iload L_163_187 rfl).trans ?_
  refine (r_iast L_163_188 ar_85).trans ?_
  refine ck_c ?_
  refine (r_aload_n L_163_189 rfl).trans ?_
  refine (r_getfr L_163_190 gf_64_25).trans ?_
  refine (r_iload L_163_191 rfl).trans ?_
  refine (r_bipush L_163_192 kb_7).trans ?_
  refine (r_iadd L_163_193).trans ?_
  refine (r_iload L_163_194 rfl).trans ?_
  refine (r_iast L_163_195 ar_85).trans ?_
  refine ck_c ?_
  refine (r_aload_n L_163_196 rfl).trans ?_
  refine (r_getfr L_163_197 gf_64_25).trans ?_
  refine (r_iload L_163_198 rfl).trans ?_
  refine (r_bipush L_163_199 kb_8).trans ?_
  refine (r_iadd L_163_200).trans ?_
  refine (r_aload_n L_163_201 rfl).trans ?_
  refine (r_getfiv L_163_202 gf_64_30 ((rd_un (by decide)).trans ((rd_un (by decide)).trans ((rd_un (by decide)).trans (rd_un (by decide)))))).trans ?_
  refine (r_iast L_163_203 ar_85).trans ?_
  refine ck_c ?_
  refine (r_aload_n L_163_204 rfl).trans ?_
  refine (r_dupr L_163_205).trans ?_
  refine (r_getfiv L_163_206 gf_64_23 ((rd_un (by decide)).trans ((rd_un (by decide)).trans ((rd_un (by decide)).trans ((rd_un (by decide)).trans (rd_un (by decide))))))).trans ?_
  refine (r_iconst L_163_207 ki_1).trans ?_
  refine (r_iadd L_163_208).trans ?_
  refine (r_putfi L_163_209 gf_64_23).trans ?_
  exact r_retv L_163_210
set_option maxRecDepth 100000 in
set_option maxHeartbeats 4000000 in
theorem q_M_isExpectation_64 (ρ : Nat × (Nat → Int32)) (σ : rd_Sg) (x1 : Int32) : rd_R ρ 168 0 [some (.ref 64), some (.int x1)] [] σ = ((rd_R ρ 137 0 [some (.int x1), some (.int 0), some (.int ((σ 64 32) - 1))] [] σ).bind fun q0 => some (q0.1 &&& 1, q0.2)) := by
  refine (r_iload_n L_168_0 rfl).trans ?_
  refine (r_iconst L_168_1 ki_0).trans ?_
  refine (r_aload_n L_168_2 rfl).trans ?_
  refine (r_getfi L_168_3 gf_64_32).trans ?_
  refine (r_iconst L_168_4 ki_1).trans ?_
  refine (r_isub L_168_5).trans ?_
  refine (r_callS L_168_6 rfl isI_137 rfl).trans ?_
  refine bi_c (fun q0 => ?_)
  exact r_retb L_168_7 mz_168
set_option maxRecDepth 100000 in
set_option maxHeartbeats 4000000 in
theorem q_M_metBy_64 (ρ : Nat × (Nat → Int32)) (σ : rd_Sg) (x1 : Int32) : rd_R ρ 174 0 [some (.ref 64), some (.int x1), none, none] [] σ = rd_R ρ 174 4 [some (.ref 64), some (.int x1), some (.int 0), some (.int 0)] [] σ := by
  refine (r_iconst L_174_0 ki_0).trans ?_
  refine (r_istore_n L_174_1 rfl).trans ?_
  refine (r_iconst L_174_2 ki_0).trans ?_
  refine (r_istore_n L_174_3 rfl).trans ?_
  rfl
set_option maxRecDepth 100000 in
set_option maxHeartbeats 4000000 in
theorem q_M_metBy_64_at4 (ρ : Nat × (Nat → Int32)) (σ : rd_Sg) (x1 x2 x3 : Int32) : rd_R ρ 174 4 [some (.ref 64), some (.int x1), some (.int x2), some (.int x3)] [] σ = (if x3 < (σ 64 23) then ((rd_R ρ 173 0 [some (.ref 64), some (.int x3), some (.int x1), none] [] σ).bind fun q1 => (if q1.1 = 0 then rd_R ρ 174 17 [some (.ref 64), some (.int x1), some (.int x2), some (.int x3)] [.int 0, .int x2] q1.2 else rd_R ρ 174 17 [some (.ref 64), some (.int x1), some (.int x2), some (.int x3)] [.int 1, .int x2] q1.2)) else some (x2, σ)) := by
  refine (r_iload_n L_174_4 rfl).trans ?_
  refine (r_aload_n L_174_5 rfl).trans ?_
  refine (r_getfi L_174_6 gf_64_23).trans ?_
  refine (r_cmpge L_174_7).trans ?_
  refine it_c ?_ ?_
  · refine (r_iload_n L_174_8 rfl).trans ?_
    refine (r_aload_n L_174_9 rfl).trans ?_
    refine (r_iload_n L_174_10 rfl).trans ?_
    refine (r_iload_n L_174_11 rfl).trans ?_
    refine (r_callV L_174_12 rfl isI_173 rfl).trans ?_
    refine bi_c (fun q1 => ?_)
    refine (r_ifeq L_174_13).trans ?_
    refine it_c ?_ ?_
    · refine (r_iconst L_174_16 ki_0).trans ?_
      rfl
    · refine (r_iconst L_174_14 ki_1).trans ?_
      refine (r_goto L_174_15).trans ?_
      rfl
  · refine (r_iload_n L_174_21 rfl).trans ?_
    exact r_ret L_174_22 mz_174
set_option maxRecDepth 100000 in
set_option maxHeartbeats 4000000 in
theorem q_M_metBy_64_at17 (ρ : Nat × (Nat → Int32)) (σ : rd_Sg) (x1 x3 s0 s1 : Int32) (o2 : Option Value) : rd_R ρ 174 17 [some (.ref 64), some (.int x1), o2, some (.int x3)] [.int s1, .int s0] σ = rd_R ρ 174 4 [some (.ref 64), some (.int x1), some (.int (s0 + s1)), some (.int (x3 + 1))] [] σ := by
  refine (r_iadd L_174_17).trans ?_
  refine (r_istore_n L_174_18 rfl).trans ?_
  refine (r_iinc L_174_19 rfl ki_1 rfl).trans ?_
  refine (r_goto L_174_20).trans ?_
  rfl
set_option maxRecDepth 100000 in
set_option maxHeartbeats 4000000 in
theorem q_M_wrongOrder_64 (ρ : Nat × (Nat → Int32)) (σ : rd_Sg) (x1 : Int32) : rd_R ρ 177 0 [some (.ref 64), some (.int x1), none, none] [] σ = rd_R ρ 177 4 [some (.ref 64), some (.int x1), some (.int (-1)), some (.int 0)] [] σ := by
  refine (r_iconst L_177_0 ki_m1).trans ?_
  refine (r_istore_n L_177_1 rfl).trans ?_
  refine (r_iconst L_177_2 ki_0).trans ?_
  refine (r_istore_n L_177_3 rfl).trans ?_
  rfl
set_option maxRecDepth 100000 in
set_option maxHeartbeats 4000000 in
theorem q_M_wrongOrder_64_at4 (ρ : Nat × (Nat → Int32)) (σ : rd_Sg) (x1 x2 x3 : Int32) : rd_R ρ 177 4 [some (.ref 64), some (.int x1), some (.int x2), some (.int x3)] [] σ = (if x3 < (σ 64 23) then (rd_chk x1 40 (((rd_R ρ 173 0 [some (.ref 64), some (.int x3), some (.int (σ 89 x1.toNatClampNeg)), none] [] σ).bind fun q1 => (if q1.1 = 0 then rd_R ρ 177 19 [some (.ref 64), some (.int x1), some (.int x2), some (.int x3)] [.int x2] q1.2 else rd_R ρ 177 19 [some (.ref 64), some (.int x1), some (.int x2), some (.int x3)] [.int x3] q1.2)))) else rd_R ρ 177 24 [some (.ref 64), some (.int x1), some (.int x2), some (.int 0)] [] σ) := by
  refine (r_iload_n L_177_4 rfl).trans ?_
  refine (r_aload_n L_177_5 rfl).trans ?_
  refine (r_getfi L_177_6 gf_64_23).trans ?_
  refine (r_cmpge L_177_7).trans ?_
  refine it_c ?_ ?_
  · refine (r_aload_n L_177_8 rfl).trans ?_
    refine (r_iload_n L_177_9 rfl).trans ?_
    refine (r_aload_n L_177_10 rfl).trans ?_
    refine (r_getfr L_177_11 gf_64_36).trans ?_
    refine (r_iload_n L_177_12 rfl).trans ?_
    refine (r_iald L_177_13 ar_89).trans ?_
    refine ck_c ?_
    refine (r_callV L_177_14 rfl isI_173 rfl).trans ?_
    refine bi_c (fun q1 => ?_)
    refine (r_ifeq L_177_15).trans ?_
    refine it_c ?_ ?_
    · refine (r_iload_n L_177_18 rfl).trans ?_
      rfl
    · refine (r_iload_n L_177_16 rfl).trans ?_
      refine (r_goto L_177_17).trans ?_
      rfl
  · refine (r_iconst L_177_22 ki_0).trans ?_
    refine (r_istore_n L_177_23 rfl).trans ?_
    rfl
set_option maxRecDepth 100000 in
set_option maxHeartbeats 4000000 in
theorem q_M_wrongOrder_64_at19 (ρ : Nat × (Nat → Int32)) (σ : rd_Sg) (x1 x3 s0 : Int32) (o2 : Option Value) : rd_R ρ 177 19 [some (.ref 64), some (.int x1), o2, some (.int x3)] [.int s0] σ = rd_R ρ 177 4 [some (.ref 64), some (.int x1), some (.int s0), some (.int (x3 + 1))] [] σ := by
  refine (r_istore_n L_177_19 rfl).trans ?_
  refine (r_iinc L_177_20 rfl ki_1 rfl).trans ?_
  refine (r_goto L_177_21).trans ?_
  rfl
set_option maxRecDepth 100000 in
set_option maxHeartbeats 4000000 in
theorem q_M_wrongOrder_64_at24 (ρ : Nat × (Nat → Int32)) (σ : rd_Sg) (x1 x2 x3 : Int32) : rd_R ρ 177 24 [some (.ref 64), some (.int x1), some (.int x2), some (.int x3)] [] σ = (if x3 < x2 then (rd_chk x1 40 (((rd_R ρ 173 0 [some (.ref 64), some (.int x3), some (.int (σ 90 x1.toNatClampNeg)), none] [] σ).bind fun q1 => (if q1.1 = 0 then rd_R ρ 177 24 [some (.ref 64), some (.int x1), some (.int x2), some (.int (x3 + 1))] [] q1.2 else some (x3, q1.2))))) else some (((-1) : Int32), σ)) := by
  refine (r_iload_n L_177_24 rfl).trans ?_
  refine (r_iload_n L_177_25 rfl).trans ?_
  refine (r_cmpge L_177_26).trans ?_
  refine it_c ?_ ?_
  · refine (r_aload_n L_177_27 rfl).trans ?_
    refine (r_iload_n L_177_28 rfl).trans ?_
    refine (r_aload_n L_177_29 rfl).trans ?_
    refine (r_getfr L_177_30 gf_64_37).trans ?_
    refine (r_iload_n L_177_31 rfl).trans ?_
    refine (r_iald L_177_32 ar_90).trans ?_
    refine ck_c ?_
    refine (r_callV L_177_33 rfl isI_173 rfl).trans ?_
    refine bi_c (fun q1 => ?_)
    refine (r_ifeq L_177_34).trans ?_
    refine it_c ?_ ?_
    · refine (r_iinc L_177_37 rfl ki_1 rfl).trans ?_
      refine (r_goto L_177_38).trans ?_
      rfl
    · refine (r_iload_n L_177_35 rfl).trans ?_
      exact r_ret L_177_36 mz_177
  · refine (r_iconst L_177_39 ki_m1).trans ?_
    exact r_ret L_177_40 mz_177
set_option maxRecDepth 100000 in
set_option maxHeartbeats 4000000 in
theorem q_M_note_64 (ρ : Nat × (Nat → Int32)) (σ : rd_Sg) (x1 x2 x3 : Int32) : rd_R ρ 176 0 [some (.ref 64), some (.int x1), some (.int x2), some (.int x3)] [] σ = (if (σ 64 39) < 60 then (rd_chk (3 * (σ 64 39)) 180 ((rd_chk ((3 * (σ 64 39)) + 1) 180 ((rd_chk ((3 * (σ 64 39)) + 2) 180 (some (0, (rd_u (rd_u (rd_u (rd_u σ 92 (3 * (σ 64 39)).toNatClampNeg x1) 92 ((3 * (σ 64 39)) + 1).toNatClampNeg x2) 92 ((3 * (σ 64 39)) + 2).toNatClampNeg x3) 64 39 ((σ 64 39) + 1))))))))) else some (0, σ)) := by
  refine (r_aload_n L_176_0 rfl).trans ?_
  refine (r_getfi L_176_1 gf_64_39).trans ?_
  refine (r_bipush L_176_2 kb_60).trans ?_
  refine (r_cmpge L_176_3).trans ?_
  refine it_c ?_ ?_
  · refine (r_aload_n L_176_4 rfl).trans ?_
    refine (r_getfr L_176_5 gf_64_40).trans ?_
    refine (r_iconst L_176_6 ki_3).trans ?_
    refine (r_aload_n L_176_7 rfl).trans ?_
    refine (r_getfi L_176_8 gf_64_39).trans ?_
    refine (r_imul L_176_9).trans ?_
    refine (r_iload_n L_176_10 rfl).trans ?_
    refine (r_iast L_176_11 ar_92).trans ?_
    refine ck_c ?_
    refine (r_aload_n L_176_12 rfl).trans ?_
    refine (r_getfr L_176_13 gf_64_40).trans ?_
    refine (r_iconst L_176_14 ki_3).trans ?_
    refine (r_aload_n L_176_15 rfl).trans ?_
    refine (r_getfiv L_176_16 gf_64_39 (rd_un (by decide))).trans ?_
    refine (r_imul L_176_17).trans ?_
    refine (r_iconst L_176_18 ki_1).trans ?_
    refine (r_iadd L_176_19).trans ?_
    refine (r_iload_n L_176_20 rfl).trans ?_
    refine (r_iast L_176_21 ar_92).trans ?_
    refine ck_c ?_
    refine (r_aload_n L_176_22 rfl).trans ?_
    refine (r_getfr L_176_23 gf_64_40).trans ?_
    refine (r_iconst L_176_24 ki_3).trans ?_
    refine (r_aload_n L_176_25 rfl).trans ?_
    refine (r_getfiv L_176_26 gf_64_39 ((rd_un (by decide)).trans (rd_un (by decide)))).trans ?_
    refine (r_imul L_176_27).trans ?_
    refine (r_iconst L_176_28 ki_2).trans ?_
    refine (r_iadd L_176_29).trans ?_
    refine (r_iload_n L_176_30 rfl).trans ?_
    refine (r_iast L_176_31 ar_92).trans ?_
    refine ck_c ?_
    refine (r_aload_n L_176_32 rfl).trans ?_
    refine (r_dupr L_176_33).trans ?_
    refine (r_getfiv L_176_34 gf_64_39 ((rd_un (by decide)).trans ((rd_un (by decide)).trans (rd_un (by decide))))).trans ?_
    refine (r_iconst L_176_35 ki_1).trans ?_
    refine (r_iadd L_176_36).trans ?_
    refine (r_putfi L_176_37 gf_64_39).trans ?_
    exact r_retv L_176_38
  · exact r_retv L_176_38
set_option maxRecDepth 100000 in
set_option maxHeartbeats 4000000 in
theorem q_M_meetsAny_64 (ρ : Nat × (Nat → Int32)) (σ : rd_Sg) (x1 : Int32) : rd_R ρ 178 0 [some (.ref 64), some (.int x1), none, none] [] σ = rd_R ρ 178 4 [some (.ref 64), some (.int x1), some (.int 0), some (.int 0)] [] σ := by
  refine (r_iconst L_178_0 ki_0).trans ?_
  refine (r_istore_n L_178_1 rfl).trans ?_
  refine (r_iconst L_178_2 ki_0).trans ?_
  refine (r_istore_n L_178_3 rfl).trans ?_
  rfl
set_option maxRecDepth 100000 in
set_option maxHeartbeats 4000000 in
theorem q_M_meetsAny_64_at4 (ρ : Nat × (Nat → Int32)) (σ : rd_Sg) (x1 x2 x3 : Int32) : rd_R ρ 178 4 [some (.ref 64), some (.int x1), some (.int x2), some (.int x3)] [] σ = (if x3 < (σ 64 32) then (if x2 = 0 then ((rd_R ρ 173 0 [some (.ref 64), some (.int x1), some (.int x3), none] [] σ).bind fun q2 => rd_R ρ 178 4 [some (.ref 64), some (.int x1), some (.int q2.1), some (.int (x3 + 1))] [] q2.2) else some (x2 &&& 1, σ)) else some (x2 &&& 1, σ)) := by
  refine (r_iload_n L_178_4 rfl).trans ?_
  refine (r_aload_n L_178_5 rfl).trans ?_
  refine (r_getfi L_178_6 gf_64_32).trans ?_
  refine (r_cmpge L_178_7).trans ?_
  refine it_c ?_ ?_
  · refine (r_iload_n L_178_8 rfl).trans ?_
    refine (r_ifne L_178_9).trans ?_
    refine it_c ?_ ?_
    · refine (r_aload_n L_178_10 rfl).trans ?_
      refine (r_iload_n L_178_11 rfl).trans ?_
      refine (r_iload_n L_178_12 rfl).trans ?_
      refine (r_callV L_178_13 rfl isI_173 rfl).trans ?_
      refine bi_c (fun q2 => ?_)
      refine (r_istore_n L_178_14 rfl).trans ?_
      refine (r_iinc L_178_15 rfl ki_1 rfl).trans ?_
      refine (r_goto L_178_16).trans ?_
      rfl
    · refine (r_iload_n L_178_17 rfl).trans ?_
      exact r_retb L_178_18 mz_178
  · refine (r_iload_n L_178_17 rfl).trans ?_
    exact r_retb L_178_18 mz_178
set_option maxRecDepth 100000 in
set_option maxHeartbeats 4000000 in
theorem q_M_comeTo_64 (ρ : Nat × (Nat → Int32)) (σ : rd_Sg) (x1 : Int32) : rd_R ρ 186 0 [some (.ref 64), some (.int x1), none, none] [] σ = rd_R ρ 186 4 [some (.ref 64), some (.int x1), some (.int 0), some (.int 0)] [] σ := by
  refine (r_iconst L_186_0 ki_0).trans ?_
  refine (r_istore_n L_186_1 rfl).trans ?_
  refine (r_iconst L_186_2 ki_0).trans ?_
  refine (r_istore_n L_186_3 rfl).trans ?_
  rfl
set_option maxRecDepth 100000 in
set_option maxHeartbeats 4000000 in
theorem q_M_comeTo_64_at4 (ρ : Nat × (Nat → Int32)) (σ : rd_Sg) (x1 x2 x3 : Int32) : rd_R ρ 186 4 [some (.ref 64), some (.int x1), some (.int x2), some (.int x3)] [] σ = (if x3 < (σ 64 52) then (rd_chk x3 10 ((rd_chk x3 10 (((rd_R ρ 137 0 [some (.int x1), some (.int (σ 100 x3.toNatClampNeg)), some (.int (σ 101 x3.toNatClampNeg))] [] σ).bind fun q1 => (if q1.1 = 0 then rd_R ρ 186 44 [some (.ref 64), some (.int x1), some (.int x2), some (.int x3)] [] q1.2 else (rd_chk x3 10 ((rd_chk x2 10 ((rd_chk x3 10 ((rd_chk x2 10 ((rd_chk x3 10 ((rd_chk x2 10 (rd_R ρ 186 44 [some (.ref 64), some (.int x1), some (.int (x2 + 1)), some (.int x3)] [] (rd_u (rd_u (rd_u q1.2 100 x2.toNatClampNeg (q1.2 100 x3.toNatClampNeg)) 101 x2.toNatClampNeg (q1.2 101 x3.toNatClampNeg)) 102 x2.toNatClampNeg (q1.2 102 x3.toNatClampNeg)))))))))))))))))))) else some (0, (rd_u σ 64 52 x2))) := by
  refine (r_iload_n L_186_4 rfl).trans ?_
  refine (r_aload_n L_186_5 rfl).trans ?_
  refine (r_getfi L_186_6 gf_64_52).trans ?_
  refine (r_cmpge L_186_7).trans ?_
  refine it_c ?_ ?_
  · refine (r_iload_n L_186_8 rfl).trans ?_
    refine (r_aload_n L_186_9 rfl).trans ?_
    refine (r_getfr L_186_10 gf_64_53).trans ?_
    refine (r_iload_n L_186_11 rfl).trans ?_
    refine (r_iald L_186_12 ar_100).trans ?_
    refine ck_c ?_
    refine (r_aload_n L_186_13 rfl).trans ?_
    refine (r_getfr L_186_14 gf_64_54).trans ?_
    refine (r_iload_n L_186_15 rfl).trans ?_
    refine (r_iald L_186_16 ar_101).trans ?_
    refine ck_c ?_
    refine (r_callS L_186_17 rfl isI_137 rfl).trans ?_
    refine bi_c (fun q1 => ?_)
    refine (r_ifeq L_186_18).trans ?_
    refine it_c ?_ ?_
    · rfl
    · refine (r_aload_n L_186_19 rfl).trans ?_
      refine (r_getfr L_186_20 gf_64_53).trans ?_
      refine (r_iload_n L_186_21 rfl).trans ?_
      refine (r_aload_n L_186_22 rfl).trans ?_
      refine (r_getfr L_186_23 gf_64_53).trans ?_
      refine (r_iload_n L_186_24 rfl).trans ?_
      refine (r_iald L_186_25 ar_100).trans ?_
      refine ck_c ?_
      refine (r_iast L_186_26 ar_100).trans ?_
      refine ck_c ?_
      refine (r_aload_n L_186_27 rfl).trans ?_
      refine (r_getfr L_186_28 gf_64_54).trans ?_
      refine (r_iload_n L_186_29 rfl).trans ?_
      refine (r_aload_n L_186_30 rfl).trans ?_
      refine (r_getfr L_186_31 gf_64_54).trans ?_
      refine (r_iload_n L_186_32 rfl).trans ?_
      refine (r_ialdv L_186_33 ar_101 (rd_un (by decide))).trans ?_
      refine ck_c ?_
      refine (r_iast L_186_34 ar_101).trans ?_
      refine ck_c ?_
      refine (r_aload_n L_186_35 rfl).trans ?_
      refine (r_getfr L_186_36 gf_64_55).trans ?_
      refine (r_iload_n L_186_37 rfl).trans ?_
      refine (r_aload_n L_186_38 rfl).trans ?_
      refine (r_getfr L_186_39 gf_64_55).trans ?_
      refine (r_iload_n L_186_40 rfl).trans ?_
      refine (r_ialdv L_186_41 ar_102 ((rd_un (by decide)).trans (rd_un (by decide)))).trans ?_
      refine ck_c ?_
      refine (r_iast L_186_42 ar_102).trans ?_
      refine ck_c ?_
      refine (r_iinc L_186_43 rfl ki_1 rfl).trans ?_
      rfl
  · refine (r_aload_n L_186_46 rfl).trans ?_
    refine (r_iload_n L_186_47 rfl).trans ?_
    refine (r_putfi L_186_48 gf_64_52).trans ?_
    exact r_retv L_186_49
set_option maxRecDepth 100000 in
set_option maxHeartbeats 4000000 in
theorem q_M_comeTo_64_at44 (ρ : Nat × (Nat → Int32)) (σ : rd_Sg) (x1 x2 x3 : Int32) : rd_R ρ 186 44 [some (.ref 64), some (.int x1), some (.int x2), some (.int x3)] [] σ = rd_R ρ 186 4 [some (.ref 64), some (.int x1), some (.int x2), some (.int (x3 + 1))] [] σ := by
  refine (r_iinc L_186_44 rfl ki_1 rfl).trans ?_
  refine (r_goto L_186_45).trans ?_
  rfl
set_option maxRecDepth 100000 in
set_option maxHeartbeats 4000000 in
theorem q_M_done_64 (ρ : Nat × (Nat → Int32)) (σ : rd_Sg) (x1 : Int32) : rd_R ρ 185 0 [some (.ref 64), some (.int x1), none, none, none] [] σ = (rd_chk x1 60 ((rd_chk x1 60 ((rd_chk x1 60 ((rd_chk x1 60 ((if (σ 93 x1.toNatClampNeg) = 0 then (rd_chk (σ 94 x1.toNatClampNeg) 8 (some ((x1 + 1), (rd_u (rd_u σ 64 58 (-1)) 97 (σ 94 x1.toNatClampNeg).toNatClampNeg (σ 95 x1.toNatClampNeg))))) else (if (σ 93 x1.toNatClampNeg) = 1 then (rd_chk (σ 94 x1.toNatClampNeg) 8 ((rd_chk (σ 95 x1.toNatClampNeg) 8 ((rd_chk (σ 94 x1.toNatClampNeg) 8 (some ((x1 + 1), (rd_u (rd_u σ 64 58 (-1)) 97 (σ 94 x1.toNatClampNeg).toNatClampNeg ((σ 97 (σ 94 x1.toNatClampNeg).toNatClampNeg) + (σ 97 (σ 95 x1.toNatClampNeg).toNatClampNeg)))))))))) else (if (σ 93 x1.toNatClampNeg) = 2 then ((rd_R ρ 142 0 [some (.ref 64), some (.int (σ 95 x1.toNatClampNeg))] [] (rd_u σ 64 58 (-1))).bind fun q1 => (if q1.1 = 0 then (rd_chk (σ 94 x1.toNatClampNeg) 4 (some ((x1 + 1), (rd_u q1.2 98 (σ 94 x1.toNatClampNeg).toNatClampNeg (-1))))) else (rd_chk (σ 94 x1.toNatClampNeg) 4 (some ((x1 + 1), (rd_u q1.2 98 (σ 94 x1.toNatClampNeg).toNatClampNeg (σ 95 x1.toNatClampNeg))))))) else (if (σ 93 x1.toNatClampNeg) = 3 then ((rd_R ρ 184 0 [some (.ref 64), some (.int (σ 94 x1.toNatClampNeg)), some (.int (σ 95 x1.toNatClampNeg)), none, none, none, none, none] [] (rd_u σ 64 58 (-1))).bind fun q1 => some ((x1 + 1), (rd_u q1.2 64 58 q1.1))) else (if (σ 93 x1.toNatClampNeg) = 4 then some ((σ 94 x1.toNatClampNeg), (rd_u σ 64 58 (-1))) else (if (σ 93 x1.toNatClampNeg) = 5 then (rd_chk (σ 94 x1.toNatClampNeg) 8 ((rd_chk (σ 95 x1.toNatClampNeg) 8 ((if (σ 97 (σ 94 x1.toNatClampNeg).toNatClampNeg) < (σ 97 (σ 95 x1.toNatClampNeg).toNatClampNeg) then some ((σ 96 x1.toNatClampNeg), (rd_u σ 64 58 (-1))) else some ((x1 + 1), (rd_u σ 64 58 (-1)))))))) else (if (σ 93 x1.toNatClampNeg) = 6 then (if (σ 64 52) = 10 then some ((x1 + 1), (rd_u (rd_u σ 64 58 (-1)) 64 58 11)) else (rd_chk (σ 64 52) 10 ((rd_chk (σ 64 52) 10 ((rd_chk (σ 64 52) 10 (some ((x1 + 1), (rd_u (rd_u (rd_u (rd_u (rd_u σ 64 58 (-1)) 100 (σ 64 52).toNatClampNeg (x1 + 1)) 101 (σ 64 52).toNatClampNeg (x1 + (σ 94 x1.toNatClampNeg))) 102 (σ 64 52).toNatClampNeg (σ 95 x1.toNatClampNeg)) 64 52 ((σ 64 52) + 1)))))))))) else (if (σ 93 x1.toNatClampNeg) = 7 then some ((x1 + 1), (rd_u (rd_u σ 64 58 (-1)) 64 58 (σ 94 x1.toNatClampNeg))) else (if (σ 93 x1.toNatClampNeg) = 8 then (rd_chk (σ 94 x1.toNatClampNeg) 4 ((rd_chk (σ 95 x1.toNatClampNeg) 4 ((if (σ 98 (σ 94 x1.toNatClampNeg).toNatClampNeg) = (σ 98 (σ 95 x1.toNatClampNeg).toNatClampNeg) then (rd_chk (σ 96 x1.toNatClampNeg) 8 (some ((x1 + 1), (rd_u (rd_u σ 64 58 (-1)) 97 (σ 96 x1.toNatClampNeg).toNatClampNeg 1)))) else (rd_chk (σ 96 x1.toNatClampNeg) 8 (some ((x1 + 1), (rd_u (rd_u σ 64 58 (-1)) 97 (σ 96 x1.toNatClampNeg).toNatClampNeg 0))))))))) else (if (σ 64 50) < 100 then (rd_chk (σ 94 x1.toNatClampNeg) 8 ((rd_chk (σ 64 50) 100 (some ((x1 + 1), (rd_u (rd_u (rd_u σ 64 58 (-1)) 99 (σ 64 50).toNatClampNeg (σ 97 (σ 94 x1.toNatClampNeg).toNatClampNeg)) 64 50 ((σ 64 50) + 1))))))) else some ((x1 + 1), (rd_u σ 64 58 (-1))))))))))))))))))))) := by
  refine (r_aload_n L_185_0 rfl).trans ?_
  refine (r_getfr L_185_1 gf_64_43).trans ?_
  refine (r_iload_n L_185_2 rfl).trans ?_
  refine (r_iald L_185_3 ar_94).trans ?_
  refine ck_c ?_
  refine (r_istore_n L_185_4 rfl).trans ?_
  refine (r_aload_n L_185_5 rfl).trans ?_
  refine (r_getfr L_185_6 gf_64_44).trans ?_
  refine (r_iload_n L_185_7 rfl).trans ?_
  refine (r_iald L_185_8 ar_95).trans ?_
  refine ck_c ?_
  refine (r_istore_n L_185_9 rfl).trans ?_
  refine (r_aload_n L_185_10 rfl).trans ?_
  refine (r_getfr L_185_11 gf_64_45).trans ?_
  refine (r_iload_n L_185_12 rfl).trans ?_
  refine (r_iald L_185_13 ar_96).trans ?_
  refine ck_c ?_
  refine (r_istore L_185_14 rfl).trans ?_
  refine (r_aload_n L_185_15 rfl).trans ?_
  refine (r_iconst L_185_16 ki_m1).trans ?_
  refine (r_putfi L_185_17 gf_64_58).trans ?_
  refine (r_aload_n L_185_18 rfl).trans ?_
  refine (r_getfr L_185_19 gf_64_42).trans ?_
  refine (r_iload_n L_185_20 rfl).trans ?_
  refine (r_ialdv L_185_21 ar_93 (rd_un (by decide))).trans ?_
  refine ck_c ?_
  refine (r_tsw L_185_22).trans ?_
  refine (r_swc ki_0 rfl).trans ?_
  refine it_c ?_ ?_
  · refine (r_aload_n L_185_23 rfl).trans ?_
    refine (r_getfr L_185_24 gf_64_46).trans ?_
    refine (r_iload_n L_185_25 rfl).trans ?_
    refine (r_iload_n L_185_26 rfl).trans ?_
    refine (r_iast L_185_27 ar_97).trans ?_
    refine ck_c ?_
    refine (r_goto L_185_28).trans ?_
    refine (r_iload_n L_185_154 rfl).trans ?_
    refine (r_iconst L_185_155 ki_1).trans ?_
    refine (r_iadd L_185_156).trans ?_
    exact r_ret L_185_157 mz_185
  · refine (r_swc ki_1 rfl).trans ?_
    refine it_c ?_ ?_
    · refine (r_aload_n L_185_29 rfl).trans ?_
      refine (r_getfr L_185_30 gf_64_46).trans ?_
      refine (r_iload_n L_185_31 rfl).trans ?_
      refine (r_dup2 L_185_32).trans ?_
      refine (r_ialdv L_185_33 ar_97 (rd_un (by decide))).trans ?_
      refine ck_c ?_
      refine (r_aload_n L_185_34 rfl).trans ?_
      refine (r_getfr L_185_35 gf_64_46).trans ?_
      refine (r_iload_n L_185_36 rfl).trans ?_
      refine (r_ialdv L_185_37 ar_97 (rd_un (by decide))).trans ?_
      refine ck_c ?_
      refine (r_iadd L_185_38).trans ?_
      refine (r_iast L_185_39 ar_97).trans ?_
      refine ck_c ?_
      refine (r_goto L_185_40).trans ?_
      refine (r_iload_n L_185_154 rfl).trans ?_
      refine (r_iconst L_185_155 ki_1).trans ?_
      refine (r_iadd L_185_156).trans ?_
      exact r_ret L_185_157 mz_185
    · refine (r_swc ki_2 rfl).trans ?_
      refine it_c ?_ ?_
      · refine (r_aload_n L_185_41 rfl).trans ?_
        refine (r_getfr L_185_42 gf_64_47).trans ?_
        refine (r_iload_n L_185_43 rfl).trans ?_
        refine (r_aload_n L_185_44 rfl).trans ?_
        refine (r_iload_n L_185_45 rfl).trans ?_
        refine (r_callV L_185_46 rfl isI_142 rfl).trans ?_
        refine bi_c (fun q1 => ?_)
        refine (r_ifeq L_185_47).trans ?_
        refine it_c ?_ ?_
        · refine (r_iconst L_185_50 ki_m1).trans ?_
          refine (r_iast L_185_51 ar_98).trans ?_
          refine ck_c ?_
          refine (r_goto L_185_52).trans ?_
          refine (r_iload_n L_185_154 rfl).trans ?_
          refine (r_iconst L_185_155 ki_1).trans ?_
          refine (r_iadd L_185_156).trans ?_
          exact r_ret L_185_157 mz_185
        · refine (r_iload_n L_185_48 rfl).trans ?_
          refine (r_goto L_185_49).trans ?_
          refine (r_iast L_185_51 ar_98).trans ?_
          refine ck_c ?_
          refine (r_goto L_185_52).trans ?_
          refine (r_iload_n L_185_154 rfl).trans ?_
          refine (r_iconst L_185_155 ki_1).trans ?_
          refine (r_iadd L_185_156).trans ?_
          exact r_ret L_185_157 mz_185
      · refine (r_swc ki_3 rfl).trans ?_
        refine it_c ?_ ?_
        · refine (r_aload_n L_185_53 rfl).trans ?_
          refine (r_aload_n L_185_54 rfl).trans ?_
          refine (r_iload_n L_185_55 rfl).trans ?_
          refine (r_iload_n L_185_56 rfl).trans ?_
          refine (r_callV L_185_57 rfl isI_184 rfl).trans ?_
          refine bi_c (fun q1 => ?_)
          refine (r_putfi L_185_58 gf_64_58).trans ?_
          refine (r_goto L_185_59).trans ?_
          refine (r_iload_n L_185_154 rfl).trans ?_
          refine (r_iconst L_185_155 ki_1).trans ?_
          refine (r_iadd L_185_156).trans ?_
          exact r_ret L_185_157 mz_185
        · refine (r_swc ki_4 rfl).trans ?_
          refine it_c ?_ ?_
          · refine (r_iload_n L_185_60 rfl).trans ?_
            exact r_ret L_185_61 mz_185
          · refine (r_swc ki_5 rfl).trans ?_
            refine it_c ?_ ?_
            · refine (r_aload_n L_185_62 rfl).trans ?_
              refine (r_getfr L_185_63 gf_64_46).trans ?_
              refine (r_iload_n L_185_64 rfl).trans ?_
              refine (r_ialdv L_185_65 ar_97 (rd_un (by decide))).trans ?_
              refine ck_c ?_
              refine (r_aload_n L_185_66 rfl).trans ?_
              refine (r_getfr L_185_67 gf_64_46).trans ?_
              refine (r_iload_n L_185_68 rfl).trans ?_
              refine (r_ialdv L_185_69 ar_97 (rd_un (by decide))).trans ?_
              refine ck_c ?_
              refine (r_cmpge L_185_70).trans ?_
              refine it_c ?_ ?_
              · refine (r_iload L_185_71 rfl).trans ?_
                refine (r_goto L_185_72).trans ?_
                exact r_ret L_185_76 mz_185
              · refine (r_iload_n L_185_73 rfl).trans ?_
                refine (r_iconst L_185_74 ki_1).trans ?_
                refine (r_iadd L_185_75).trans ?_
                exact r_ret L_185_76 mz_185
            · refine (r_swc ki_6 rfl).trans ?_
              refine it_c ?_ ?_
              · refine (r_aload_n L_185_77 rfl).trans ?_
                refine (r_getfiv L_185_78 gf_64_52 (rd_uj (by decide))).trans ?_
                refine (r_bipush L_185_79 kb_10).trans ?_
                refine (r_cmpne L_185_80).trans ?_
                refine it_c ?_ ?_
                · refine (r_aload_n L_185_81 rfl).trans ?_
                  refine (r_bipush L_185_82 kb_11).trans ?_
                  refine (r_putfi L_185_83 gf_64_58).trans ?_
                  refine (r_goto L_185_84).trans ?_
                  refine (r_iload_n L_185_154 rfl).trans ?_
                  refine (r_iconst L_185_155 ki_1).trans ?_
                  refine (r_iadd L_185_156).trans ?_
                  exact r_ret L_185_157 mz_185
                · refine (r_aload_n L_185_85 rfl).trans ?_
                  refine (r_getfr L_185_86 gf_64_53).trans ?_
                  refine (r_aload_n L_185_87 rfl).trans ?_
                  refine (r_getfiv L_185_88 gf_64_52 (rd_uj (by decide))).trans ?_
                  refine (r_iload_n L_185_89 rfl).trans ?_
                  refine (r_iconst L_185_90 ki_1).trans ?_
                  refine (r_iadd L_185_91).trans ?_
                  refine (r_iast L_185_92 ar_100).trans ?_
                  refine ck_c ?_
                  refine (r_aload_n L_185_93 rfl).trans ?_
                  refine (r_getfr L_185_94 gf_64_54).trans ?_
                  refine (r_aload_n L_185_95 rfl).trans ?_
                  refine (r_getfiv L_185_96 gf_64_52 ((rd_un (by decide)).trans (rd_uj (by decide)))).trans ?_
                  refine (r_iload_n L_185_97 rfl).trans ?_
                  refine (r_iload_n L_185_98 rfl).trans ?_
                  refine (r_iadd L_185_99).trans ?_
                  refine (r_iast L_185_100 ar_101).trans ?_
                  refine ck_c ?_
                  refine (r_aload_n L_185_101 rfl).trans ?_
                  refine (r_getfr L_185_102 gf_64_55).trans ?_
                  refine (r_aload_n L_185_103 rfl).trans ?_
                  refine (r_getfiv L_185_104 gf_64_52 ((rd_un (by decide)).trans ((rd_un (by decide)).trans (rd_uj (by decide))))).trans ?_
                  refine (r_iload_n L_185_105 rfl).trans ?_
                  refine (r_iast L_185_106 ar_102).trans ?_
                  refine ck_c ?_
                  refine (r_aload_n L_185_107 rfl).trans ?_
                  refine (r_dupr L_185_108).trans ?_
                  refine (r_getfiv L_185_109 gf_64_52 ((rd_un (by decide)).trans ((rd_un (by decide)).trans ((rd_un (by decide)).trans (rd_uj (by decide)))))).trans ?_
                  refine (r_iconst L_185_110 ki_1).trans ?_
                  refine (r_iadd L_185_111).trans ?_
                  refine (r_putfi L_185_112 gf_64_52).trans ?_
                  refine (r_goto L_185_113).trans ?_
                  refine (r_iload_n L_185_154 rfl).trans ?_
                  refine (r_iconst L_185_155 ki_1).trans ?_
                  refine (r_iadd L_185_156).trans ?_
                  exact r_ret L_185_157 mz_185
              · refine (r_swc ki_7 rfl).trans ?_
                refine it_c ?_ ?_
                · refine (r_aload_n L_185_114 rfl).trans ?_
                  refine (r_iload_n L_185_115 rfl).trans ?_
                  refine (r_putfi L_185_116 gf_64_58).trans ?_
                  refine (r_goto L_185_117).trans ?_
                  refine (r_iload_n L_185_154 rfl).trans ?_
                  refine (r_iconst L_185_155 ki_1).trans ?_
                  refine (r_iadd L_185_156).trans ?_
                  exact r_ret L_185_157 mz_185
                · refine (r_swc ki_8 rfl).trans ?_
                  refine it_c ?_ ?_
                  · refine (r_aload_n L_185_118 rfl).trans ?_
                    refine (r_getfr L_185_119 gf_64_46).trans ?_
                    refine (r_iload L_185_120 rfl).trans ?_
                    refine (r_aload_n L_185_121 rfl).trans ?_
                    refine (r_getfr L_185_122 gf_64_47).trans ?_
                    refine (r_iload_n L_185_123 rfl).trans ?_
                    refine (r_ialdv L_185_124 ar_98 (rd_un (by decide))).trans ?_
                    refine ck_c ?_
                    refine (r_aload_n L_185_125 rfl).trans ?_
                    refine (r_getfr L_185_126 gf_64_47).trans ?_
                    refine (r_iload_n L_185_127 rfl).trans ?_
                    refine (r_ialdv L_185_128 ar_98 (rd_un (by decide))).trans ?_
                    refine ck_c ?_
                    refine (r_cmpne L_185_129).trans ?_
                    refine it_c ?_ ?_
                    · refine (r_iconst L_185_130 ki_1).trans ?_
                      refine (r_goto L_185_131).trans ?_
                      refine (r_iast L_185_133 ar_97).trans ?_
                      refine ck_c ?_
                      refine (r_goto L_185_134).trans ?_
                      refine (r_iload_n L_185_154 rfl).trans ?_
                      refine (r_iconst L_185_155 ki_1).trans ?_
                      refine (r_iadd L_185_156).trans ?_
                      exact r_ret L_185_157 mz_185
                    · refine (r_iconst L_185_132 ki_0).trans ?_
                      refine (r_iast L_185_133 ar_97).trans ?_
                      refine ck_c ?_
                      refine (r_goto L_185_134).trans ?_
                      refine (r_iload_n L_185_154 rfl).trans ?_
                      refine (r_iconst L_185_155 ki_1).trans ?_
                      refine (r_iadd L_185_156).trans ?_
                      exact r_ret L_185_157 mz_185
                  · refine (r_swn).trans ?_
                    refine (r_aload_n L_185_135 rfl).trans ?_
                    refine (r_getfiv L_185_136 gf_64_50 (rd_uj (by decide))).trans ?_
                    refine (r_bipush L_185_137 kb_100).trans ?_
                    refine (r_cmpge L_185_138).trans ?_
                    refine it_c ?_ ?_
                    · refine (r_aload_n L_185_139 rfl).trans ?_
                      refine (r_getfr L_185_140 gf_64_51).trans ?_
                      refine (r_aload_n L_185_141 rfl).trans ?_
                      refine (r_getfiv L_185_142 gf_64_50 (rd_uj (by decide))).trans ?_
                      refine (r_aload_n L_185_143 rfl).trans ?_
                      refine (r_getfr L_185_144 gf_64_46).trans ?_
                      refine (r_iload_n L_185_145 rfl).trans ?_
                      refine (r_ialdv L_185_146 ar_97 (rd_un (by decide))).trans ?_
                      refine ck_c ?_
                      refine (r_iast L_185_147 ar_99).trans ?_
                      refine ck_c ?_
                      refine (r_aload_n L_185_148 rfl).trans ?_
                      refine (r_dupr L_185_149).trans ?_
                      refine (r_getfiv L_185_150 gf_64_50 ((rd_un (by decide)).trans (rd_uj (by decide)))).trans ?_
                      refine (r_iconst L_185_151 ki_1).trans ?_
                      refine (r_iadd L_185_152).trans ?_
                      refine (r_putfi L_185_153 gf_64_50).trans ?_
                      refine (r_iload_n L_185_154 rfl).trans ?_
                      refine (r_iconst L_185_155 ki_1).trans ?_
                      refine (r_iadd L_185_156).trans ?_
                      exact r_ret L_185_157 mz_185
                    · refine (r_iload_n L_185_154 rfl).trans ?_
                      refine (r_iconst L_185_155 ki_1).trans ?_
                      refine (r_iadd L_185_156).trans ?_
                      exact r_ret L_185_157 mz_185
set_option maxRecDepth 100000 in
set_option maxHeartbeats 4000000 in
theorem q_M_isStandParameter_64 (ρ : Nat × (Nat → Int32)) (σ : rd_Sg) (x1 x2 x3 : Int32) : rd_R ρ 147 0 [some (.ref 64), some (.int x1), some (.int x2), some (.int x3)] [] σ = ((rd_R ρ 146 0 [some (.ref 64), some (.int x1), some (.int x2)] [] σ).bind fun q0 => (rd_chk q0.1 96 ((if (((q0.2 68 (q0.1).toNatClampNeg) >>> (x3 &&& 31)) &&& 1) = 1 then some (1, q0.2) else some (0, q0.2))))) := by
  refine (r_aload_n L_147_0 rfl).trans ?_
  refine (r_getfr L_147_1 gf_64_4).trans ?_
  refine (r_aload_n L_147_2 rfl).trans ?_
  refine (r_iload_n L_147_3 rfl).trans ?_
  refine (r_iload_n L_147_4 rfl).trans ?_
  refine (r_callV L_147_5 rfl isI_146 rfl).trans ?_
  refine bi_c (fun q0 => ?_)
  refine (r_iald L_147_6 ar_68).trans ?_
  refine ck_c ?_
  refine (r_iload_n L_147_7 rfl).trans ?_
  refine (r_ishr L_147_8).trans ?_
  refine (r_iconst L_147_9 ki_1).trans ?_
  refine (r_iand L_147_10).trans ?_
  refine (r_iconst L_147_11 ki_1).trans ?_
  refine (r_cmpne L_147_12).trans ?_
  refine it_c ?_ ?_
  · refine (r_iconst L_147_13 ki_1).trans ?_
    refine (r_goto L_147_14).trans ?_
    exact r_ret1 L_147_16 mz_147
  · refine (r_iconst L_147_15 ki_0).trans ?_
    exact r_ret0 L_147_16 mz_147
set_option maxRecDepth 100000 in
set_option maxHeartbeats 4000000 in
theorem q_M_ruleFor_64 (ρ : Nat × (Nat → Int32)) (σ : rd_Sg) (x1 x2 x3 x4 x5 : Int32) : rd_R ρ 161 0 [some (.ref 64), some (.int x1), some (.int x2), some (.int x3), some (.int x4), some (.int x5), none] [] σ = rd_R ρ 161 5 [some (.ref 64), some (.int x1), some (.int x2), some (.int x3), some (.int x4), some (.int x5), some (.int ((σ 64 16) - 1))] [] σ := by
  refine (r_aload_n L_161_0 rfl).trans ?_
  refine (r_getfi L_161_1 gf_64_16).trans ?_
  refine (r_iconst L_161_2 ki_1).trans ?_
  refine (r_isub L_161_3).trans ?_
  refine (r_istore L_161_4 rfl).trans ?_
  rfl
set_option maxRecDepth 100000 in
set_option maxHeartbeats 4000000 in
theorem q_M_ruleFor_64_at5 (ρ : Nat × (Nat → Int32)) (σ : rd_Sg) (x1 x2 x3 x4 x5 x6 : Int32) : rd_R ρ 161 5 [some (.ref 64), some (.int x1), some (.int x2), some (.int x3), some (.int x4), some (.int x5), some (.int x6)] [] σ = (if x6 < 0 then some (((-1) : Int32), σ) else (rd_chk x6 80 ((if 0 < (σ 79 x6.toNatClampNeg) then ((rd_R ρ 151 0 [some (.ref 64), some (.int x6), some (.int x1), some (.int x2), some (.int x3), some (.int x4), some (.int x5), none] [] σ).bind fun q2 => (if q2.1 = 0 then rd_R ρ 161 23 [some (.ref 64), some (.int x1), some (.int x2), some (.int x3), some (.int x4), some (.int x5), some (.int x6)] [] q2.2 else some (x6, q2.2))) else rd_R ρ 161 23 [some (.ref 64), some (.int x1), some (.int x2), some (.int x3), some (.int x4), some (.int x5), some (.int x6)] [] σ)))) := by
  refine (r_iload L_161_5 rfl).trans ?_
  refine (r_iflt L_161_6).trans ?_
  refine it_c ?_ ?_
  · refine (r_iconst L_161_25 ki_m1).trans ?_
    exact r_ret L_161_26 mz_161
  · refine (r_aload_n L_161_7 rfl).trans ?_
    refine (r_getfr L_161_8 gf_64_17).trans ?_
    refine (r_iload L_161_9 rfl).trans ?_
    refine (r_iald L_161_10 ar_79).trans ?_
    refine ck_c ?_
    refine (r_ifle L_161_11).trans ?_
    refine it_c ?_ ?_
    · refine (r_aload_n L_161_12 rfl).trans ?_
      refine (r_iload L_161_13 rfl).trans ?_
      refine (r_iload_n L_161_14 rfl).trans ?_
      refine (r_iload_n L_161_15 rfl).trans ?_
      refine (r_iload_n L_161_16 rfl).trans ?_
      refine (r_iload L_161_17 rfl).trans ?_
      refine (r_iload L_161_18 rfl).trans ?_
      refine (r_callV L_161_19 rfl isI_151 rfl).trans ?_
      refine bi_c (fun q2 => ?_)
      refine (r_ifeq L_161_20).trans ?_
      refine it_c ?_ ?_
      · rfl
      · refine (r_iload L_161_21 rfl).trans ?_
        exact r_ret L_161_22 mz_161
    · rfl
set_option maxRecDepth 100000 in
set_option maxHeartbeats 4000000 in
theorem q_M_ruleFor_64_at23 (ρ : Nat × (Nat → Int32)) (σ : rd_Sg) (x1 x2 x3 x4 x5 x6 : Int32) : rd_R ρ 161 23 [some (.ref 64), some (.int x1), some (.int x2), some (.int x3), some (.int x4), some (.int x5), some (.int x6)] [] σ = rd_R ρ 161 5 [some (.ref 64), some (.int x1), some (.int x2), some (.int x3), some (.int x4), some (.int x5), some (.int (x6 + (-1)))] [] σ := by
  refine (r_iinc L_161_23 rfl ki_m1 rfl).trans ?_
  refine (r_goto L_161_24).trans ?_
  rfl
set_option maxRecDepth 100000 in
set_option maxHeartbeats 4000000 in
theorem q_M_sumOf_64 (ρ : Nat × (Nat → Int32)) (σ : rd_Sg) (x1 x2 x3 x4 : Int32) : rd_R ρ 159 0 [some (.ref 64), some (.int x1), some (.int x2), some (.int x3), some (.int x4), none, none, none] [] σ = (rd_chk x1 96 ((rd_chk x1 96 ((if 0 < (σ 67 x1.toNatClampNeg) then (if ((σ 68 x1.toNatClampNeg) &&& 1) = 0 then rd_R ρ 159 19 [some (.ref 64), some (.int x1), some (.int x2), some (.int x3), some (.int x4), some (.int (σ 67 x1.toNatClampNeg)), some (.int (σ 68 x1.toNatClampNeg)), none] [.int x2] σ else rd_R ρ 159 18 [some (.ref 64), some (.int x1), some (.int x2), some (.int x3), some (.int x4), some (.int (σ 67 x1.toNatClampNeg)), some (.int (σ 68 x1.toNatClampNeg)), none] [] σ) else rd_R ρ 159 18 [some (.ref 64), some (.int x1), some (.int x2), some (.int x3), some (.int x4), some (.int (σ 67 x1.toNatClampNeg)), some (.int (σ 68 x1.toNatClampNeg)), none] [] σ))))) := by
  refine (r_aload_n L_159_0 rfl).trans ?_
  refine (r_getfr L_159_1 gf_64_3).trans ?_
  refine (r_iload_n L_159_2 rfl).trans ?_
  refine (r_iald L_159_3 ar_67).trans ?_
  refine ck_c ?_
  refine (r_istore L_159_4 rfl).trans ?_
  refine (r_aload_n L_159_5 rfl).trans ?_
  refine (r_getfr L_159_6 gf_64_4).trans ?_
  refine (r_iload_n L_159_7 rfl).trans ?_
  refine (r_iald L_159_8 ar_68).trans ?_
  refine ck_c ?_
  refine (r_istore L_159_9 rfl).trans ?_
  refine (r_iload L_159_10 rfl).trans ?_
  refine (r_ifle L_159_11).trans ?_
  refine it_c ?_ ?_
  · refine (r_iload L_159_12 rfl).trans ?_
    refine (r_iconst L_159_13 ki_1).trans ?_
    refine (r_iand L_159_14).trans ?_
    refine (r_ifne L_159_15).trans ?_
    refine it_c ?_ ?_
    · refine (r_iload_n L_159_16 rfl).trans ?_
      refine (r_goto L_159_17).trans ?_
      rfl
    · rfl
  · rfl
set_option maxRecDepth 100000 in
set_option maxHeartbeats 4000000 in
theorem q_M_sumOf_64_at18 (ρ : Nat × (Nat → Int32)) (σ : rd_Sg) (x3 x4 x5 x6 : Int32) (o0 o1 o2 o7 : Option Value) : rd_R ρ 159 18 [o0, o1, o2, some (.int x3), some (.int x4), some (.int x5), some (.int x6), o7] [] σ = rd_R ρ 159 19 [o0, o1, o2, some (.int x3), some (.int x4), some (.int x5), some (.int x6), o7] [.int 0] σ := by
  refine (r_iconst L_159_18 ki_0).trans ?_
  rfl
set_option maxRecDepth 100000 in
set_option maxHeartbeats 4000000 in
theorem q_M_sumOf_64_at19 (ρ : Nat × (Nat → Int32)) (σ : rd_Sg) (x3 x4 x5 x6 s0 : Int32) (o0 o1 o2 o7 : Option Value) : rd_R ρ 159 19 [o0, o1, o2, some (.int x3), some (.int x4), some (.int x5), some (.int x6), o7] [.int s0] σ = (if 1 < x5 then (if (x6 &&& 2) = 0 then rd_R ρ 159 31 [o0, o1, o2, some (.int x3), some (.int x4), some (.int x5), some (.int x6), some (.int s0)] [.int x3, .int s0] σ else rd_R ρ 159 30 [o0, o1, o2, some (.int x3), some (.int x4), some (.int x5), some (.int x6), some (.int s0)] [.int s0] σ) else rd_R ρ 159 30 [o0, o1, o2, some (.int x3), some (.int x4), some (.int x5), some (.int x6), some (.int s0)] [.int s0] σ) := by
  refine (r_istore L_159_19 rfl).trans ?_
  refine (r_iload L_159_20 rfl).trans ?_
  refine (r_iload L_159_21 rfl).trans ?_
  refine (r_iconst L_159_22 ki_1).trans ?_
  refine (r_cmple L_159_23).trans ?_
  refine it_c ?_ ?_
  · refine (r_iload L_159_24 rfl).trans ?_
    refine (r_iconst L_159_25 ki_2).trans ?_
    refine (r_iand L_159_26).trans ?_
    refine (r_ifne L_159_27).trans ?_
    refine it_c ?_ ?_
    · refine (r_iload_n L_159_28 rfl).trans ?_
      refine (r_goto L_159_29).trans ?_
      rfl
    · rfl
  · rfl
set_option maxRecDepth 100000 in
set_option maxHeartbeats 4000000 in
theorem q_M_sumOf_64_at30 (ρ : Nat × (Nat → Int32)) (σ : rd_Sg) (x4 x5 x6 s0 : Int32) (o0 o1 o2 o3 o7 : Option Value) : rd_R ρ 159 30 [o0, o1, o2, o3, some (.int x4), some (.int x5), some (.int x6), o7] [.int s0] σ = rd_R ρ 159 31 [o0, o1, o2, o3, some (.int x4), some (.int x5), some (.int x6), o7] [.int 0, .int s0] σ := by
  refine (r_iconst L_159_30 ki_0).trans ?_
  rfl
set_option maxRecDepth 100000 in
set_option maxHeartbeats 4000000 in
theorem q_M_sumOf_64_at31 (ρ : Nat × (Nat → Int32)) (σ : rd_Sg) (x4 x5 x6 s0 s1 : Int32) (o0 o1 o2 o3 o7 : Option Value) : rd_R ρ 159 31 [o0, o1, o2, o3, some (.int x4), some (.int x5), some (.int x6), o7] [.int s1, .int s0] σ = (if 2 < x5 then (if (x6 &&& 4) = 0 then some (((s0 + s1) + x4), σ) else some (((s0 + s1) + 0), σ)) else some (((s0 + s1) + 0), σ)) := by
  refine (r_iadd L_159_31).trans ?_
  refine (r_istore L_159_32 rfl).trans ?_
  refine (r_iload L_159_33 rfl).trans ?_
  refine (r_iload L_159_34 rfl).trans ?_
  refine (r_iconst L_159_35 ki_2).trans ?_
  refine (r_cmple L_159_36).trans ?_
  refine it_c ?_ ?_
  · refine (r_iload L_159_37 rfl).trans ?_
    refine (r_iconst L_159_38 ki_4).trans ?_
    refine (r_iand L_159_39).trans ?_
    refine (r_ifne L_159_40).trans ?_
    refine it_c ?_ ?_
    · refine (r_iload L_159_41 rfl).trans ?_
      refine (r_goto L_159_42).trans ?_
      refine (r_iadd L_159_44).trans ?_
      exact r_ret L_159_45 mz_159
    · refine (r_iconst L_159_43 ki_0).trans ?_
      refine (r_iadd L_159_44).trans ?_
      exact r_ret L_159_45 mz_159
  · refine (r_iconst L_159_43 ki_0).trans ?_
    refine (r_iadd L_159_44).trans ?_
    exact r_ret L_159_45 mz_159
set_option maxRecDepth 100000 in
set_option maxHeartbeats 4000000 in
theorem q_M_through_64 (ρ : Nat × (Nat → Int32)) (σ : rd_Sg) (x1 x2 x3 : Int32) : rd_R ρ 160 0 [some (.ref 64), some (.int x1), some (.int x2), some (.int x3), none, none] [] σ = (rd_chk x1 24 ((if (σ 72 x1.toNatClampNeg) < 0 then some (0, (rd_u σ 64 31 3)) else (rd_chk (σ 72 x1.toNatClampNeg) 6 (((rd_R ρ 137 0 [some (.int ((σ 73 (σ 72 x1.toNatClampNeg).toNatClampNeg) + x3)), some (.int 0), some (.int 255)] [] σ).bind fun q1 => (if q1.1 = 0 then ((rd_R ρ 158 0 [some (.ref 64), some (.int x2), some (.int 7), none] [] q1.2).bind fun q3 => some (0, q3.2)) else (rd_chk (σ 72 x1.toNatClampNeg) 6 (((rd_R ρ 157 0 [some (.ref 64), some (.int 1), some (.int ((σ 73 (σ 72 x1.toNatClampNeg).toNatClampNeg) + x3))] [] (rd_u q1.2 73 (σ 72 x1.toNatClampNeg).toNatClampNeg ((σ 73 (σ 72 x1.toNatClampNeg).toNatClampNeg) + x3))).bind fun q3 => some (0, q3.2))))))))))) := by
  refine (r_aload_n L_160_0 rfl).trans ?_
  refine (r_getfr L_160_1 gf_64_9).trans ?_
  refine (r_iload_n L_160_2 rfl).trans ?_
  refine (r_iald L_160_3 ar_72).trans ?_
  refine ck_c ?_
  refine (r_istore L_160_4 rfl).trans ?_
  refine (r_iload L_160_5 rfl).trans ?_
  refine (r_ifge L_160_6).trans ?_
  refine it_c ?_ ?_
  · refine (r_aload_n L_160_7 rfl).trans ?_
    refine (r_iconst L_160_8 ki_3).trans ?_
    refine (r_putfi L_160_9 gf_64_31).trans ?_
    exact r_retv L_160_10
  · refine (r_aload_n L_160_11 rfl).trans ?_
    refine (r_getfr L_160_12 gf_64_10).trans ?_
    refine (r_iload L_160_13 rfl).trans ?_
    refine (r_iald L_160_14 ar_73).trans ?_
    refine ck_c ?_
    refine (r_iload_n L_160_15 rfl).trans ?_
    refine (r_iadd L_160_16).trans ?_
    refine (r_istore L_160_17 rfl).trans ?_
    refine (r_iload L_160_18 rfl).trans ?_
    refine (r_iconst L_160_19 ki_0).trans ?_
    refine (r_sipush L_160_20 ks_255).trans ?_
    refine (r_callS L_160_21 rfl isI_137 rfl).trans ?_
    refine bi_c (fun q1 => ?_)
    refine (r_ifne L_160_22).trans ?_
    refine it_c ?_ ?_
    · refine (r_aload_n L_160_23 rfl).trans ?_
      refine (r_iload_n L_160_24 rfl).trans ?_
      refine (r_bipush L_160_25 kb_7).trans ?_
      refine (r_callVv L_160_26 rfl isI_158 (by decide) rfl).trans ?_
      refine bi_c (fun q3 => ?_)
      exact r_retv L_160_27
    · refine (r_aload_n L_160_28 rfl).trans ?_
      refine (r_getfr L_160_29 gf_64_10).trans ?_
      refine (r_iload L_160_30 rfl).trans ?_
      refine (r_iload L_160_31 rfl).trans ?_
      refine (r_iast L_160_32 ar_73).trans ?_
      refine ck_c ?_
      refine (r_aload_n L_160_33 rfl).trans ?_
      refine (r_iconst L_160_34 ki_1).trans ?_
      refine (r_iload L_160_35 rfl).trans ?_
      refine (r_callVv L_160_36 rfl isI_157 (by decide) rfl).trans ?_
      refine bi_c (fun q3 => ?_)
      exact r_retv L_160_37
set_option maxRecDepth 100000 in
set_option maxHeartbeats 4000000 in
theorem q_M_byRule_64 (ρ : Nat × (Nat → Int32)) (σ : rd_Sg) (x1 x2 x3 x4 x5 x6 : Int32) : rd_R ρ 162 0 [some (.ref 64), some (.int x1), some (.int x2), some (.int x3), some (.int x4), some (.int x5), some (.int x6), none, none] [] σ = (rd_chk x1 80 ((rd_chk x1 80 ((if (σ 82 x1.toNatClampNeg) < (σ 79 x1.toNatClampNeg) then (rd_chk x1 80 (rd_R ρ 162 20 [some (.ref 64), some (.int x1), some (.int x2), some (.int x3), some (.int x4), some (.int x5), some (.int x6), none, none] [.int (σ 82 x1.toNatClampNeg)] σ)) else (rd_chk x1 80 (rd_R ρ 162 20 [some (.ref 64), some (.int x1), some (.int x2), some (.int x3), some (.int x4), some (.int x5), some (.int x6), none, none] [.int ((σ 79 x1.toNatClampNeg) - 1)] σ))))))) := by
  refine (r_aload_n L_162_0 rfl).trans ?_
  refine (r_getfr L_162_1 gf_64_20).trans ?_
  refine (r_iload_n L_162_2 rfl).trans ?_
  refine (r_iald L_162_3 ar_82).trans ?_
  refine ck_c ?_
  refine (r_aload_n L_162_4 rfl).trans ?_
  refine (r_getfr L_162_5 gf_64_17).trans ?_
  refine (r_iload_n L_162_6 rfl).trans ?_
  refine (r_iald L_162_7 ar_79).trans ?_
  refine ck_c ?_
  refine (r_cmpge L_162_8).trans ?_
  refine it_c ?_ ?_
  · refine (r_aload_n L_162_9 rfl).trans ?_
    refine (r_getfr L_162_10 gf_64_20).trans ?_
    refine (r_iload_n L_162_11 rfl).trans ?_
    refine (r_iald L_162_12 ar_82).trans ?_
    refine ck_c ?_
    refine (r_goto L_162_13).trans ?_
    rfl
  · refine (r_aload_n L_162_14 rfl).trans ?_
    refine (r_getfr L_162_15 gf_64_17).trans ?_
    refine (r_iload_n L_162_16 rfl).trans ?_
    refine (r_iald L_162_17 ar_79).trans ?_
    refine ck_c ?_
    refine (r_iconst L_162_18 ki_1).trans ?_
    refine (r_isub L_162_19).trans ?_
    rfl
set_option maxRecDepth 100000 in
set_option maxHeartbeats 4000000 in
theorem q_M_byRule_64_at20 (ρ : Nat × (Nat → Int32)) (σ : rd_Sg) (x1 x2 x3 x4 x5 x6 s0 : Int32) (o7 o8 : Option Value) : rd_R ρ 162 20 [some (.ref 64), some (.int x1), some (.int x2), some (.int x3), some (.int x4), some (.int x5), some (.int x6), o7, o8] [.int s0] σ = (rd_chk x1 80 ((rd_chk x1 80 (rd_R ρ 162 31 [some (.ref 64), some (.int x1), some (.int x2), some (.int x3), some (.int x4), some (.int x5), some (.int x6), some (.int s0), some (.int 0)] [] (rd_u σ 82 x1.toNatClampNeg ((σ 82 x1.toNatClampNeg) + 1)))))) := by
  refine (r_istore L_162_20 rfl).trans ?_
  refine (r_aload_n L_162_21 rfl).trans ?_
  refine (r_getfr L_162_22 gf_64_20).trans ?_
  refine (r_iload_n L_162_23 rfl).trans ?_
  refine (r_dup2 L_162_24).trans ?_
  refine (r_iald L_162_25 ar_82).trans ?_
  refine ck_c ?_
  refine (r_iconst L_162_26 ki_1).trans ?_
  refine (r_iadd L_162_27).trans ?_
  refine (r_iast L_162_28 ar_82).trans ?_
  refine ck_c ?_
  refine (r_iconst L_162_29 ki_0).trans ?_
  refine (r_istore L_162_30 rfl).trans ?_
  rfl
set_option maxRecDepth 100000 in
set_option maxHeartbeats 4000000 in
theorem q_M_byRule_64_at31 (ρ : Nat × (Nat → Int32)) (σ : rd_Sg) (x1 x2 x3 x4 x5 x6 x7 x8 : Int32) : rd_R ρ 162 31 [some (.ref 64), some (.int x1), some (.int x2), some (.int x3), some (.int x4), some (.int x5), some (.int x6), some (.int x7), some (.int x8)] [] σ = (rd_chk x3 96 ((if x8 < (σ 67 x3.toNatClampNeg) then (rd_chk ((3 * x1) + x8) 360 ((if (σ 76 ((3 * x1) + x8).toNatClampNeg) = 6 then (rd_chk ((3 * x1) + x8) 240 ((if x8 = 0 then rd_R ρ 162 73 [some (.ref 64), some (.int x1), some (.int x2), some (.int x3), some (.int x4), some (.int x5), some (.int x6), some (.int x7), some (.int x8)] [.int x4, .int ((3 * x1) + x8), .ref 84] (rd_u σ 83 ((3 * x1) + x8).toNatClampNeg (1 &&& 1)) else (if x8 = 1 then rd_R ρ 162 73 [some (.ref 64), some (.int x1), some (.int x2), some (.int x3), some (.int x4), some (.int x5), some (.int x6), some (.int x7), some (.int x8)] [.int x5, .int ((3 * x1) + x8), .ref 84] (rd_u σ 83 ((3 * x1) + x8).toNatClampNeg (1 &&& 1)) else rd_R ρ 162 73 [some (.ref 64), some (.int x1), some (.int x2), some (.int x3), some (.int x4), some (.int x5), some (.int x6), some (.int x7), some (.int x8)] [.int x6, .int ((3 * x1) + x8), .ref 84] (rd_u σ 83 ((3 * x1) + x8).toNatClampNeg (1 &&& 1)))))) else rd_R ρ 162 74 [some (.ref 64), some (.int x1), some (.int x2), some (.int x3), some (.int x4), some (.int x5), some (.int x6), some (.int x7), some (.int x8)] [] σ))) else (rd_chk ((6 * x1) + x7) 480 ((rd_chk ((6 * x1) + x7) 480 ((if (σ 80 ((6 * x1) + x7).toNatClampNeg) = 0 then ((rd_R ρ 157 0 [some (.ref 64), some (.int 1), some (.int (σ 81 ((6 * x1) + x7).toNatClampNeg))] [] σ).bind fun q2 => some (0, q2.2)) else (if (σ 80 ((6 * x1) + x7).toNatClampNeg) = 1 then ((rd_R ρ 157 0 [some (.ref 64), some (.int 2), some (.int (σ 81 ((6 * x1) + x7).toNatClampNeg))] [] σ).bind fun q2 => some (0, q2.2)) else (if (σ 80 ((6 * x1) + x7).toNatClampNeg) = 2 then ((rd_R ρ 158 0 [some (.ref 64), some (.int x3), some (.int (σ 81 ((6 * x1) + x7).toNatClampNeg)), none] [] σ).bind fun q2 => some (0, q2.2)) else (if (σ 80 ((6 * x1) + x7).toNatClampNeg) = 3 then ((rd_R ρ 159 0 [some (.ref 64), some (.int x3), some (.int x4), some (.int x5), some (.int x6), none, none, none] [] σ).bind fun q2 => ((rd_R ρ 157 0 [some (.ref 64), some (.int 1), some (.int ((σ 81 ((6 * x1) + x7).toNatClampNeg) + q2.1))] [] q2.2).bind fun q3 => some (0, q3.2))) else (if (σ 80 ((6 * x1) + x7).toNatClampNeg) = 4 then (rd_chk x3 96 ((if (((σ 68 x3.toNatClampNeg) >>> ((σ 81 ((6 * x1) + x7).toNatClampNeg) &&& 31)) &&& 1) = 1 then (if (σ 81 ((6 * x1) + x7).toNatClampNeg) = 0 then ((rd_R ρ 157 0 [some (.ref 64), some (.int 2), some (.int x4)] [] σ).bind fun q4 => some (0, q4.2)) else (if (σ 81 ((6 * x1) + x7).toNatClampNeg) = 1 then ((rd_R ρ 157 0 [some (.ref 64), some (.int 2), some (.int x5)] [] σ).bind fun q5 => some (0, q5.2)) else ((rd_R ρ 157 0 [some (.ref 64), some (.int 2), some (.int x6)] [] σ).bind fun q5 => some (0, q5.2)))) else (if (σ 81 ((6 * x1) + x7).toNatClampNeg) = 0 then ((rd_R ρ 157 0 [some (.ref 64), some (.int 1), some (.int x4)] [] σ).bind fun q4 => some (0, q4.2)) else (if (σ 81 ((6 * x1) + x7).toNatClampNeg) = 1 then ((rd_R ρ 157 0 [some (.ref 64), some (.int 1), some (.int x5)] [] σ).bind fun q5 => some (0, q5.2)) else ((rd_R ρ 157 0 [some (.ref 64), some (.int 1), some (.int x6)] [] σ).bind fun q5 => some (0, q5.2))))))) else ((rd_R ρ 159 0 [some (.ref 64), some (.int x3), some (.int x4), some (.int x5), some (.int x6), none, none, none] [] σ).bind fun q2 => ((rd_R ρ 160 0 [some (.ref 64), some (.int x2), some (.int x3), some (.int q2.1), none, none] [] q2.2).bind fun q3 => some (0, q3.2))))))))))))))) := by
  refine (r_iload L_162_31 rfl).trans ?_
  refine (r_aload_n L_162_32 rfl).trans ?_
  refine (r_getfr L_162_33 gf_64_3).trans ?_
  refine (r_iload_n L_162_34 rfl).trans ?_
  refine (r_iald L_162_35 ar_67).trans ?_
  refine ck_c ?_
  refine (r_cmpge L_162_36).trans ?_
  refine it_c ?_ ?_
  · refine (r_aload_n L_162_37 rfl).trans ?_
    refine (r_getfr L_162_38 gf_64_13).trans ?_
    refine (r_iconst L_162_39 ki_3).trans ?_
    refine (r_iload_n L_162_40 rfl).trans ?_
    refine (r_imul L_162_41).trans ?_
    refine (r_iload L_162_42 rfl).trans ?_
    refine (r_iadd L_162_43).trans ?_
    refine (r_iald L_162_44 ar_76).trans ?_
    refine ck_c ?_
    refine (r_bipush L_162_45 kb_6).trans ?_
    refine (r_cmpne L_162_46).trans ?_
    refine it_c ?_ ?_
    · refine (r_aload_n L_162_47 rfl).trans ?_
      refine (r_getfr L_162_48 gf_64_21).trans ?_
      refine (r_iconst L_162_49 ki_3).trans ?_
      refine (r_iload_n L_162_50 rfl).trans ?_
      refine (r_imul L_162_51).trans ?_
      refine (r_iload L_162_52 rfl).trans ?_
      refine (r_iadd L_162_53).trans ?_
      refine (r_iconst L_162_54 ki_1).trans ?_
      refine (r_zast L_162_55 ar_83).trans ?_
      refine ck_c ?_
      refine (r_aload_n L_162_56 rfl).trans ?_
      refine (r_getfr L_162_57 gf_64_22).trans ?_
      refine (r_iconst L_162_58 ki_3).trans ?_
      refine (r_iload_n L_162_59 rfl).trans ?_
      refine (r_imul L_162_60).trans ?_
      refine (r_iload L_162_61 rfl).trans ?_
      refine (r_iadd L_162_62).trans ?_
      refine (r_iload L_162_63 rfl).trans ?_
      refine (r_ifne L_162_64).trans ?_
      refine it_c ?_ ?_
      · refine (r_iload L_162_65 rfl).trans ?_
        refine (r_goto L_162_66).trans ?_
        rfl
      · refine (r_iload L_162_67 rfl).trans ?_
        refine (r_iconst L_162_68 ki_1).trans ?_
        refine (r_cmpne L_162_69).trans ?_
        refine it_c ?_ ?_
        · refine (r_iload L_162_70 rfl).trans ?_
          refine (r_goto L_162_71).trans ?_
          rfl
        · refine (r_iload L_162_72 rfl).trans ?_
          rfl
    · rfl
  · refine (r_aload_n L_162_76 rfl).trans ?_
    refine (r_getfr L_162_77 gf_64_19).trans ?_
    refine (r_bipush L_162_78 kb_6).trans ?_
    refine (r_iload_n L_162_79 rfl).trans ?_
    refine (r_imul L_162_80).trans ?_
    refine (r_iload L_162_81 rfl).trans ?_
    refine (r_iadd L_162_82).trans ?_
    refine (r_iald L_162_83 ar_81).trans ?_
    refine ck_c ?_
    refine (r_istore L_162_84 rfl).trans ?_
    refine (r_aload_n L_162_85 rfl).trans ?_
    refine (r_getfr L_162_86 gf_64_18).trans ?_
    refine (r_bipush L_162_87 kb_6).trans ?_
    refine (r_iload_n L_162_88 rfl).trans ?_
    refine (r_imul L_162_89).trans ?_
    refine (r_iload L_162_90 rfl).trans ?_
    refine (r_iadd L_162_91).trans ?_
    refine (r_iald L_162_92 ar_80).trans ?_
    refine ck_c ?_
    refine (r_tsw L_162_93).trans ?_
    refine (r_swc ki_0 rfl).trans ?_
    refine it_c ?_ ?_
    · refine (r_aload_n L_162_94 rfl).trans ?_
      refine (r_iconst L_162_95 ki_1).trans ?_
      refine (r_iload L_162_96 rfl).trans ?_
      refine (r_callVv L_162_97 rfl isI_157 (by decide) rfl).trans ?_
      refine bi_c (fun q2 => ?_)
      refine (r_goto L_162_98).trans ?_
      exact r_retv L_162_157
    · refine (r_swc ki_1 rfl).trans ?_
      refine it_c ?_ ?_
      · refine (r_aload_n L_162_99 rfl).trans ?_
        refine (r_iconst L_162_100 ki_2).trans ?_
        refine (r_iload L_162_101 rfl).trans ?_
        refine (r_callVv L_162_102 rfl isI_157 (by decide) rfl).trans ?_
        refine bi_c (fun q2 => ?_)
        refine (r_goto L_162_103).trans ?_
        exact r_retv L_162_157
      · refine (r_swc ki_2 rfl).trans ?_
        refine it_c ?_ ?_
        · refine (r_aload_n L_162_104 rfl).trans ?_
          refine (r_iload_n L_162_105 rfl).trans ?_
          refine (r_iload L_162_106 rfl).trans ?_
          refine (r_callVv L_162_107 rfl isI_158 (by decide) rfl).trans ?_
          refine bi_c (fun q2 => ?_)
          refine (r_goto L_162_108).trans ?_
          exact r_retv L_162_157
        · refine (r_swc ki_3 rfl).trans ?_
          refine it_c ?_ ?_
          · refine (r_aload_n L_162_109 rfl).trans ?_
            refine (r_iconst L_162_110 ki_1).trans ?_
            refine (r_iload L_162_111 rfl).trans ?_
            refine (r_aload_n L_162_112 rfl).trans ?_
            refine (r_iload_n L_162_113 rfl).trans ?_
            refine (r_iload L_162_114 rfl).trans ?_
            refine (r_iload L_162_115 rfl).trans ?_
            refine (r_iload L_162_116 rfl).trans ?_
            refine (r_callV L_162_117 rfl isI_159 rfl).trans ?_
            refine bi_c (fun q2 => ?_)
            refine (r_iadd L_162_118).trans ?_
            refine (r_callVv L_162_119 rfl isI_157 (by decide) rfl).trans ?_
            refine bi_c (fun q3 => ?_)
            refine (r_goto L_162_120).trans ?_
            exact r_retv L_162_157
          · refine (r_swc ki_4 rfl).trans ?_
            refine it_c ?_ ?_
            · refine (r_aload_n L_162_121 rfl).trans ?_
              refine (r_aload_n L_162_122 rfl).trans ?_
              refine (r_getfr L_162_123 gf_64_4).trans ?_
              refine (r_iload_n L_162_124 rfl).trans ?_
              refine (r_iald L_162_125 ar_68).trans ?_
              refine ck_c ?_
              refine (r_iload L_162_126 rfl).trans ?_
              refine (r_ishr L_162_127).trans ?_
              refine (r_iconst L_162_128 ki_1).trans ?_
              refine (r_iand L_162_129).trans ?_
              refine (r_iconst L_162_130 ki_1).trans ?_
              refine (r_cmpne L_162_131).trans ?_
              refine it_c ?_ ?_
              · refine (r_iconst L_162_132 ki_2).trans ?_
                refine (r_goto L_162_133).trans ?_
                refine (r_iload L_162_135 rfl).trans ?_
                refine (r_ifne L_162_136).trans ?_
                refine it_c ?_ ?_
                · refine (r_iload L_162_137 rfl).trans ?_
                  refine (r_goto L_162_138).trans ?_
                  refine (r_callVv L_162_145 rfl isI_157 (by decide) rfl).trans ?_
                  refine bi_c (fun q4 => ?_)
                  refine (r_goto L_162_146).trans ?_
                  exact r_retv L_162_157
                · refine (r_iload L_162_139 rfl).trans ?_
                  refine (r_iconst L_162_140 ki_1).trans ?_
                  refine (r_cmpne L_162_141).trans ?_
                  refine it_c ?_ ?_
                  · refine (r_iload L_162_142 rfl).trans ?_
                    refine (r_goto L_162_143).trans ?_
                    refine (r_callVv L_162_145 rfl isI_157 (by decide) rfl).trans ?_
                    refine bi_c (fun q5 => ?_)
                    refine (r_goto L_162_146).trans ?_
                    exact r_retv L_162_157
                  · refine (r_iload L_162_144 rfl).trans ?_
                    refine (r_callVv L_162_145 rfl isI_157 (by decide) rfl).trans ?_
                    refine bi_c (fun q5 => ?_)
                    refine (r_goto L_162_146).trans ?_
                    exact r_retv L_162_157
              · refine (r_iconst L_162_134 ki_1).trans ?_
                refine (r_iload L_162_135 rfl).trans ?_
                refine (r_ifne L_162_136).trans ?_
                refine it_c ?_ ?_
                · refine (r_iload L_162_137 rfl).trans ?_
                  refine (r_goto L_162_138).trans ?_
                  refine (r_callVv L_162_145 rfl isI_157 (by decide) rfl).trans ?_
                  refine bi_c (fun q4 => ?_)
                  refine (r_goto L_162_146).trans ?_
                  exact r_retv L_162_157
                · refine (r_iload L_162_139 rfl).trans ?_
                  refine (r_iconst L_162_140 ki_1).trans ?_
                  refine (r_cmpne L_162_141).trans ?_
                  refine it_c ?_ ?_
                  · refine (r_iload L_162_142 rfl).trans ?_
                    refine (r_goto L_162_143).trans ?_
                    refine (r_callVv L_162_145 rfl isI_157 (by decide) rfl).trans ?_
                    refine bi_c (fun q5 => ?_)
                    refine (r_goto L_162_146).trans ?_
                    exact r_retv L_162_157
                  · refine (r_iload L_162_144 rfl).trans ?_
                    refine (r_callVv L_162_145 rfl isI_157 (by decide) rfl).trans ?_
                    refine bi_c (fun q5 => ?_)
                    refine (r_goto L_162_146).trans ?_
                    exact r_retv L_162_157
            · refine (r_swn).trans ?_
              refine (r_aload_n L_162_147 rfl).trans ?_
              refine (r_iload_n L_162_148 rfl).trans ?_
              refine (r_iload_n L_162_149 rfl).trans ?_
              refine (r_aload_n L_162_150 rfl).trans ?_
              refine (r_iload_n L_162_151 rfl).trans ?_
              refine (r_iload L_162_152 rfl).trans ?_
              refine (r_iload L_162_153 rfl).trans ?_
              refine (r_iload L_162_154 rfl).trans ?_
              refine (r_callV L_162_155 rfl isI_159 rfl).trans ?_
              refine bi_c (fun q2 => ?_)
              refine (r_callVv L_162_156 rfl isI_160 (by decide) rfl).trans ?_
              refine bi_c (fun q3 => ?_)
              exact r_retv L_162_157
set_option maxRecDepth 100000 in
set_option maxHeartbeats 4000000 in
theorem q_M_byRule_64_at73 (ρ : Nat × (Nat → Int32)) (σ : rd_Sg) (x1 x2 x3 x4 x5 x6 x7 x8 s1 s2 : Int32) : rd_R ρ 162 73 [some (.ref 64), some (.int x1), some (.int x2), some (.int x3), some (.int x4), some (.int x5), some (.int x6), some (.int x7), some (.int x8)] [.int s2, .int s1, .ref 84] σ = (rd_chk s1 240 (rd_R ρ 162 74 [some (.ref 64), some (.int x1), some (.int x2), some (.int x3), some (.int x4), some (.int x5), some (.int x6), some (.int x7), some (.int x8)] [] (rd_u σ 84 s1.toNatClampNeg s2))) := by
  refine (r_iast L_162_73 ar_84).trans ?_
  refine ck_c ?_
  rfl
set_option maxRecDepth 100000 in
set_option maxHeartbeats 4000000 in
theorem q_M_byRule_64_at74 (ρ : Nat × (Nat → Int32)) (σ : rd_Sg) (x1 x2 x3 x4 x5 x6 x7 x8 : Int32) : rd_R ρ 162 74 [some (.ref 64), some (.int x1), some (.int x2), some (.int x3), some (.int x4), some (.int x5), some (.int x6), some (.int x7), some (.int x8)] [] σ = rd_R ρ 162 31 [some (.ref 64), some (.int x1), some (.int x2), some (.int x3), some (.int x4), some (.int x5), some (.int x6), some (.int x7), some (.int (x8 + 1))] [] σ := by
  refine (r_iinc L_162_74 rfl ki_1 rfl).trans ?_
  refine (r_goto L_162_75).trans ?_
  rfl
set_option maxRecDepth 100000 in
set_option maxHeartbeats 4000000 in
theorem q_M_callMeets_64 (ρ : Nat × (Nat → Int32)) (σ : rd_Sg) (x1 x2 : Int32) : rd_R ρ 173 0 [some (.ref 64), some (.int x1), some (.int x2), none] [] σ = (rd_chk (9 * x1) 4500 ((rd_chk ((9 * x1) + 1) 4500 ((rd_chk ((9 * x1) + 2) 4500 ((rd_chk ((9 * x1) + 3) 4500 ((rd_chk ((9 * x1) + 4) 4500 (((rd_R ρ 151 0 [some (.ref 64), some (.int (80 + x2)), some (.int (σ 85 (9 * x1).toNatClampNeg)), some (.int (σ 85 ((9 * x1) + 1).toNatClampNeg)), some (.int (σ 85 ((9 * x1) + 2).toNatClampNeg)), some (.int (σ 85 ((9 * x1) + 3).toNatClampNeg)), some (.int (σ 85 ((9 * x1) + 4).toNatClampNeg)), none] [] σ).bind fun q0 => some (q0.1 &&& 1, q0.2)))))))))))) := by
  refine (r_bipush L_173_0 kb_9).trans ?_
  refine (r_iload_n L_173_1 rfl).trans ?_
  refine (r_imul L_173_2).trans ?_
  refine (r_istore_n L_173_3 rfl).trans ?_
  refine (r_aload_n L_173_4 rfl).trans ?_
  refine (r_bipush L_173_5 kb_80).trans ?_
  refine (r_iload_n L_173_6 rfl).trans ?_
  refine (r_iadd L_173_7).trans ?_
  refine (r_aload_n L_173_8 rfl).trans ?_
  refine (r_getfr L_173_9 gf_64_25).trans ?_
  refine (r_iload_n L_173_10 rfl).trans ?_
  refine (r_iald L_173_11 ar_85).trans ?_
  refine ck_c ?_
  refine (r_aload_n L_173_12 rfl).trans ?_
  refine (r_getfr L_173_13 gf_64_25).trans ?_
  refine (r_iload_n L_173_14 rfl).trans ?_
  refine (r_iconst L_173_15 ki_1).trans ?_
  refine (r_iadd L_173_16).trans ?_
  refine (r_iald L_173_17 ar_85).trans ?_
  refine ck_c ?_
  refine (r_aload_n L_173_18 rfl).trans ?_
  refine (r_getfr L_173_19 gf_64_25).trans ?_
  refine (r_iload_n L_173_20 rfl).trans ?_
  refine (r_iconst L_173_21 ki_2).trans ?_
  refine (r_iadd L_173_22).trans ?_
  refine (r_iald L_173_23 ar_85).trans ?_
  refine ck_c ?_
  refine (r_aload_n L_173_24 rfl).trans ?_
  refine (r_getfr L_173_25 gf_64_25).trans ?_
  refine (r_iload_n L_173_26 rfl).trans ?_
  refine (r_iconst L_173_27 ki_3).trans ?_
  refine (r_iadd L_173_28).trans ?_
  refine (r_iald L_173_29 ar_85).trans ?_
  refine ck_c ?_
  refine (r_aload_n L_173_30 rfl).trans ?_
  refine (r_getfr L_173_31 gf_64_25).trans ?_
  refine (r_iload_n L_173_32 rfl).trans ?_
  refine (r_iconst L_173_33 ki_4).trans ?_
  refine (r_iadd L_173_34).trans ?_
  refine (r_iald L_173_35 ar_85).trans ?_
  refine ck_c ?_
  refine (r_callV L_173_36 rfl isI_151 rfl).trans ?_
  refine bi_c (fun q0 => ?_)
  exact r_retb L_173_37 mz_173
set_option maxRecDepth 100000 in
set_option maxHeartbeats 4000000 in
theorem q_M_callBy_64 (ρ : Nat × (Nat → Int32)) (σ : rd_Sg) (x1 x2 : Int32) : rd_R ρ 184 0 [some (.ref 64), some (.int x1), some (.int x2), none, none, none, none, none] [] σ = (rd_chk x1 4 ((if (σ 98 x1.toNatClampNeg) < 0 then some ((9 : Int32), σ) else ((rd_R ρ 145 0 [some (.ref 64), some (.int (σ 98 x1.toNatClampNeg)), some (.int x2)] [] σ).bind fun q1 => (if q1.1 = 0 then some ((10 : Int32), q1.2) else ((rd_R ρ 146 0 [some (.ref 64), some (.int (σ 98 x1.toNatClampNeg)), some (.int x2)] [] q1.2).bind fun q3 => ((rd_R ρ 183 0 [some (.ref 64), some (.int q3.1), some (.int 0)] [] (rd_u (rd_u q3.2 64 56 0) 64 57 0)).bind fun q4 => ((rd_R ρ 183 0 [some (.ref 64), some (.int q3.1), some (.int 1)] [] q4.2).bind fun q5 => ((rd_R ρ 183 0 [some (.ref 64), some (.int q3.1), some (.int 2)] [] q5.2).bind fun q6 => ((rd_R ρ 163 0 [some (.ref 64), some (.int (σ 98 x1.toNatClampNeg)), some (.int x2), some (.int q4.1), some (.int q5.1), some (.int q6.1), none, none, none, none, none] [] q6.2).bind fun q7 => (if (q7.2 64 30) < 0 then (rd_chk q3.1 96 ((if (q7.2 69 (q3.1).toNatClampNeg) = 1 then some (((-1) : Int32), (rd_u q7.2 97 7 (q7.2 64 29))) else (rd_chk q3.1 96 ((if (q7.2 69 (q3.1).toNatClampNeg) = 2 then some (((-1) : Int32), (rd_u q7.2 98 3 (q7.2 64 29))) else some (((-1) : Int32), q7.2))))))) else some ((q7.2 64 30), q7.2)))))))))))) := by
  refine (r_aload_n L_184_0 rfl).trans ?_
  refine (r_getfr L_184_1 gf_64_47).trans ?_
  refine (r_iload_n L_184_2 rfl).trans ?_
  refine (r_iald L_184_3 ar_98).trans ?_
  refine ck_c ?_
  refine (r_istore_n L_184_4 rfl).trans ?_
  refine (r_iload_n L_184_5 rfl).trans ?_
  refine (r_ifge L_184_6).trans ?_
  refine it_c ?_ ?_
  · refine (r_bipush L_184_7 kb_9).trans ?_
    exact r_ret L_184_8 mz_184
  · refine (r_aload_n L_184_9 rfl).trans ?_
    refine (r_iload_n L_184_10 rfl).trans ?_
    refine (r_iload_n L_184_11 rfl).trans ?_
    refine (r_callV L_184_12 rfl isI_145 rfl).trans ?_
    refine bi_c (fun q1 => ?_)
    refine (r_ifne L_184_13).trans ?_
    refine it_c ?_ ?_
    · refine (r_bipush L_184_14 kb_10).trans ?_
      exact r_ret L_184_15 mz_184
    · refine (r_aload_n L_184_16 rfl).trans ?_
      refine (r_iload_n L_184_17 rfl).trans ?_
      refine (r_iload_n L_184_18 rfl).trans ?_
      refine (r_callV L_184_19 rfl isI_146 rfl).trans ?_
      refine bi_c (fun q3 => ?_)
      refine (r_istore L_184_20 rfl).trans ?_
      refine (r_aload_n L_184_21 rfl).trans ?_
      refine (r_iconst L_184_22 ki_0).trans ?_
      refine (r_putfi L_184_23 gf_64_56).trans ?_
      refine (r_aload_n L_184_24 rfl).trans ?_
      refine (r_iconst L_184_25 ki_0).trans ?_
      refine (r_putfi L_184_26 gf_64_57).trans ?_
      refine (r_aload_n L_184_27 rfl).trans ?_
      refine (r_iload L_184_28 rfl).trans ?_
      refine (r_iconst L_184_29 ki_0).trans ?_
      refine (r_callV L_184_30 rfl isI_183 rfl).trans ?_
      refine bi_c (fun q4 => ?_)
      refine (r_istore L_184_31 rfl).trans ?_
      refine (r_aload_n L_184_32 rfl).trans ?_
      refine (r_iload L_184_33 rfl).trans ?_
      refine (r_iconst L_184_34 ki_1).trans ?_
      refine (r_callV L_184_35 rfl isI_183 rfl).trans ?_
      refine bi_c (fun q5 => ?_)
      refine (r_istore L_184_36 rfl).trans ?_
      refine (r_aload_n L_184_37 rfl).trans ?_
      refine (r_iload L_184_38 rfl).trans ?_
      refine (r_iconst L_184_39 ki_2).trans ?_
      refine (r_callV L_184_40 rfl isI_183 rfl).trans ?_
      refine bi_c (fun q6 => ?_)
      refine (r_istore L_184_41 rfl).trans ?_
      refine (r_aload_n L_184_42 rfl).trans ?_
      refine (r_iload_n L_184_43 rfl).trans ?_
      refine (r_iload_n L_184_44 rfl).trans ?_
      refine (r_iload L_184_45 rfl).trans ?_
      refine (r_iload L_184_46 rfl).trans ?_
      refine (r_iload L_184_47 rfl).trans ?_
      refine (r_callVv L_184_48 rfl isI_163 (by decide) rfl).trans ?_
      refine bi_c (fun q7 => ?_)
      refine (r_aload_n L_184_49 rfl).trans ?_
      refine (r_getfi L_184_50 gf_64_30).trans ?_
      refine (r_iflt L_184_51).trans ?_
      refine it_c ?_ ?_
      · refine (r_aload_n L_184_55 rfl).trans ?_
        refine (r_getfr L_184_56 gf_64_5).trans ?_
        refine (r_iload L_184_57 rfl).trans ?_
        refine (r_iald L_184_58 ar_69).trans ?_
        refine ck_c ?_
        refine (r_iconst L_184_59 ki_1).trans ?_
        refine (r_cmpne L_184_60).trans ?_
        refine it_c ?_ ?_
        · refine (r_aload_n L_184_61 rfl).trans ?_
          refine (r_getfr L_184_62 gf_64_46).trans ?_
          refine (r_bipush L_184_63 kb_7).trans ?_
          refine (r_aload_n L_184_64 rfl).trans ?_
          refine (r_getfi L_184_65 gf_64_29).trans ?_
          refine (r_iastc (m := 7) L_184_66 ar_97 (by decide)).trans ?_
          refine (r_goto L_184_67).trans ?_
          refine (r_iconst L_184_80 ki_m1).trans ?_
          exact r_ret L_184_81 mz_184
        · refine (r_aload_n L_184_68 rfl).trans ?_
          refine (r_getfr L_184_69 gf_64_5).trans ?_
          refine (r_iload L_184_70 rfl).trans ?_
          refine (r_iald L_184_71 ar_69).trans ?_
          refine ck_c ?_
          refine (r_iconst L_184_72 ki_2).trans ?_
          refine (r_cmpne L_184_73).trans ?_
          refine it_c ?_ ?_
          · refine (r_aload_n L_184_74 rfl).trans ?_
            refine (r_getfr L_184_75 gf_64_47).trans ?_
            refine (r_iconst L_184_76 ki_3).trans ?_
            refine (r_aload_n L_184_77 rfl).trans ?_
            refine (r_getfi L_184_78 gf_64_29).trans ?_
            refine (r_iastc (m := 3) L_184_79 ar_98 (by decide)).trans ?_
            refine (r_iconst L_184_80 ki_m1).trans ?_
            exact r_ret L_184_81 mz_184
          · refine (r_iconst L_184_80 ki_m1).trans ?_
            exact r_ret L_184_81 mz_184
      · refine (r_aload_n L_184_52 rfl).trans ?_
        refine (r_getfi L_184_53 gf_64_30).trans ?_
        exact r_ret L_184_54 mz_184
set_option maxRecDepth 100000 in
set_option maxHeartbeats 4000000 in
theorem q_M_meets_64 (ρ : Nat × (Nat → Int32)) (σ : rd_Sg) (x1 x2 x3 x4 x5 x6 : Int32) : rd_R ρ 151 0 [some (.ref 64), some (.int x1), some (.int x2), some (.int x3), some (.int x4), some (.int x5), some (.int x6), none] [] σ = (rd_chk x1 120 ((if (σ 74 x1.toNatClampNeg) = x2 then (rd_chk x1 120 ((if (σ 75 x1.toNatClampNeg) = x3 then ((rd_R ρ 146 0 [some (.ref 64), some (.int x2), some (.int x3)] [] σ).bind fun q2 => (rd_chk q2.1 96 ((if (q2.2 67 (q2.1).toNatClampNeg) < 1 then rd_R ρ 151 32 [some (.ref 64), some (.int x1), some (.int x2), some (.int x3), some (.int x4), some (.int x5), some (.int x6), some (.int (q2.2 67 (q2.1).toNatClampNeg))] [] q2.2 else ((rd_R ρ 150 0 [some (.ref 64), some (.int (3 * x1)), some (.int x4)] [] q2.2).bind fun q4 => (if q4.1 = 0 then some (0, q4.2) else rd_R ρ 151 32 [some (.ref 64), some (.int x1), some (.int x2), some (.int x3), some (.int x4), some (.int x5), some (.int x6), some (.int (q2.2 67 (q2.1).toNatClampNeg))] [] q4.2)))))) else some (0, σ)))) else some (0, σ)))) := by
  refine (r_aload_n L_151_0 rfl).trans ?_
  refine (r_getfr L_151_1 gf_64_11).trans ?_
  refine (r_iload_n L_151_2 rfl).trans ?_
  refine (r_iald L_151_3 ar_74).trans ?_
  refine ck_c ?_
  refine (r_iload_n L_151_4 rfl).trans ?_
  refine (r_cmpne L_151_5).trans ?_
  refine it_c ?_ ?_
  · refine (r_aload_n L_151_6 rfl).trans ?_
    refine (r_getfr L_151_7 gf_64_12).trans ?_
    refine (r_iload_n L_151_8 rfl).trans ?_
    refine (r_iald L_151_9 ar_75).trans ?_
    refine ck_c ?_
    refine (r_iload_n L_151_10 rfl).trans ?_
    refine (r_cmpeq L_151_11).trans ?_
    refine it_c ?_ ?_
    · refine (r_aload_n L_151_14 rfl).trans ?_
      refine (r_getfr L_151_15 gf_64_3).trans ?_
      refine (r_aload_n L_151_16 rfl).trans ?_
      refine (r_iload_n L_151_17 rfl).trans ?_
      refine (r_iload_n L_151_18 rfl).trans ?_
      refine (r_callV L_151_19 rfl isI_146 rfl).trans ?_
      refine bi_c (fun q2 => ?_)
      refine (r_iald L_151_20 ar_67).trans ?_
      refine ck_c ?_
      refine (r_istore L_151_21 rfl).trans ?_
      refine (r_iload L_151_22 rfl).trans ?_
      refine (r_iconst L_151_23 ki_1).trans ?_
      refine (r_cmplt L_151_24).trans ?_
      refine it_c ?_ ?_
      · rfl
      · refine (r_aload_n L_151_25 rfl).trans ?_
        refine (r_iconst L_151_26 ki_3).trans ?_
        refine (r_iload_n L_151_27 rfl).trans ?_
        refine (r_imul L_151_28).trans ?_
        refine (r_iload L_151_29 rfl).trans ?_
        refine (r_callV L_151_30 rfl isI_150 rfl).trans ?_
        refine bi_c (fun q4 => ?_)
        refine (r_ifeq L_151_31).trans ?_
        refine it_c ?_ ?_
        · refine (r_iconst L_151_58 ki_0).trans ?_
          exact r_ret0 L_151_59 mz_151
        · rfl
    · refine (r_iconst L_151_12 ki_0).trans ?_
      exact r_ret0 L_151_13 mz_151
  · refine (r_iconst L_151_12 ki_0).trans ?_
    exact r_ret0 L_151_13 mz_151
set_option maxRecDepth 100000 in
set_option maxHeartbeats 4000000 in
theorem q_M_meets_64_at32 (ρ : Nat × (Nat → Int32)) (σ : rd_Sg) (x1 x5 x6 x7 : Int32) (o2 o3 o4 : Option Value) : rd_R ρ 151 32 [some (.ref 64), some (.int x1), o2, o3, o4, some (.int x5), some (.int x6), some (.int x7)] [] σ = (if x7 < 2 then rd_R ρ 151 44 [some (.ref 64), some (.int x1), o2, o3, o4, some (.int x5), some (.int x6), some (.int x7)] [] σ else ((rd_R ρ 150 0 [some (.ref 64), some (.int ((3 * x1) + 1)), some (.int x5)] [] σ).bind fun q1 => (if q1.1 = 0 then some (0, q1.2) else rd_R ρ 151 44 [some (.ref 64), some (.int x1), o2, o3, o4, some (.int x5), some (.int x6), some (.int x7)] [] q1.2))) := by
  refine (r_iload L_151_32 rfl).trans ?_
  refine (r_iconst L_151_33 ki_2).trans ?_
  refine (r_cmplt L_151_34).trans ?_
  refine it_c ?_ ?_
  · rfl
  · refine (r_aload_n L_151_35 rfl).trans ?_
    refine (r_iconst L_151_36 ki_3).trans ?_
    refine (r_iload_n L_151_37 rfl).trans ?_
    refine (r_imul L_151_38).trans ?_
    refine (r_iconst L_151_39 ki_1).trans ?_
    refine (r_iadd L_151_40).trans ?_
    refine (r_iload L_151_41 rfl).trans ?_
    refine (r_callV L_151_42 rfl isI_150 rfl).trans ?_
    refine bi_c (fun q1 => ?_)
    refine (r_ifeq L_151_43).trans ?_
    refine it_c ?_ ?_
    · refine (r_iconst L_151_58 ki_0).trans ?_
      exact r_ret0 L_151_59 mz_151
    · rfl
set_option maxRecDepth 100000 in
set_option maxHeartbeats 4000000 in
theorem q_M_meets_64_at44 (ρ : Nat × (Nat → Int32)) (σ : rd_Sg) (x1 x6 x7 : Int32) (o2 o3 o4 o5 : Option Value) : rd_R ρ 151 44 [some (.ref 64), some (.int x1), o2, o3, o4, o5, some (.int x6), some (.int x7)] [] σ = (if x7 < 3 then some (1, σ) else ((rd_R ρ 150 0 [some (.ref 64), some (.int ((3 * x1) + 2)), some (.int x6)] [] σ).bind fun q1 => (if q1.1 = 0 then some (0, q1.2) else some (1, q1.2)))) := by
  refine (r_iload L_151_44 rfl).trans ?_
  refine (r_iconst L_151_45 ki_3).trans ?_
  refine (r_cmplt L_151_46).trans ?_
  refine it_c ?_ ?_
  · refine (r_iconst L_151_56 ki_1).trans ?_
    refine (r_goto L_151_57).trans ?_
    exact r_ret1 L_151_59 mz_151
  · refine (r_aload_n L_151_47 rfl).trans ?_
    refine (r_iconst L_151_48 ki_3).trans ?_
    refine (r_iload_n L_151_49 rfl).trans ?_
    refine (r_imul L_151_50).trans ?_
    refine (r_iconst L_151_51 ki_2).trans ?_
    refine (r_iadd L_151_52).trans ?_
    refine (r_iload L_151_53 rfl).trans ?_
    refine (r_callV L_151_54 rfl isI_150 rfl).trans ?_
    refine bi_c (fun q1 => ?_)
    refine (r_ifeq L_151_55).trans ?_
    refine it_c ?_ ?_
    · refine (r_iconst L_151_58 ki_0).trans ?_
      exact r_ret0 L_151_59 mz_151
    · refine (r_iconst L_151_56 ki_1).trans ?_
      refine (r_goto L_151_57).trans ?_
      exact r_ret1 L_151_59 mz_151
set_option maxRecDepth 100000 in
set_option maxHeartbeats 4000000 in
theorem q_M_fail_64 (ρ : Nat × (Nat → Int32)) (σ : rd_Sg) (x1 x2 : Int32) : rd_R ρ 158 0 [some (.ref 64), some (.int x1), some (.int x2), none] [] σ = (rd_chk x1 96 ((if (((σ 70 x1.toNatClampNeg) >>> (x2 &&& 31)) &&& 1) = 1 then rd_R ρ 158 13 [some (.ref 64), some (.int x1), some (.int x2), none] [.int 1] σ else rd_R ρ 158 13 [some (.ref 64), some (.int x1), some (.int x2), none] [.int 0] σ))) := by
  refine (r_aload_n L_158_0 rfl).trans ?_
  refine (r_getfr L_158_1 gf_64_6).trans ?_
  refine (r_iload_n L_158_2 rfl).trans ?_
  refine (r_iald L_158_3 ar_70).trans ?_
  refine ck_c ?_
  refine (r_iload_n L_158_4 rfl).trans ?_
  refine (r_ishr L_158_5).trans ?_
  refine (r_iconst L_158_6 ki_1).trans ?_
  refine (r_iand L_158_7).trans ?_
  refine (r_iconst L_158_8 ki_1).trans ?_
  refine (r_cmpne L_158_9).trans ?_
  refine it_c ?_ ?_
  · refine (r_iconst L_158_10 ki_1).trans ?_
    refine (r_goto L_158_11).trans ?_
    rfl
  · refine (r_iconst L_158_12 ki_0).trans ?_
    rfl
set_option maxRecDepth 100000 in
set_option maxHeartbeats 4000000 in
theorem q_M_fail_64_at13 (ρ : Nat × (Nat → Int32)) (σ : rd_Sg) (x2 s0 : Int32) (o1 o3 : Option Value) : rd_R ρ 158 13 [some (.ref 64), o1, some (.int x2), o3] [.int s0] σ = (if s0 = 0 then (if s0 = 0 then some (0, (rd_u (rd_u σ 64 30 8) 64 31 2)) else some (0, (rd_u (rd_u σ 64 30 8) 64 31 1))) else (if s0 = 0 then some (0, (rd_u (rd_u σ 64 30 x2) 64 31 2)) else some (0, (rd_u (rd_u σ 64 30 x2) 64 31 1)))) := by
  refine (r_istore_n L_158_13 rfl).trans ?_
  refine (r_aload_n L_158_14 rfl).trans ?_
  refine (r_iload_n L_158_15 rfl).trans ?_
  refine (r_ifeq L_158_16).trans ?_
  refine it_c ?_ ?_
  · refine (r_bipush L_158_19 kb_8).trans ?_
    refine (r_putfi L_158_20 gf_64_30).trans ?_
    refine (r_aload_n L_158_21 rfl).trans ?_
    refine (r_iload_n L_158_22 rfl).trans ?_
    refine (r_ifeq L_158_23).trans ?_
    refine it_c ?_ ?_
    · refine (r_iconst L_158_26 ki_2).trans ?_
      refine (r_putfi L_158_27 gf_64_31).trans ?_
      exact r_retv L_158_28
    · refine (r_iconst L_158_24 ki_1).trans ?_
      refine (r_goto L_158_25).trans ?_
      refine (r_putfi L_158_27 gf_64_31).trans ?_
      exact r_retv L_158_28
  · refine (r_iload_n L_158_17 rfl).trans ?_
    refine (r_goto L_158_18).trans ?_
    refine (r_putfi L_158_20 gf_64_30).trans ?_
    refine (r_aload_n L_158_21 rfl).trans ?_
    refine (r_iload_n L_158_22 rfl).trans ?_
    refine (r_ifeq L_158_23).trans ?_
    refine it_c ?_ ?_
    · refine (r_iconst L_158_26 ki_2).trans ?_
      refine (r_putfi L_158_27 gf_64_31).trans ?_
      exact r_retv L_158_28
    · refine (r_iconst L_158_24 ki_1).trans ?_
      refine (r_goto L_158_25).trans ?_
      refine (r_putfi L_158_27 gf_64_31).trans ?_
      exact r_retv L_158_28
set_option maxRecDepth 100000 in
set_option maxHeartbeats 4000000 in
theorem q_M_give_64 (ρ : Nat × (Nat → Int32)) (σ : rd_Sg) (x1 x2 : Int32) : rd_R ρ 157 0 [some (.ref 64), some (.int x1), some (.int x2)] [] σ = some (0, (rd_u (rd_u σ 64 28 x1) 64 29 x2)) := by
  refine (r_aload_n L_157_0 rfl).trans ?_
  refine (r_iload_n L_157_1 rfl).trans ?_
  refine (r_putfi L_157_2 gf_64_28).trans ?_
  refine (r_aload_n L_157_3 rfl).trans ?_
  refine (r_iload_n L_157_4 rfl).trans ?_
  refine (r_putfi L_157_5 gf_64_29).trans ?_
  exact r_retv L_157_6
set_option maxRecDepth 100000 in
set_option maxHeartbeats 4000000 in
theorem q_M_nextFor_64 (ρ : Nat × (Nat → Int32)) (σ : rd_Sg) (x1 x2 : Int32) : rd_R ρ 183 0 [some (.ref 64), some (.int x1), some (.int x2)] [] σ = (rd_chk x1 96 ((if x2 < (σ 67 x1.toNatClampNeg) then (rd_chk x1 96 ((if (((σ 68 x1.toNatClampNeg) >>> (x2 &&& 31)) &&& 1) = 1 then (rd_chk (((σ 64 57) + 1) - 1) 4 (some ((σ 98 (((σ 64 57) + 1) - 1).toNatClampNeg), (rd_u σ 64 57 ((σ 64 57) + 1))))) else (rd_chk (((σ 64 56) + 1) - 1) 8 (some ((σ 97 (((σ 64 56) + 1) - 1).toNatClampNeg), (rd_u σ 64 56 ((σ 64 56) + 1)))))))) else some ((0 : Int32), σ)))) := by
  refine (r_iload_n L_183_0 rfl).trans ?_
  refine (r_aload_n L_183_1 rfl).trans ?_
  refine (r_getfr L_183_2 gf_64_3).trans ?_
  refine (r_iload_n L_183_3 rfl).trans ?_
  refine (r_iald L_183_4 ar_67).trans ?_
  refine ck_c ?_
  refine (r_cmplt L_183_5).trans ?_
  refine it_c ?_ ?_
  · refine (r_aload_n L_183_8 rfl).trans ?_
    refine (r_getfr L_183_9 gf_64_4).trans ?_
    refine (r_iload_n L_183_10 rfl).trans ?_
    refine (r_iald L_183_11 ar_68).trans ?_
    refine ck_c ?_
    refine (r_iload_n L_183_12 rfl).trans ?_
    refine (r_ishr L_183_13).trans ?_
    refine (r_iconst L_183_14 ki_1).trans ?_
    refine (r_iand L_183_15).trans ?_
    refine (r_iconst L_183_16 ki_1).trans ?_
    refine (r_cmpne L_183_17).trans ?_
    refine it_c ?_ ?_
    · refine (r_aload_n L_183_18 rfl).trans ?_
      refine (r_dupr L_183_19).trans ?_
      refine (r_getfi L_183_20 gf_64_57).trans ?_
      refine (r_iconst L_183_21 ki_1).trans ?_
      refine (r_iadd L_183_22).trans ?_
      refine (r_putfi L_183_23 gf_64_57).trans ?_
      refine (r_aload_n L_183_24 rfl).trans ?_
      refine (r_getfr L_183_25 gf_64_47).trans ?_
      refine (r_aload_n L_183_26 rfl).trans ?_
      refine (r_getfiv L_183_27 gf_64_57 (rd_us)).trans ?_
      refine (r_iconst L_183_28 ki_1).trans ?_
      refine (r_isub L_183_29).trans ?_
      refine (r_ialdv L_183_30 ar_98 (rd_un (by decide))).trans ?_
      refine ck_c ?_
      exact r_ret L_183_31 mz_183
    · refine (r_aload_n L_183_32 rfl).trans ?_
      refine (r_dupr L_183_33).trans ?_
      refine (r_getfi L_183_34 gf_64_56).trans ?_
      refine (r_iconst L_183_35 ki_1).trans ?_
      refine (r_iadd L_183_36).trans ?_
      refine (r_putfi L_183_37 gf_64_56).trans ?_
      refine (r_aload_n L_183_38 rfl).trans ?_
      refine (r_getfr L_183_39 gf_64_46).trans ?_
      refine (r_aload_n L_183_40 rfl).trans ?_
      refine (r_getfiv L_183_41 gf_64_56 (rd_us)).trans ?_
      refine (r_iconst L_183_42 ki_1).trans ?_
      refine (r_isub L_183_43).trans ?_
      refine (r_ialdv L_183_44 ar_97 (rd_un (by decide))).trans ?_
      refine ck_c ?_
      exact r_ret L_183_45 mz_183
  · refine (r_iconst L_183_6 ki_0).trans ?_
    exact r_ret L_183_7 mz_183
set_option maxRecDepth 100000 in
set_option maxHeartbeats 4000000 in
theorem q_M_holds_64 (ρ : Nat × (Nat → Int32)) (σ : rd_Sg) (x1 x2 : Int32) : rd_R ρ 150 0 [some (.ref 64), some (.int x1), some (.int x2)] [] σ = (rd_chk x1 360 ((if (σ 76 x1.toNatClampNeg) = 1 then (rd_chk x1 360 ((if x2 = (σ 77 x1.toNatClampNeg) then some (1, σ) else some (0, σ)))) else (if (σ 76 x1.toNatClampNeg) = 2 then (rd_chk x1 360 ((rd_chk x1 360 (((rd_R ρ 137 0 [some (.int x2), some (.int (σ 77 x1.toNatClampNeg)), some (.int (σ 78 x1.toNatClampNeg))] [] σ).bind fun q1 => some (q1.1 &&& 1, q1.2)))))) else (if (σ 76 x1.toNatClampNeg) = 3 then (rd_chk x1 360 ((if x2 = (σ 77 x1.toNatClampNeg) then some (0, σ) else some (1, σ)))) else (if (σ 76 x1.toNatClampNeg) = 4 then (if x2 < 0 then some (0, σ) else (rd_chk x2 24 ((rd_chk x1 360 (((rd_R ρ 139 0 [some (.ref 64), some (.int (σ 71 x2.toNatClampNeg)), some (.int (σ 77 x1.toNatClampNeg)), none] [] σ).bind fun q2 => (if q2.1 = 0 then some (0, q2.2) else some (1, q2.2)))))))) else (if (σ 76 x1.toNatClampNeg) = 5 then (if x2 < 0 then some (1, σ) else some (0, σ)) else some (1, σ)))))))) := by
  refine (r_aload_n L_150_0 rfl).trans ?_
  refine (r_getfr L_150_1 gf_64_13).trans ?_
  refine (r_iload_n L_150_2 rfl).trans ?_
  refine (r_iald L_150_3 ar_76).trans ?_
  refine ck_c ?_
  refine (r_tsw L_150_4).trans ?_
  refine (r_swc ki_1 rfl).trans ?_
  refine it_c ?_ ?_
  · refine (r_iload_n L_150_5 rfl).trans ?_
    refine (r_aload_n L_150_6 rfl).trans ?_
    refine (r_getfr L_150_7 gf_64_14).trans ?_
    refine (r_iload_n L_150_8 rfl).trans ?_
    refine (r_iald L_150_9 ar_77).trans ?_
    refine ck_c ?_
    refine (r_cmpne L_150_10).trans ?_
    refine it_c ?_ ?_
    · refine (r_iconst L_150_11 ki_1).trans ?_
      refine (r_goto L_150_12).trans ?_
      exact r_ret1 L_150_14 mz_150
    · refine (r_iconst L_150_13 ki_0).trans ?_
      exact r_ret0 L_150_14 mz_150
  · refine (r_swc ki_2 rfl).trans ?_
    refine it_c ?_ ?_
    · refine (r_iload_n L_150_15 rfl).trans ?_
      refine (r_aload_n L_150_16 rfl).trans ?_
      refine (r_getfr L_150_17 gf_64_14).trans ?_
      refine (r_iload_n L_150_18 rfl).trans ?_
      refine (r_iald L_150_19 ar_77).trans ?_
      refine ck_c ?_
      refine (r_aload_n L_150_20 rfl).trans ?_
      refine (r_getfr L_150_21 gf_64_15).trans ?_
      refine (r_iload_n L_150_22 rfl).trans ?_
      refine (r_iald L_150_23 ar_78).trans ?_
      refine ck_c ?_
      refine (r_callS L_150_24 rfl isI_137 rfl).trans ?_
      refine bi_c (fun q1 => ?_)
      exact r_retb L_150_25 mz_150
    · refine (r_swc ki_3 rfl).trans ?_
      refine it_c ?_ ?_
      · refine (r_iload_n L_150_26 rfl).trans ?_
        refine (r_aload_n L_150_27 rfl).trans ?_
        refine (r_getfr L_150_28 gf_64_14).trans ?_
        refine (r_iload_n L_150_29 rfl).trans ?_
        refine (r_iald L_150_30 ar_77).trans ?_
        refine ck_c ?_
        refine (r_cmpeq L_150_31).trans ?_
        refine it_c ?_ ?_
        · refine (r_iconst L_150_34 ki_0).trans ?_
          exact r_ret0 L_150_35 mz_150
        · refine (r_iconst L_150_32 ki_1).trans ?_
          refine (r_goto L_150_33).trans ?_
          exact r_ret1 L_150_35 mz_150
      · refine (r_swc ki_4 rfl).trans ?_
        refine it_c ?_ ?_
        · refine (r_iload_n L_150_36 rfl).trans ?_
          refine (r_iflt L_150_37).trans ?_
          refine it_c ?_ ?_
          · refine (r_iconst L_150_51 ki_0).trans ?_
            exact r_ret0 L_150_52 mz_150
          · refine (r_aload_n L_150_38 rfl).trans ?_
            refine (r_aload_n L_150_39 rfl).trans ?_
            refine (r_getfr L_150_40 gf_64_8).trans ?_
            refine (r_iload_n L_150_41 rfl).trans ?_
            refine (r_iald L_150_42 ar_71).trans ?_
            refine ck_c ?_
            refine (r_aload_n L_150_43 rfl).trans ?_
            refine (r_getfr L_150_44 gf_64_14).trans ?_
            refine (r_iload_n L_150_45 rfl).trans ?_
            refine (r_iald L_150_46 ar_77).trans ?_
            refine ck_c ?_
            refine (r_callV L_150_47 rfl isI_139 rfl).trans ?_
            refine bi_c (fun q2 => ?_)
            refine (r_ifeq L_150_48).trans ?_
            refine it_c ?_ ?_
            · refine (r_iconst L_150_51 ki_0).trans ?_
              exact r_ret0 L_150_52 mz_150
            · refine (r_iconst L_150_49 ki_1).trans ?_
              refine (r_goto L_150_50).trans ?_
              exact r_ret1 L_150_52 mz_150
        · refine (r_swc ki_5 rfl).trans ?_
          refine it_c ?_ ?_
          · refine (r_iload_n L_150_53 rfl).trans ?_
            refine (r_ifge L_150_54).trans ?_
            refine it_c ?_ ?_
            · refine (r_iconst L_150_55 ki_1).trans ?_
              refine (r_goto L_150_56).trans ?_
              exact r_ret1 L_150_58 mz_150
            · refine (r_iconst L_150_57 ki_0).trans ?_
              exact r_ret0 L_150_58 mz_150
          · refine (r_swn).trans ?_
            refine (r_iconst L_150_59 ki_1).trans ?_
            exact r_ret1 L_150_60 mz_150
