section RDN
variable {S : List rd_Sh} {ro : Nat → Option (Nat × (Nat → Int32))} {k i pc len : Nat} {aux : List Nat} {vs vs' : rd_Lv} {st : List Value} {σ σ' : rd_Sg}
theorem rd_un {σ : rd_Sg} {c j : Nat} {x : Int32} {c' j' : Nat} (h : c' ≠ c) : rd_u σ c j x c' j' = σ c' j' := by simp [rd_u, h]
theorem rd_us {σ : rd_Sg} {c j : Nat} {x : Int32} : rd_u σ c j x c j = x := by simp [rd_u]
theorem rd_uj {σ : rd_Sg} {c j : Nat} {x : Int32} {c' j' : Nat} (h : j' ≠ j) : rd_u σ c j x c' j' = σ c' j' := by simp [rd_u, h]
theorem rd_ucn {σ : rd_Sg} {c : Nat} {f : Nat → Int32} {c' j' : Nat} (h : c' ≠ c) : rd_uc σ c f c' j' = σ c' j' := by simp [rd_uc, h]
theorem r_getfiv {idx ci sl f c : Nat} {v : Int32} (hl : rd_look k i = some (pc, .getfield idx, len, [ci, sl, f])) (hg : rd_gf S c ci sl = some none) (hv : σ c sl = v) : rd_R0 S ro k i vs (.ref c :: st) σ = rd_R0 S ro k (i + 1) vs (.int v :: st) σ := by rw [r_getfi hl hg, hv]
theorem r_ialdcv {c n m : Nat} {j v : Int32} (hl : rd_look k i = some (pc, .iaload, len, aux)) (hs : rd_nth S c = some (.inl (n, false))) (hj : rd_cj j m n = true) (hv : σ c m = v) : rd_R0 S ro k i vs (.int j :: .ref c :: st) σ = rd_R0 S ro k (i + 1) vs (.int v :: st) σ := by rw [r_ialdc hl hs hj, hv]
theorem r_ialdv {c n : Nat} {j v : Int32} (hl : rd_look k i = some (pc, .iaload, len, aux)) (hs : rd_nth S c = some (.inl (n, false))) (hv : σ c j.toNatClampNeg = v) : rd_R0 S ro k i vs (.int j :: .ref c :: st) σ = rd_chk j n (rd_R0 S ro k (i + 1) vs (.int v :: st) σ) := by rw [r_iald hl hs, hv]
theorem r_zaldv {c n : Nat} {j v : Int32} (hl : rd_look k i = some (pc, .baload, len, aux)) (hs : rd_nth S c = some (.inl (n, true))) (hv : σ c j.toNatClampNeg = v) : rd_R0 S ro k i vs (.int j :: .ref c :: st) σ = rd_chk j n (rd_R0 S ro k (i + 1) vs (.int v :: st) σ) := by rw [r_zald hl hs, hv]
theorem r_copyv {idx q s d n0 n1 : Nat} {sp dp n : Int32} {f g : Nat → Int32} (hl : rd_look k i = some (pc, .invokestatic idx, len, [1000, q])) (h0 : rd_nth S s = some (.inl (n0, false))) (h1 : rd_nth S d = some (.inl (n1, false))) (hf : σ s = f) (hg : σ d = g) : rd_R0 S ro k i vs [.int n, .int dp, .ref d, .int sp, .ref s] σ = if sp < 0 ∨ dp < 0 ∨ n < 0 ∨ n0 < sp.toNatClampNeg + n.toNatClampNeg ∨ n1 < dp.toNatClampNeg + n.toNatClampNeg then none else rd_R0 S ro k (i + 1) vs [] (rd_uc σ d (va_cpy f g sp.toNatClampNeg dp.toNatClampNeg n.toNatClampNeg)) := by rw [r_copy hl h0 h1, hf, hg]
end RDN
set_option maxRecDepth 100000 in
set_option maxHeartbeats 4000000 in
theorem q_D_face_0 (ρ : Nat × (Nat → Int32)) (σ : rd_Sg) (x1 : Int32) : rd_R ρ 108 0 [some (.ref 0), some (.int x1)] [] σ = (if x1 = (-1) then ((rd_R ρ 35 0 [some (.ref 1), some (.int x1), none] [] σ).bind fun q1 => some (q1.1, q1.2)) else ((rd_R ρ 34 0 [some (.ref 1), some (.int x1)] [] σ).bind fun q1 => (if q1.1 = 0 then some (((-1) : Int32), q1.2) else ((rd_R ρ 35 0 [some (.ref 1), some (.int x1), none] [] q1.2).bind fun q3 => some (q3.1, q3.2))))) := by
  refine (r_iload_n L_108_0 rfl).trans ?_
  refine (r_iconst L_108_1 ki_m1).trans ?_
  refine (r_cmpeq L_108_2).trans ?_
  refine it_c ?_ ?_
  · refine (r_aload_n L_108_10 rfl).trans ?_
    refine (r_getfr L_108_11 gf_0_0).trans ?_
    refine (r_iload_n L_108_12 rfl).trans ?_
    refine (r_callV L_108_13 rfl isI_35 rfl).trans ?_
    refine bi_c (fun q1 => ?_)
    exact r_ret L_108_14 mz_108
  · refine (r_aload_n L_108_3 rfl).trans ?_
    refine (r_getfr L_108_4 gf_0_0).trans ?_
    refine (r_iload_n L_108_5 rfl).trans ?_
    refine (r_callV L_108_6 rfl isI_34 rfl).trans ?_
    refine bi_c (fun q1 => ?_)
    refine (r_ifne L_108_7).trans ?_
    refine it_c ?_ ?_
    · refine (r_iconst L_108_8 ki_m1).trans ?_
      exact r_ret L_108_9 mz_108
    · refine (r_aload_n L_108_10 rfl).trans ?_
      refine (r_getfr L_108_11 gf_0_0).trans ?_
      refine (r_iload_n L_108_12 rfl).trans ?_
      refine (r_callV L_108_13 rfl isI_35 rfl).trans ?_
      refine bi_c (fun q3 => ?_)
      exact r_ret L_108_14 mz_108
set_option maxRecDepth 100000 in
set_option maxHeartbeats 4000000 in
theorem q_D_method_0 (ρ : Nat × (Nat → Int32)) (σ : rd_Sg) (x1 x2 x3 x4 x5 : Int32) : rd_R ρ 109 0 [some (.ref 0), some (.int x1), some (.int x2), some (.int x3), some (.int x4), some (.int x5)] [] σ = ((rd_R ρ 34 0 [some (.ref 1), some (.int x1)] [] σ).bind fun q0 => (if q0.1 = 0 then some (((-1) : Int32), q0.2) else (if x2 < 0 then some (((-1) : Int32), q0.2) else (if 3 < x2 then some (((-1) : Int32), q0.2) else (if x3 < 0 then some (((-1) : Int32), q0.2) else (if x3 < (1 <<< (x2 &&& 31)) then (if x4 < 0 then some (((-1) : Int32), q0.2) else (if 2 < x4 then some (((-1) : Int32), q0.2) else (if x5 < 0 then some (((-1) : Int32), q0.2) else (if 255 < x5 then some (((-1) : Int32), q0.2) else ((rd_R ρ 37 0 [some (.ref 1), some (.int x1)] [] q0.2).bind fun q10 => (if q10.1 = 0 then ((rd_R ρ 39 0 [some (.ref 1), some (.int x1), some (.int x2), some (.int x3), some (.int x4), some (.int x5), none, none] [] q10.2).bind fun q12 => some (q12.1, q12.2)) else some (((-2) : Int32), q10.2))))))) else some (((-1) : Int32), q0.2))))))) := by
  refine (r_aload_n L_109_0 rfl).trans ?_
  refine (r_getfr L_109_1 gf_0_0).trans ?_
  refine (r_iload_n L_109_2 rfl).trans ?_
  refine (r_callV L_109_3 rfl isI_34 rfl).trans ?_
  refine bi_c (fun q0 => ?_)
  refine (r_ifeq L_109_4).trans ?_
  refine it_c ?_ ?_
  · refine (r_iconst L_109_17 ki_m1).trans ?_
    exact r_ret L_109_18 mz_109
  · refine (r_iload_n L_109_5 rfl).trans ?_
    refine (r_iflt L_109_6).trans ?_
    refine it_c ?_ ?_
    · refine (r_iconst L_109_17 ki_m1).trans ?_
      exact r_ret L_109_18 mz_109
    · refine (r_iload_n L_109_7 rfl).trans ?_
      refine (r_iconst L_109_8 ki_3).trans ?_
      refine (r_cmpgt L_109_9).trans ?_
      refine it_c ?_ ?_
      · refine (r_iconst L_109_17 ki_m1).trans ?_
        exact r_ret L_109_18 mz_109
      · refine (r_iload_n L_109_10 rfl).trans ?_
        refine (r_iflt L_109_11).trans ?_
        refine it_c ?_ ?_
        · refine (r_iconst L_109_17 ki_m1).trans ?_
          exact r_ret L_109_18 mz_109
        · refine (r_iload_n L_109_12 rfl).trans ?_
          refine (r_iconst L_109_13 ki_1).trans ?_
          refine (r_iload_n L_109_14 rfl).trans ?_
          refine (r_ishl L_109_15).trans ?_
          refine (r_cmplt L_109_16).trans ?_
          refine it_c ?_ ?_
          · refine (r_iload L_109_19 rfl).trans ?_
            refine (r_iflt L_109_20).trans ?_
            refine it_c ?_ ?_
            · refine (r_iconst L_109_29 ki_m1).trans ?_
              exact r_ret L_109_30 mz_109
            · refine (r_iload L_109_21 rfl).trans ?_
              refine (r_iconst L_109_22 ki_2).trans ?_
              refine (r_cmpgt L_109_23).trans ?_
              refine it_c ?_ ?_
              · refine (r_iconst L_109_29 ki_m1).trans ?_
                exact r_ret L_109_30 mz_109
              · refine (r_iload L_109_24 rfl).trans ?_
                refine (r_iflt L_109_25).trans ?_
                refine it_c ?_ ?_
                · refine (r_iconst L_109_29 ki_m1).trans ?_
                  exact r_ret L_109_30 mz_109
                · refine (r_iload L_109_26 rfl).trans ?_
                  refine (r_sipush L_109_27 ks_255).trans ?_
                  refine (r_cmple L_109_28).trans ?_
                  refine it_c ?_ ?_
                  · refine (r_iconst L_109_29 ki_m1).trans ?_
                    exact r_ret L_109_30 mz_109
                  · refine (r_aload_n L_109_31 rfl).trans ?_
                    refine (r_getfr L_109_32 gf_0_0).trans ?_
                    refine (r_iload_n L_109_33 rfl).trans ?_
                    refine (r_callV L_109_34 rfl isI_37 rfl).trans ?_
                    refine bi_c (fun q10 => ?_)
                    refine (r_ifeq L_109_35).trans ?_
                    refine it_c ?_ ?_
                    · refine (r_aload_n L_109_38 rfl).trans ?_
                      refine (r_getfr L_109_39 gf_0_0).trans ?_
                      refine (r_iload_n L_109_40 rfl).trans ?_
                      refine (r_iload_n L_109_41 rfl).trans ?_
                      refine (r_iload_n L_109_42 rfl).trans ?_
                      refine (r_iload L_109_43 rfl).trans ?_
                      refine (r_iload L_109_44 rfl).trans ?_
                      refine (r_callV L_109_45 rfl isI_39 rfl).trans ?_
                      refine bi_c (fun q12 => ?_)
                      exact r_ret L_109_46 mz_109
                    · refine (r_bipush L_109_36 kb_m2).trans ?_
                      exact r_ret L_109_37 mz_109
          · refine (r_iconst L_109_17 ki_m1).trans ?_
            exact r_ret L_109_18 mz_109
set_option maxRecDepth 100000 in
set_option maxHeartbeats 4000000 in
theorem q_D_stand_0 (ρ : Nat × (Nat → Int32)) (σ : rd_Sg) (x1 x2 : Int32) : rd_R ρ 110 0 [some (.ref 0), some (.int x1), some (.int x2)] [] σ = ((rd_R ρ 34 0 [some (.ref 1), some (.int x1)] [] σ).bind fun q0 => (if q0.1 = 0 then some (((-1) : Int32), q0.2) else (if x2 < (-1) then some (((-1) : Int32), q0.2) else (if x2 < 6 then ((rd_R ρ 89 0 [some (.ref 9), some (.int x1), some (.int x2), none] [] q0.2).bind fun q4 => some (q4.1, q4.2)) else some (((-1) : Int32), q0.2))))) := by
  refine (r_aload_n L_110_0 rfl).trans ?_
  refine (r_getfr L_110_1 gf_0_0).trans ?_
  refine (r_iload_n L_110_2 rfl).trans ?_
  refine (r_callV L_110_3 rfl isI_34 rfl).trans ?_
  refine bi_c (fun q0 => ?_)
  refine (r_ifeq L_110_4).trans ?_
  refine it_c ?_ ?_
  · refine (r_iconst L_110_11 ki_m1).trans ?_
    exact r_ret L_110_12 mz_110
  · refine (r_iload_n L_110_5 rfl).trans ?_
    refine (r_iconst L_110_6 ki_m1).trans ?_
    refine (r_cmplt L_110_7).trans ?_
    refine it_c ?_ ?_
    · refine (r_iconst L_110_11 ki_m1).trans ?_
      exact r_ret L_110_12 mz_110
    · refine (r_iload_n L_110_8 rfl).trans ?_
      refine (r_bipush L_110_9 kb_6).trans ?_
      refine (r_cmplt L_110_10).trans ?_
      refine it_c ?_ ?_
      · refine (r_aload_n L_110_13 rfl).trans ?_
        refine (r_getfr L_110_14 gf_0_1).trans ?_
        refine (r_iload_n L_110_15 rfl).trans ?_
        refine (r_iload_n L_110_16 rfl).trans ?_
        refine (r_callV L_110_17 rfl isI_89 rfl).trans ?_
        refine bi_c (fun q4 => ?_)
        exact r_ret L_110_18 mz_110
      · refine (r_iconst L_110_11 ki_m1).trans ?_
        exact r_ret L_110_12 mz_110
set_option maxRecDepth 100000 in
set_option maxHeartbeats 4000000 in
theorem q_D_of_0 (ρ : Nat × (Nat → Int32)) (σ : rd_Sg) (x1 x2 : Int32) : rd_R ρ 111 0 [some (.ref 0), some (.int x1), some (.int x2)] [] σ = ((rd_R ρ 88 0 [some (.ref 9), some (.int x1)] [] σ).bind fun q0 => (if q0.1 = 0 then some (((-1) : Int32), q0.2) else ((rd_R ρ 34 0 [some (.ref 1), some (.int x2)] [] q0.2).bind fun q2 => (if q2.1 = 0 then some (((-1) : Int32), q2.2) else ((rd_R ρ 90 0 [some (.ref 9), some (.int x1), some (.int x2)] [] q2.2).bind fun q4 => (if q4.1 = 0 then some ((0 : Int32), q4.2) else some ((1 : Int32), q4.2))))))) := by
  refine (r_aload_n L_111_0 rfl).trans ?_
  refine (r_getfr L_111_1 gf_0_1).trans ?_
  refine (r_iload_n L_111_2 rfl).trans ?_
  refine (r_callV L_111_3 rfl isI_88 rfl).trans ?_
  refine bi_c (fun q0 => ?_)
  refine (r_ifeq L_111_4).trans ?_
  refine it_c ?_ ?_
  · refine (r_iconst L_111_10 ki_m1).trans ?_
    exact r_ret L_111_11 mz_111
  · refine (r_aload_n L_111_5 rfl).trans ?_
    refine (r_getfr L_111_6 gf_0_0).trans ?_
    refine (r_iload_n L_111_7 rfl).trans ?_
    refine (r_callV L_111_8 rfl isI_34 rfl).trans ?_
    refine bi_c (fun q2 => ?_)
    refine (r_ifne L_111_9).trans ?_
    refine it_c ?_ ?_
    · refine (r_iconst L_111_10 ki_m1).trans ?_
      exact r_ret L_111_11 mz_111
    · refine (r_aload_n L_111_12 rfl).trans ?_
      refine (r_getfr L_111_13 gf_0_1).trans ?_
      refine (r_iload_n L_111_14 rfl).trans ?_
      refine (r_iload_n L_111_15 rfl).trans ?_
      refine (r_callV L_111_16 rfl isI_90 rfl).trans ?_
      refine bi_c (fun q4 => ?_)
      refine (r_ifeq L_111_17).trans ?_
      refine it_c ?_ ?_
      · refine (r_iconst L_111_20 ki_0).trans ?_
        exact r_ret L_111_21 mz_111
      · refine (r_iconst L_111_18 ki_1).trans ?_
        refine (r_goto L_111_19).trans ?_
        exact r_ret L_111_21 mz_111
set_option maxRecDepth 100000 in
set_option maxHeartbeats 4000000 in
theorem q_D_level_0 (ρ : Nat × (Nat → Int32)) (σ : rd_Sg) (x1 : Int32) : rd_R ρ 112 0 [some (.ref 0), some (.int x1)] [] σ = (if x1 < 0 then some (((-1) : Int32), σ) else (if x1 < 6 then (rd_chk x1 6 (some ((σ 32 x1.toNatClampNeg), σ))) else some (((-1) : Int32), σ))) := by
  refine (r_iload_n L_112_0 rfl).trans ?_
  refine (r_iflt L_112_1).trans ?_
  refine it_c ?_ ?_
  · refine (r_iconst L_112_5 ki_m1).trans ?_
    exact r_ret L_112_6 mz_112
  · refine (r_iload_n L_112_2 rfl).trans ?_
    refine (r_bipush L_112_3 kb_6).trans ?_
    refine (r_cmplt L_112_4).trans ?_
    refine it_c ?_ ?_
    · refine (r_aload_n L_112_7 rfl).trans ?_
      refine (r_getfr L_112_8 gf_0_4).trans ?_
      refine (r_getfr L_112_9 gf_31_5).trans ?_
      refine (r_iload_n L_112_10 rfl).trans ?_
      refine (r_iald L_112_11 ar_32).trans ?_
      refine ck_c ?_
      exact r_ret L_112_12 mz_112
    · refine (r_iconst L_112_5 ki_m1).trans ?_
      exact r_ret L_112_6 mz_112
set_option maxRecDepth 100000 in
set_option maxHeartbeats 4000000 in
theorem q_D_rule_0 (ρ : Nat × (Nat → Int32)) (σ : rd_Sg) (x1 x2 : Int32) : rd_R ρ 113 0 [some (.ref 0), some (.int x1), some (.int x2), none] [] σ = ((rd_R ρ 92 0 [some (.ref 9), some (.int x1), some (.int x2)] [] σ).bind fun q0 => (if q0.1 = (-1) then some (((-1) : Int32), q0.2) else ((rd_R ρ 57 0 [some (.ref 15), some (.int x1), some (.int x2), some (.int q0.1), none] [] q0.2).bind fun q2 => some (q2.1, q2.2)))) := by
  refine (r_aload_n L_113_0 rfl).trans ?_
  refine (r_getfr L_113_1 gf_0_1).trans ?_
  refine (r_iload_n L_113_2 rfl).trans ?_
  refine (r_iload_n L_113_3 rfl).trans ?_
  refine (r_callV L_113_4 rfl isI_92 rfl).trans ?_
  refine bi_c (fun q0 => ?_)
  refine (r_istore_n L_113_5 rfl).trans ?_
  refine (r_iload_n L_113_6 rfl).trans ?_
  refine (r_iconst L_113_7 ki_m1).trans ?_
  refine (r_cmpne L_113_8).trans ?_
  refine it_c ?_ ?_
  · refine (r_iconst L_113_9 ki_m1).trans ?_
    exact r_ret L_113_10 mz_113
  · refine (r_aload_n L_113_11 rfl).trans ?_
    refine (r_getfr L_113_12 gf_0_2).trans ?_
    refine (r_getfr L_113_13 gf_14_0).trans ?_
    refine (r_iload_n L_113_14 rfl).trans ?_
    refine (r_iload_n L_113_15 rfl).trans ?_
    refine (r_iload_n L_113_16 rfl).trans ?_
    refine (r_callV L_113_17 rfl isI_57 rfl).trans ?_
    refine bi_c (fun q2 => ?_)
    exact r_ret L_113_18 mz_113
set_option maxRecDepth 100000 in
set_option maxHeartbeats 4000000 in
theorem q_D_on_0 (ρ : Nat × (Nat → Int32)) (σ : rd_Sg) (x1 x2 x3 x4 x5 : Int32) : rd_R ρ 114 0 [some (.ref 0), some (.int x1), some (.int x2), some (.int x3), some (.int x4), some (.int x5), none] [] σ = ((rd_R ρ 61 0 [some (.ref 15), some (.int x1), some (.int x2), some (.int x3), some (.int x4), some (.int x5), none] [] σ).bind fun q0 => (if q0.1 = (-1) then some (q0.1, q0.2) else ((rd_R ρ 74 0 [some (.ref 14), some (.int x1), some (.int x2)] [] q0.2).bind fun q2 => some (q0.1, q2.2)))) := by
  refine (r_aload_n L_114_0 rfl).trans ?_
  refine (r_getfr L_114_1 gf_0_2).trans ?_
  refine (r_getfr L_114_2 gf_14_0).trans ?_
  refine (r_iload_n L_114_3 rfl).trans ?_
  refine (r_iload_n L_114_4 rfl).trans ?_
  refine (r_iload_n L_114_5 rfl).trans ?_
  refine (r_iload L_114_6 rfl).trans ?_
  refine (r_iload L_114_7 rfl).trans ?_
  refine (r_callV L_114_8 rfl isI_61 rfl).trans ?_
  refine bi_c (fun q0 => ?_)
  refine (r_istore L_114_9 rfl).trans ?_
  refine (r_iload L_114_10 rfl).trans ?_
  refine (r_iconst L_114_11 ki_m1).trans ?_
  refine (r_cmpeq L_114_12).trans ?_
  refine it_c ?_ ?_
  · refine (r_iload L_114_18 rfl).trans ?_
    exact r_ret L_114_19 mz_114
  · refine (r_aload_n L_114_13 rfl).trans ?_
    refine (r_getfr L_114_14 gf_0_2).trans ?_
    refine (r_iload_n L_114_15 rfl).trans ?_
    refine (r_iload_n L_114_16 rfl).trans ?_
    refine (r_callVv L_114_17 rfl isI_74 (by decide) rfl).trans ?_
    refine bi_c (fun q2 => ?_)
    refine (r_iload L_114_18 rfl).trans ?_
    exact r_ret L_114_19 mz_114
set_option maxRecDepth 100000 in
set_option maxHeartbeats 4000000 in
theorem q_D_answer_0 (ρ : Nat × (Nat → Int32)) (σ : rd_Sg) (x1 x2 x3 : Int32) : rd_R ρ 115 0 [some (.ref 0), some (.int x1), some (.int x2), some (.int x3)] [] σ = ((rd_R ρ 56 0 [some (.ref 15), some (.int x1)] [] σ).bind fun q0 => (if q0.1 = 0 then some (((-1) : Int32), q0.2) else ((rd_R ρ 66 0 [some (.ref 14), some (.int x1), some (.int x2), some (.int x3)] [] q0.2).bind fun q2 => (if q2.1 = 0 then some (((-1) : Int32), q2.2) else ((rd_R ρ 67 0 [some (.ref 14), some (.int x1), some (.int x2), some (.int x3), none] [] q2.2).bind fun q4 => some (q4.1, q4.2)))))) := by
  refine (r_aload_n L_115_0 rfl).trans ?_
  refine (r_getfr L_115_1 gf_0_2).trans ?_
  refine (r_getfr L_115_2 gf_14_0).trans ?_
  refine (r_iload_n L_115_3 rfl).trans ?_
  refine (r_callV L_115_4 rfl isI_56 rfl).trans ?_
  refine bi_c (fun q0 => ?_)
  refine (r_ifeq L_115_5).trans ?_
  refine it_c ?_ ?_
  · refine (r_iconst L_115_13 ki_m1).trans ?_
    exact r_ret L_115_14 mz_115
  · refine (r_aload_n L_115_6 rfl).trans ?_
    refine (r_getfr L_115_7 gf_0_2).trans ?_
    refine (r_iload_n L_115_8 rfl).trans ?_
    refine (r_iload_n L_115_9 rfl).trans ?_
    refine (r_iload_n L_115_10 rfl).trans ?_
    refine (r_callV L_115_11 rfl isI_66 rfl).trans ?_
    refine bi_c (fun q2 => ?_)
    refine (r_ifne L_115_12).trans ?_
    refine it_c ?_ ?_
    · refine (r_iconst L_115_13 ki_m1).trans ?_
      exact r_ret L_115_14 mz_115
    · refine (r_aload_n L_115_15 rfl).trans ?_
      refine (r_getfr L_115_16 gf_0_2).trans ?_
      refine (r_iload_n L_115_17 rfl).trans ?_
      refine (r_iload_n L_115_18 rfl).trans ?_
      refine (r_iload_n L_115_19 rfl).trans ?_
      refine (r_callV L_115_20 rfl isI_67 rfl).trans ?_
      refine bi_c (fun q4 => ?_)
      exact r_ret L_115_21 mz_115
set_option maxRecDepth 100000 in
set_option maxHeartbeats 4000000 in
theorem q_D_caught_0 (ρ : Nat × (Nat → Int32)) (σ : rd_Sg) (x1 x2 : Int32) : rd_R ρ 116 0 [some (.ref 0), some (.int x1), some (.int x2)] [] σ = ((rd_R ρ 59 0 [some (.ref 15), some (.int x1), some (.int x2)] [] σ).bind fun q0 => (if q0.1 = 0 then some (((-1001) : Int32), q0.2) else ((rd_R ρ 72 0 [some (.ref 14), some (.int x1), some (.int x2)] [] q0.2).bind fun q2 => (if q2.1 = 0 then some (((-1002) : Int32), q2.2) else ((rd_R ρ 73 0 [some (.ref 14), some (.int x1), some (.int x2)] [] q2.2).bind fun q4 => some (q4.1, q4.2)))))) := by
  refine (r_aload_n L_116_0 rfl).trans ?_
  refine (r_getfr L_116_1 gf_0_2).trans ?_
  refine (r_getfr L_116_2 gf_14_0).trans ?_
  refine (r_iload_n L_116_3 rfl).trans ?_
  refine (r_iload_n L_116_4 rfl).trans ?_
  refine (r_callV L_116_5 rfl isI_59 rfl).trans ?_
  refine bi_c (fun q0 => ?_)
  refine (r_ifne L_116_6).trans ?_
  refine it_c ?_ ?_
  · refine (r_sipush L_116_7 ks_m1001).trans ?_
    exact r_ret L_116_8 mz_116
  · refine (r_aload_n L_116_9 rfl).trans ?_
    refine (r_getfr L_116_10 gf_0_2).trans ?_
    refine (r_iload_n L_116_11 rfl).trans ?_
    refine (r_iload_n L_116_12 rfl).trans ?_
    refine (r_callV L_116_13 rfl isI_72 rfl).trans ?_
    refine bi_c (fun q2 => ?_)
    refine (r_ifeq L_116_14).trans ?_
    refine it_c ?_ ?_
    · refine (r_sipush L_116_21 ks_m1002).trans ?_
      exact r_ret L_116_22 mz_116
    · refine (r_aload_n L_116_15 rfl).trans ?_
      refine (r_getfr L_116_16 gf_0_2).trans ?_
      refine (r_iload_n L_116_17 rfl).trans ?_
      refine (r_iload_n L_116_18 rfl).trans ?_
      refine (r_callV L_116_19 rfl isI_73 rfl).trans ?_
      refine bi_c (fun q4 => ?_)
      refine (r_goto L_116_20).trans ?_
      exact r_ret L_116_22 mz_116
set_option maxRecDepth 100000 in
set_option maxHeartbeats 4000000 in
theorem q_D_call_0 (ρ : Nat × (Nat → Int32)) (σ : rd_Sg) (x1 x2 x3 x4 x5 : Int32) : rd_R ρ 117 0 [some (.ref 0), some (.int x1), some (.int x2), some (.int x3), some (.int x4), some (.int x5), none] [] σ = ((rd_R ρ 92 0 [some (.ref 9), some (.int x1), some (.int x2)] [] σ).bind fun q0 => (if q0.1 = (-1) then some (((-1) : Int32), q0.2) else ((rd_R ρ 118 0 [some (.ref 0), some (.int q0.1), some (.int 0), some (.int x3)] [] q0.2).bind fun q2 => (if q2.1 = 0 then some (((-1) : Int32), q2.2) else ((rd_R ρ 118 0 [some (.ref 0), some (.int q0.1), some (.int 1), some (.int x4)] [] q2.2).bind fun q4 => (if q4.1 = 0 then some (((-1) : Int32), q4.2) else ((rd_R ρ 118 0 [some (.ref 0), some (.int q0.1), some (.int 2), some (.int x5)] [] q4.2).bind fun q6 => (if q6.1 = 0 then some (((-1) : Int32), q6.2) else ((rd_R ρ 77 0 [some (.ref 31), some (.int x1), some (.int x2), some (.int q0.1), none] [] q6.2).bind fun q8 => ((rd_R ρ 78 0 [some (.ref 31), some (.int 0), some (.int x3)] [] q8.2).bind fun q9 => ((rd_R ρ 78 0 [some (.ref 31), some (.int 1), some (.int x4)] [] q9.2).bind fun q10 => ((rd_R ρ 78 0 [some (.ref 31), some (.int 2), some (.int x5)] [] q10.2).bind fun q11 => ((rd_R ρ 79 0 [some (.ref 31), none] [] q11.2).bind fun q12 => some ((q12.2 30 5), q12.2)))))))))))))) := by
  refine (r_aload_n L_117_0 rfl).trans ?_
  refine (r_getfr L_117_1 gf_0_1).trans ?_
  refine (r_iload_n L_117_2 rfl).trans ?_
  refine (r_iload_n L_117_3 rfl).trans ?_
  refine (r_callV L_117_4 rfl isI_92 rfl).trans ?_
  refine bi_c (fun q0 => ?_)
  refine (r_istore L_117_5 rfl).trans ?_
  refine (r_iload L_117_6 rfl).trans ?_
  refine (r_iconst L_117_7 ki_m1).trans ?_
  refine (r_cmpne L_117_8).trans ?_
  refine it_c ?_ ?_
  · refine (r_iconst L_117_9 ki_m1).trans ?_
    exact r_ret L_117_10 mz_117
  · refine (r_aload_n L_117_11 rfl).trans ?_
    refine (r_iload L_117_12 rfl).trans ?_
    refine (r_iconst L_117_13 ki_0).trans ?_
    refine (r_iload_n L_117_14 rfl).trans ?_
    refine (r_callV L_117_15 rfl isI_118 rfl).trans ?_
    refine bi_c (fun q2 => ?_)
    refine (r_ifeq L_117_16).trans ?_
    refine it_c ?_ ?_
    · refine (r_iconst L_117_29 ki_m1).trans ?_
      exact r_ret L_117_30 mz_117
    · refine (r_aload_n L_117_17 rfl).trans ?_
      refine (r_iload L_117_18 rfl).trans ?_
      refine (r_iconst L_117_19 ki_1).trans ?_
      refine (r_iload L_117_20 rfl).trans ?_
      refine (r_callV L_117_21 rfl isI_118 rfl).trans ?_
      refine bi_c (fun q4 => ?_)
      refine (r_ifeq L_117_22).trans ?_
      refine it_c ?_ ?_
      · refine (r_iconst L_117_29 ki_m1).trans ?_
        exact r_ret L_117_30 mz_117
      · refine (r_aload_n L_117_23 rfl).trans ?_
        refine (r_iload L_117_24 rfl).trans ?_
        refine (r_iconst L_117_25 ki_2).trans ?_
        refine (r_iload L_117_26 rfl).trans ?_
        refine (r_callV L_117_27 rfl isI_118 rfl).trans ?_
        refine bi_c (fun q6 => ?_)
        refine (r_ifne L_117_28).trans ?_
        refine it_c ?_ ?_
        · refine (r_iconst L_117_29 ki_m1).trans ?_
          exact r_ret L_117_30 mz_117
        · refine (r_aload_n L_117_31 rfl).trans ?_
          refine (r_getfr L_117_32 gf_0_4).trans ?_
          refine (r_iload_n L_117_33 rfl).trans ?_
          refine (r_iload_n L_117_34 rfl).trans ?_
          refine (r_iload L_117_35 rfl).trans ?_
          refine (r_callVv L_117_36 rfl isI_77 (by decide) rfl).trans ?_
          refine bi_c (fun q8 => ?_)
          refine (r_aload_n L_117_37 rfl).trans ?_
          refine (r_getfr L_117_38 gf_0_4).trans ?_
          refine (r_iconst L_117_39 ki_0).trans ?_
          refine (r_iload_n L_117_40 rfl).trans ?_
          refine (r_callVv L_117_41 rfl isI_78 (by decide) rfl).trans ?_
          refine bi_c (fun q9 => ?_)
          refine (r_aload_n L_117_42 rfl).trans ?_
          refine (r_getfr L_117_43 gf_0_4).trans ?_
          refine (r_iconst L_117_44 ki_1).trans ?_
          refine (r_iload L_117_45 rfl).trans ?_
          refine (r_callVv L_117_46 rfl isI_78 (by decide) rfl).trans ?_
          refine bi_c (fun q10 => ?_)
          refine (r_aload_n L_117_47 rfl).trans ?_
          refine (r_getfr L_117_48 gf_0_4).trans ?_
          refine (r_iconst L_117_49 ki_2).trans ?_
          refine (r_iload L_117_50 rfl).trans ?_
          refine (r_callVv L_117_51 rfl isI_78 (by decide) rfl).trans ?_
          refine bi_c (fun q11 => ?_)
          refine (r_aload_n L_117_52 rfl).trans ?_
          refine (r_getfr L_117_53 gf_0_4).trans ?_
          refine (r_callVv L_117_54 rfl isI_79 (by decide) rfl).trans ?_
          refine bi_c (fun q12 => ?_)
          refine (r_aload_n L_117_55 rfl).trans ?_
          refine (r_getfr L_117_56 gf_0_3).trans ?_
          refine (r_getfr L_117_57 gf_28_1).trans ?_
          refine (r_iconst L_117_58 ki_5).trans ?_
          refine (r_ialdc (m := 5) L_117_59 ar_30 (by decide)).trans ?_
          exact r_ret L_117_60 mz_117
set_option maxRecDepth 100000 in
set_option maxHeartbeats 4000000 in
theorem q_D_came_0 (ρ : Nat × (Nat → Int32)) (σ : rd_Sg) (x1 : Int32) : rd_R ρ 119 0 [some (.ref 0), some (.int x1)] [] σ = ((rd_R ρ 48 0 [some (.ref 28)] [] σ).bind fun q0 => (if q0.1 = 0 then some (((-1001) : Int32), q0.2) else (if x1 = 0 then some ((q0.2 30 5), q0.2) else (if x1 = 1 then some ((q0.2 30 7), q0.2) else (if x1 = 2 then some ((q0.2 30 8), q0.2) else (if x1 = 3 then some ((q0.2 30 6), q0.2) else some (((-1001) : Int32), q0.2))))))) := by
  refine (r_aload_n L_119_0 rfl).trans ?_
  refine (r_getfr L_119_1 gf_0_3).trans ?_
  refine (r_callV L_119_2 rfl isI_48 rfl).trans ?_
  refine bi_c (fun q0 => ?_)
  refine (r_ifne L_119_3).trans ?_
  refine it_c ?_ ?_
  · refine (r_sipush L_119_4 ks_m1001).trans ?_
    exact r_ret L_119_5 mz_119
  · refine (r_iload_n L_119_6 rfl).trans ?_
    refine (r_tsw L_119_7).trans ?_
    refine (r_swc ki_0 rfl).trans ?_
    refine it_c ?_ ?_
    · refine (r_aload_n L_119_8 rfl).trans ?_
      refine (r_getfr L_119_9 gf_0_3).trans ?_
      refine (r_getfr L_119_10 gf_28_1).trans ?_
      refine (r_iconst L_119_11 ki_5).trans ?_
      refine (r_ialdc (m := 5) L_119_12 ar_30 (by decide)).trans ?_
      exact r_ret L_119_13 mz_119
    · refine (r_swc ki_1 rfl).trans ?_
      refine it_c ?_ ?_
      · refine (r_aload_n L_119_14 rfl).trans ?_
        refine (r_getfr L_119_15 gf_0_3).trans ?_
        refine (r_getfr L_119_16 gf_28_1).trans ?_
        refine (r_bipush L_119_17 kb_7).trans ?_
        refine (r_ialdc (m := 7) L_119_18 ar_30 (by decide)).trans ?_
        exact r_ret L_119_19 mz_119
      · refine (r_swc ki_2 rfl).trans ?_
        refine it_c ?_ ?_
        · refine (r_aload_n L_119_20 rfl).trans ?_
          refine (r_getfr L_119_21 gf_0_3).trans ?_
          refine (r_getfr L_119_22 gf_28_1).trans ?_
          refine (r_bipush L_119_23 kb_8).trans ?_
          refine (r_ialdc (m := 8) L_119_24 ar_30 (by decide)).trans ?_
          exact r_ret L_119_25 mz_119
        · refine (r_swc ki_3 rfl).trans ?_
          refine it_c ?_ ?_
          · refine (r_aload_n L_119_26 rfl).trans ?_
            refine (r_getfr L_119_27 gf_0_3).trans ?_
            refine (r_getfr L_119_28 gf_28_1).trans ?_
            refine (r_bipush L_119_29 kb_6).trans ?_
            refine (r_ialdc (m := 6) L_119_30 ar_30 (by decide)).trans ?_
            exact r_ret L_119_31 mz_119
          · refine (r_swn).trans ?_
            refine (r_sipush L_119_32 ks_m1001).trans ?_
            exact r_ret L_119_33 mz_119
set_option maxRecDepth 100000 in
set_option maxHeartbeats 4000000 in
theorem q_D_recorded_0 (ρ : Nat × (Nat → Int32)) (σ : rd_Sg) (x1 x2 : Int32) : rd_R ρ 120 0 [some (.ref 0), some (.int x1), some (.int x2)] [] σ = (if x1 < 0 then some (((-1001) : Int32), σ) else ((rd_R ρ 49 0 [some (.ref 28)] [] σ).bind fun q1 => (if x1 < q1.1 then (if x2 < 0 then some (((-1001) : Int32), q1.2) else (if x2 < 9 then ((rd_R ρ 51 0 [some (.ref 28), some (.int x1), some (.int x2)] [] q1.2).bind fun q5 => some (q5.1, q5.2)) else some (((-1001) : Int32), q1.2))) else some (((-1001) : Int32), q1.2)))) := by
  refine (r_iload_n L_120_0 rfl).trans ?_
  refine (r_iflt L_120_1).trans ?_
  refine it_c ?_ ?_
  · refine (r_sipush L_120_12 ks_m1001).trans ?_
    exact r_ret L_120_13 mz_120
  · refine (r_iload_n L_120_2 rfl).trans ?_
    refine (r_aload_n L_120_3 rfl).trans ?_
    refine (r_getfr L_120_4 gf_0_3).trans ?_
    refine (r_callV L_120_5 rfl isI_49 rfl).trans ?_
    refine bi_c (fun q1 => ?_)
    refine (r_cmpge L_120_6).trans ?_
    refine it_c ?_ ?_
    · refine (r_iload_n L_120_7 rfl).trans ?_
      refine (r_iflt L_120_8).trans ?_
      refine it_c ?_ ?_
      · refine (r_sipush L_120_12 ks_m1001).trans ?_
        exact r_ret L_120_13 mz_120
      · refine (r_iload_n L_120_9 rfl).trans ?_
        refine (r_bipush L_120_10 kb_9).trans ?_
        refine (r_cmplt L_120_11).trans ?_
        refine it_c ?_ ?_
        · refine (r_aload_n L_120_14 rfl).trans ?_
          refine (r_getfr L_120_15 gf_0_3).trans ?_
          refine (r_iload_n L_120_16 rfl).trans ?_
          refine (r_iload_n L_120_17 rfl).trans ?_
          refine (r_callV L_120_18 rfl isI_51 rfl).trans ?_
          refine bi_c (fun q5 => ?_)
          exact r_ret L_120_19 mz_120
        · refine (r_sipush L_120_12 ks_m1001).trans ?_
          exact r_ret L_120_13 mz_120
    · refine (r_sipush L_120_12 ks_m1001).trans ?_
      exact r_ret L_120_13 mz_120
set_option maxRecDepth 100000 in
set_option maxHeartbeats 4000000 in
theorem q_D_expect_0 (ρ : Nat × (Nat → Int32)) (σ : rd_Sg) (x1 x2 x3 x4 : Int32) : rd_R ρ 121 0 [some (.ref 0), some (.int x1), some (.int x2), some (.int x3), some (.int x4), none] [] σ = ((rd_R ρ 92 0 [some (.ref 9), some (.int x1), some (.int x2)] [] σ).bind fun q0 => (if q0.1 = (-1) then some (((-1) : Int32), q0.2) else (if x3 < 0 then some (((-1) : Int32), q0.2) else (if x4 < x3 then some (((-1) : Int32), q0.2) else ((rd_R ρ 21 0 [some (.ref 33), some (.int x1), some (.int x2), some (.int q0.1), some (.int x3), some (.int x4), none] [] q0.2).bind fun q4 => some (q4.1, q4.2)))))) := by
  refine (r_aload_n L_121_0 rfl).trans ?_
  refine (r_getfr L_121_1 gf_0_1).trans ?_
  refine (r_iload_n L_121_2 rfl).trans ?_
  refine (r_iload_n L_121_3 rfl).trans ?_
  refine (r_callV L_121_4 rfl isI_92 rfl).trans ?_
  refine bi_c (fun q0 => ?_)
  refine (r_istore L_121_5 rfl).trans ?_
  refine (r_iload L_121_6 rfl).trans ?_
  refine (r_iconst L_121_7 ki_m1).trans ?_
  refine (r_cmpeq L_121_8).trans ?_
  refine it_c ?_ ?_
  · refine (r_iconst L_121_14 ki_m1).trans ?_
    exact r_ret L_121_15 mz_121
  · refine (r_iload_n L_121_9 rfl).trans ?_
    refine (r_iflt L_121_10).trans ?_
    refine it_c ?_ ?_
    · refine (r_iconst L_121_14 ki_m1).trans ?_
      exact r_ret L_121_15 mz_121
    · refine (r_iload L_121_11 rfl).trans ?_
      refine (r_iload_n L_121_12 rfl).trans ?_
      refine (r_cmpge L_121_13).trans ?_
      refine it_c ?_ ?_
      · refine (r_iconst L_121_14 ki_m1).trans ?_
        exact r_ret L_121_15 mz_121
      · refine (r_aload_n L_121_16 rfl).trans ?_
        refine (r_getfr L_121_17 gf_0_5).trans ?_
        refine (r_iload_n L_121_18 rfl).trans ?_
        refine (r_iload_n L_121_19 rfl).trans ?_
        refine (r_iload L_121_20 rfl).trans ?_
        refine (r_iload_n L_121_21 rfl).trans ?_
        refine (r_iload L_121_22 rfl).trans ?_
        refine (r_callV L_121_23 rfl isI_21 rfl).trans ?_
        refine bi_c (fun q4 => ?_)
        exact r_ret L_121_24 mz_121
set_option maxRecDepth 100000 in
set_option maxHeartbeats 4000000 in
theorem q_D_with_0 (ρ : Nat × (Nat → Int32)) (σ : rd_Sg) (x1 x2 x3 x4 x5 : Int32) : rd_R ρ 122 0 [some (.ref 0), some (.int x1), some (.int x2), some (.int x3), some (.int x4), some (.int x5)] [] σ = ((rd_R ρ 61 0 [some (.ref 34), some (.int x1), some (.int x2), some (.int x3), some (.int x4), some (.int x5), none] [] σ).bind fun q0 => some (q0.1, q0.2)) := by
  refine (r_aload_n L_122_0 rfl).trans ?_
  refine (r_getfr L_122_1 gf_0_5).trans ?_
  refine (r_getfr L_122_2 gf_33_0).trans ?_
  refine (r_iload_n L_122_3 rfl).trans ?_
  refine (r_iload_n L_122_4 rfl).trans ?_
  refine (r_iload_n L_122_5 rfl).trans ?_
  refine (r_iload L_122_6 rfl).trans ?_
  refine (r_iload L_122_7 rfl).trans ?_
  refine (r_callV L_122_8 rfl isI_61 rfl).trans ?_
  refine bi_c (fun q0 => ?_)
  exact r_ret L_122_9 mz_122
set_option maxRecDepth 100000 in
set_option maxHeartbeats 4000000 in
theorem q_D_order_0 (ρ : Nat × (Nat → Int32)) (σ : rd_Sg) (x1 x2 : Int32) : rd_R ρ 123 0 [some (.ref 0), some (.int x1), some (.int x2), none] [] σ = ((rd_R ρ 56 0 [some (.ref 34), some (.int x1)] [] σ).bind fun q0 => (if q0.1 = 0 then some (((-1) : Int32), q0.2) else ((rd_R ρ 56 0 [some (.ref 34), some (.int x2)] [] q0.2).bind fun q2 => (if q2.1 = 0 then some (((-1) : Int32), q2.2) else (if x1 = x2 then some (((-1) : Int32), q2.2) else ((rd_R ρ 23 0 [some (.ref 33), some (.int x1), some (.int x2)] [] q2.2).bind fun q5 => some (q5.1, q5.2))))))) := by
  refine (r_aload_n L_123_0 rfl).trans ?_
  refine (r_getfr L_123_1 gf_0_5).trans ?_
  refine (r_getfr L_123_2 gf_33_0).trans ?_
  refine (r_astore_n L_123_3 rfl).trans ?_
  refine (r_aload_n L_123_4 rfl).trans ?_
  refine (r_iload_n L_123_5 rfl).trans ?_
  refine (r_callV L_123_6 rfl isI_56 rfl).trans ?_
  refine bi_c (fun q0 => ?_)
  refine (r_ifeq L_123_7).trans ?_
  refine it_c ?_ ?_
  · refine (r_iconst L_123_15 ki_m1).trans ?_
    exact r_ret L_123_16 mz_123
  · refine (r_aload_n L_123_8 rfl).trans ?_
    refine (r_iload_n L_123_9 rfl).trans ?_
    refine (r_callV L_123_10 rfl isI_56 rfl).trans ?_
    refine bi_c (fun q2 => ?_)
    refine (r_ifeq L_123_11).trans ?_
    refine it_c ?_ ?_
    · refine (r_iconst L_123_15 ki_m1).trans ?_
      exact r_ret L_123_16 mz_123
    · refine (r_iload_n L_123_12 rfl).trans ?_
      refine (r_iload_n L_123_13 rfl).trans ?_
      refine (r_cmpne L_123_14).trans ?_
      refine it_c ?_ ?_
      · refine (r_iconst L_123_15 ki_m1).trans ?_
        exact r_ret L_123_16 mz_123
      · refine (r_aload_n L_123_17 rfl).trans ?_
        refine (r_getfr L_123_18 gf_0_5).trans ?_
        refine (r_iload_n L_123_19 rfl).trans ?_
        refine (r_iload_n L_123_20 rfl).trans ?_
        refine (r_callV L_123_21 rfl isI_23 rfl).trans ?_
        refine bi_c (fun q5 => ?_)
        exact r_ret L_123_22 mz_123
set_option maxRecDepth 100000 in
set_option maxHeartbeats 4000000 in
theorem q_D_beside_0 (ρ : Nat × (Nat → Int32)) (σ : rd_Sg) (x1 x2 : Int32) : rd_R ρ 124 0 [some (.ref 0), some (.int x1), some (.int x2)] [] σ = ((rd_R ρ 88 0 [some (.ref 9), some (.int x1)] [] σ).bind fun q0 => (if q0.1 = 0 then some (((-1) : Int32), q0.2) else ((rd_R ρ 94 0 [some (.ref 9), some (.int x1), some (.int x2), none] [] q0.2).bind fun q2 => (if q2.1 = 0 then some ((0 : Int32), q2.2) else some ((1 : Int32), q2.2))))) := by
  refine (r_aload_n L_124_0 rfl).trans ?_
  refine (r_getfr L_124_1 gf_0_1).trans ?_
  refine (r_iload_n L_124_2 rfl).trans ?_
  refine (r_callV L_124_3 rfl isI_88 rfl).trans ?_
  refine bi_c (fun q0 => ?_)
  refine (r_ifne L_124_4).trans ?_
  refine it_c ?_ ?_
  · refine (r_iconst L_124_5 ki_m1).trans ?_
    exact r_ret L_124_6 mz_124
  · refine (r_aload_n L_124_7 rfl).trans ?_
    refine (r_getfr L_124_8 gf_0_1).trans ?_
    refine (r_iload_n L_124_9 rfl).trans ?_
    refine (r_iload_n L_124_10 rfl).trans ?_
    refine (r_callV L_124_11 rfl isI_94 rfl).trans ?_
    refine bi_c (fun q2 => ?_)
    refine (r_ifeq L_124_12).trans ?_
    refine it_c ?_ ?_
    · refine (r_iconst L_124_15 ki_0).trans ?_
      exact r_ret L_124_16 mz_124
    · refine (r_iconst L_124_13 ki_1).trans ?_
      refine (r_goto L_124_14).trans ?_
      exact r_ret L_124_16 mz_124
set_option maxRecDepth 100000 in
set_option maxHeartbeats 4000000 in
theorem q_D_met_0 (ρ : Nat × (Nat → Int32)) (σ : rd_Sg) (x1 : Int32) : rd_R ρ 125 0 [some (.ref 0), some (.int x1)] [] σ = ((rd_R ρ 56 0 [some (.ref 34), some (.int x1)] [] σ).bind fun q0 => (if q0.1 = 0 then some (((-1) : Int32), q0.2) else ((rd_R ρ 24 0 [some (.ref 33), some (.int x1), some (.ref 28), none, none] [] q0.2).bind fun q2 => some (q2.1, q2.2)))) := by
  refine (r_aload_n L_125_0 rfl).trans ?_
  refine (r_getfr L_125_1 gf_0_5).trans ?_
  refine (r_getfr L_125_2 gf_33_0).trans ?_
  refine (r_iload_n L_125_3 rfl).trans ?_
  refine (r_callV L_125_4 rfl isI_56 rfl).trans ?_
  refine bi_c (fun q0 => ?_)
  refine (r_ifne L_125_5).trans ?_
  refine it_c ?_ ?_
  · refine (r_iconst L_125_6 ki_m1).trans ?_
    exact r_ret L_125_7 mz_125
  · refine (r_aload_n L_125_8 rfl).trans ?_
    refine (r_getfr L_125_9 gf_0_5).trans ?_
    refine (r_iload_n L_125_10 rfl).trans ?_
    refine (r_aload_n L_125_11 rfl).trans ?_
    refine (r_getfr L_125_12 gf_0_3).trans ?_
    refine (r_callV L_125_13 rfl isI_24 rfl).trans ?_
    refine bi_c (fun q2 => ?_)
    exact r_ret L_125_14 mz_125
set_option maxRecDepth 100000 in
set_option maxHeartbeats 4000000 in
theorem q_D_verify_0 (ρ : Nat × (Nat → Int32)) (σ : rd_Sg) : rd_R ρ 126 0 [some (.ref 0)] [] σ = ((rd_R ρ 25 0 [some (.ref 33), some (.ref 28), none] [] σ).bind fun q0 => ((rd_R ρ 103 0 [some (.ref 49), some (.ref 33), some (.ref 28), some (.ref 9), none, none, none] [] q0.2).bind fun q1 => ((rd_R ρ 101 0 [some (.ref 49)] [] q1.2).bind fun q2 => some (q2.1, q2.2)))) := by
  refine (r_aload_n L_126_0 rfl).trans ?_
  refine (r_getfr L_126_1 gf_0_5).trans ?_
  refine (r_aload_n L_126_2 rfl).trans ?_
  refine (r_getfr L_126_3 gf_0_3).trans ?_
  refine (r_callVv L_126_4 rfl isI_25 (by decide) rfl).trans ?_
  refine bi_c (fun q0 => ?_)
  refine (r_aload_n L_126_5 rfl).trans ?_
  refine (r_getfr L_126_6 gf_0_6).trans ?_
  refine (r_aload_n L_126_7 rfl).trans ?_
  refine (r_getfr L_126_8 gf_0_5).trans ?_
  refine (r_aload_n L_126_9 rfl).trans ?_
  refine (r_getfr L_126_10 gf_0_3).trans ?_
  refine (r_aload_n L_126_11 rfl).trans ?_
  refine (r_getfr L_126_12 gf_0_1).trans ?_
  refine (r_callVv L_126_13 rfl isI_103 (by decide) rfl).trans ?_
  refine bi_c (fun q1 => ?_)
  refine (r_aload_n L_126_14 rfl).trans ?_
  refine (r_getfr L_126_15 gf_0_6).trans ?_
  refine (r_callV L_126_16 rfl isI_101 rfl).trans ?_
  refine bi_c (fun q2 => ?_)
  exact r_ret L_126_17 mz_126
set_option maxRecDepth 100000 in
set_option maxHeartbeats 4000000 in
theorem q_D_wrong_0 (ρ : Nat × (Nat → Int32)) (σ : rd_Sg) (x1 x2 : Int32) : rd_R ρ 127 0 [some (.ref 0), some (.int x1), some (.int x2)] [] σ = (if x1 < 0 then some (((-1) : Int32), σ) else ((rd_R ρ 101 0 [some (.ref 49)] [] σ).bind fun q1 => (if x1 < q1.1 then (if x2 < 0 then some (((-1) : Int32), q1.2) else (if x2 < 3 then ((rd_R ρ 102 0 [some (.ref 49), some (.int x1), some (.int x2)] [] q1.2).bind fun q5 => some (q5.1, q5.2)) else some (((-1) : Int32), q1.2))) else some (((-1) : Int32), q1.2)))) := by
  refine (r_iload_n L_127_0 rfl).trans ?_
  refine (r_iflt L_127_1).trans ?_
  refine it_c ?_ ?_
  · refine (r_iconst L_127_12 ki_m1).trans ?_
    exact r_ret L_127_13 mz_127
  · refine (r_iload_n L_127_2 rfl).trans ?_
    refine (r_aload_n L_127_3 rfl).trans ?_
    refine (r_getfr L_127_4 gf_0_6).trans ?_
    refine (r_callV L_127_5 rfl isI_101 rfl).trans ?_
    refine bi_c (fun q1 => ?_)
    refine (r_cmpge L_127_6).trans ?_
    refine it_c ?_ ?_
    · refine (r_iload_n L_127_7 rfl).trans ?_
      refine (r_iflt L_127_8).trans ?_
      refine it_c ?_ ?_
      · refine (r_iconst L_127_12 ki_m1).trans ?_
        exact r_ret L_127_13 mz_127
      · refine (r_iload_n L_127_9 rfl).trans ?_
        refine (r_iconst L_127_10 ki_3).trans ?_
        refine (r_cmplt L_127_11).trans ?_
        refine it_c ?_ ?_
        · refine (r_aload_n L_127_14 rfl).trans ?_
          refine (r_getfr L_127_15 gf_0_6).trans ?_
          refine (r_iload_n L_127_16 rfl).trans ?_
          refine (r_iload_n L_127_17 rfl).trans ?_
          refine (r_callV L_127_18 rfl isI_102 rfl).trans ?_
          refine bi_c (fun q5 => ?_)
          exact r_ret L_127_19 mz_127
        · refine (r_iconst L_127_12 ki_m1).trans ?_
          exact r_ret L_127_13 mz_127
    · refine (r_iconst L_127_12 ki_m1).trans ?_
      exact r_ret L_127_13 mz_127
set_option maxRecDepth 100000 in
set_option maxHeartbeats 4000000 in
theorem q_D_cue_0 (ρ : Nat × (Nat → Int32)) (σ : rd_Sg) (x1 x2 x3 x4 : Int32) : rd_R ρ 128 0 [some (.ref 0), some (.int x1), some (.int x2), some (.int x3), some (.int x4)] [] σ = ((rd_R ρ 15 0 [some (.int x1), some (.int x2), some (.int x3), some (.int x4), none] [] σ).bind fun q0 => (if q0.1 = 0 then some (((-1) : Int32), q0.2) else ((rd_R ρ 18 0 [some (.ref 51), some (.int x1), some (.int x2), some (.int x3), some (.int x4), none] [] q0.2).bind fun q2 => some (q2.1, q2.2)))) := by
  refine (r_iload_n L_128_0 rfl).trans ?_
  refine (r_iload_n L_128_1 rfl).trans ?_
  refine (r_iload_n L_128_2 rfl).trans ?_
  refine (r_iload L_128_3 rfl).trans ?_
  refine (r_callS L_128_4 rfl isI_15 rfl).trans ?_
  refine bi_c (fun q0 => ?_)
  refine (r_ifne L_128_5).trans ?_
  refine it_c ?_ ?_
  · refine (r_iconst L_128_6 ki_m1).trans ?_
    exact r_ret L_128_7 mz_128
  · refine (r_aload_n L_128_8 rfl).trans ?_
    refine (r_getfr L_128_9 gf_0_7).trans ?_
    refine (r_iload_n L_128_10 rfl).trans ?_
    refine (r_iload_n L_128_11 rfl).trans ?_
    refine (r_iload_n L_128_12 rfl).trans ?_
    refine (r_iload L_128_13 rfl).trans ?_
    refine (r_callV L_128_14 rfl isI_18 rfl).trans ?_
    refine bi_c (fun q2 => ?_)
    exact r_ret L_128_15 mz_128
set_option maxRecDepth 100000 in
set_option maxHeartbeats 4000000 in
theorem q_D_clear_0 (ρ : Nat × (Nat → Int32)) (σ : rd_Sg) : rd_R ρ 129 0 [some (.ref 0)] [] σ = ((rd_R ρ 19 0 [some (.ref 51), none] [] σ).bind fun q0 => some (q0.1, q0.2)) := by
  refine (r_aload_n L_129_0 rfl).trans ?_
  refine (r_getfr L_129_1 gf_0_7).trans ?_
  refine (r_callV L_129_2 rfl isI_19 rfl).trans ?_
  refine bi_c (fun q0 => ?_)
  exact r_ret L_129_3 mz_129
set_option maxRecDepth 100000 in
set_option maxHeartbeats 4000000 in
theorem q_D_run_0 (ρ : Nat × (Nat → Int32)) (σ : rd_Sg) (x1 : Int32) : rd_R ρ 130 0 [some (.ref 0), some (.int x1), none, none] [] σ = (if x1 < 1 then some (((-1) : Int32), σ) else (if 1000 < x1 then some (((-1) : Int32), σ) else ((rd_R ρ 1 0 [some (.ref 56)] [] σ).bind fun q2 => (if q2.1 = 0 then ((rd_R ρ 3 0 [some (.ref 56)] [] q2.2).bind fun q4 => rd_R ρ 130 19 [some (.ref 0), some (.int x1), some (.int 0), none] [] q4.2) else some (((-3) : Int32), q2.2))))) := by
  refine (r_iload_n L_130_0 rfl).trans ?_
  refine (r_iconst L_130_1 ki_1).trans ?_
  refine (r_cmplt L_130_2).trans ?_
  refine it_c ?_ ?_
  · refine (r_iconst L_130_6 ki_m1).trans ?_
    exact r_ret L_130_7 mz_130
  · refine (r_iload_n L_130_3 rfl).trans ?_
    refine (r_sipush L_130_4 ks_1000).trans ?_
    refine (r_cmple L_130_5).trans ?_
    refine it_c ?_ ?_
    · refine (r_iconst L_130_6 ki_m1).trans ?_
      exact r_ret L_130_7 mz_130
    · refine (r_aload_n L_130_8 rfl).trans ?_
      refine (r_getfr L_130_9 gf_0_8).trans ?_
      refine (r_callV L_130_10 rfl isI_1 rfl).trans ?_
      refine bi_c (fun q2 => ?_)
      refine (r_ifeq L_130_11).trans ?_
      refine it_c ?_ ?_
      · refine (r_aload_n L_130_14 rfl).trans ?_
        refine (r_getfr L_130_15 gf_0_8).trans ?_
        refine (r_callVv L_130_16 rfl isI_3 (by decide) rfl).trans ?_
        refine bi_c (fun q4 => ?_)
        refine (r_iconst L_130_17 ki_0).trans ?_
        refine (r_istore_n L_130_18 rfl).trans ?_
        rfl
      · refine (r_bipush L_130_12 kb_m3).trans ?_
        exact r_ret L_130_13 mz_130
set_option maxRecDepth 100000 in
set_option maxHeartbeats 4000000 in
theorem q_D_run_0_at19 (ρ : Nat × (Nat → Int32)) (σ : rd_Sg) (x1 x2 : Int32) (o3 : Option Value) : rd_R ρ 130 19 [some (.ref 0), some (.int x1), some (.int x2), o3] [] σ = (if x2 < x1 then ((rd_R ρ 4 0 [some (.ref 56)] [] σ).bind fun q1 => (if q1.1 = 0 then ((rd_R ρ 4 0 [some (.ref 56)] [] q1.2).bind fun q3 => (if q3.1 = 0 then some ((0 : Int32), q3.2) else some (((-4) : Int32), q3.2))) else ((rd_R ρ 5 0 [some (.ref 56), none, none, none, none] [] q1.2).bind fun q3 => (if q3.1 = (-1) then rd_R ρ 130 42 [some (.ref 0), some (.int x1), some (.int x2), some (.int q3.1)] [] q3.2 else ((rd_R ρ 9 0 [some (.ref 56), some (.int q3.1), none] [] q3.2).bind fun q5 => (if q5.1 = 0 then some ((q3.1 + 1), q5.2) else rd_R ρ 130 42 [some (.ref 0), some (.int x1), some (.int x2), some (.int q3.1)] [] q5.2)))))) else ((rd_R ρ 4 0 [some (.ref 56)] [] σ).bind fun q1 => (if q1.1 = 0 then some ((0 : Int32), q1.2) else some (((-4) : Int32), q1.2)))) := by
  refine (r_iload_n L_130_19 rfl).trans ?_
  refine (r_iload_n L_130_20 rfl).trans ?_
  refine (r_cmpge L_130_21).trans ?_
  refine it_c ?_ ?_
  · refine (r_aload_n L_130_22 rfl).trans ?_
    refine (r_getfr L_130_23 gf_0_8).trans ?_
    refine (r_callV L_130_24 rfl isI_4 rfl).trans ?_
    refine bi_c (fun q1 => ?_)
    refine (r_ifeq L_130_25).trans ?_
    refine it_c ?_ ?_
    · refine (r_aload_n L_130_47 rfl).trans ?_
      refine (r_getfr L_130_48 gf_0_8).trans ?_
      refine (r_callV L_130_49 rfl isI_4 rfl).trans ?_
      refine bi_c (fun q3 => ?_)
      refine (r_ifeq L_130_50).trans ?_
      refine it_c ?_ ?_
      · refine (r_iconst L_130_53 ki_0).trans ?_
        exact r_ret L_130_54 mz_130
      · refine (r_bipush L_130_51 kb_m4).trans ?_
        refine (r_goto L_130_52).trans ?_
        exact r_ret L_130_54 mz_130
    · refine (r_aload_n L_130_26 rfl).trans ?_
      refine (r_getfr L_130_27 gf_0_8).trans ?_
      refine (r_callV L_130_28 rfl isI_5 rfl).trans ?_
      refine bi_c (fun q3 => ?_)
      refine (r_istore_n L_130_29 rfl).trans ?_
      refine (r_iload_n L_130_30 rfl).trans ?_
      refine (r_iconst L_130_31 ki_m1).trans ?_
      refine (r_cmpeq L_130_32).trans ?_
      refine it_c ?_ ?_
      · rfl
      · refine (r_aload_n L_130_33 rfl).trans ?_
        refine (r_getfr L_130_34 gf_0_8).trans ?_
        refine (r_iload_n L_130_35 rfl).trans ?_
        refine (r_callV L_130_36 rfl isI_9 rfl).trans ?_
        refine bi_c (fun q5 => ?_)
        refine (r_ifne L_130_37).trans ?_
        refine it_c ?_ ?_
        · refine (r_iload_n L_130_38 rfl).trans ?_
          refine (r_iconst L_130_39 ki_1).trans ?_
          refine (r_iadd L_130_40).trans ?_
          exact r_ret L_130_41 mz_130
        · rfl
  · refine (r_aload_n L_130_47 rfl).trans ?_
    refine (r_getfr L_130_48 gf_0_8).trans ?_
    refine (r_callV L_130_49 rfl isI_4 rfl).trans ?_
    refine bi_c (fun q1 => ?_)
    refine (r_ifeq L_130_50).trans ?_
    refine it_c ?_ ?_
    · refine (r_iconst L_130_53 ki_0).trans ?_
      exact r_ret L_130_54 mz_130
    · refine (r_bipush L_130_51 kb_m4).trans ?_
      refine (r_goto L_130_52).trans ?_
      exact r_ret L_130_54 mz_130
set_option maxRecDepth 100000 in
set_option maxHeartbeats 4000000 in
theorem q_D_run_0_at42 (ρ : Nat × (Nat → Int32)) (σ : rd_Sg) (x1 x2 : Int32) (o3 : Option Value) : rd_R ρ 130 42 [some (.ref 0), some (.int x1), some (.int x2), o3] [] σ = ((rd_R ρ 10 0 [some (.ref 56)] [] σ).bind fun q0 => rd_R ρ 130 19 [some (.ref 0), some (.int x1), some (.int (x2 + 1)), o3] [] q0.2) := by
  refine (r_aload_n L_130_42 rfl).trans ?_
  refine (r_getfr L_130_43 gf_0_8).trans ?_
  refine (r_callVv L_130_44 rfl isI_10 (by decide) rfl).trans ?_
  refine bi_c (fun q0 => ?_)
  refine (r_iinc L_130_45 rfl ki_1 rfl).trans ?_
  refine (r_goto L_130_46).trans ?_
  rfl
set_option maxRecDepth 100000 in
set_option maxHeartbeats 4000000 in
theorem q_D_desk_0 (ρ : Nat × (Nat → Int32)) (σ : rd_Sg) (x1 : Int32) : rd_R ρ 131 0 [some (.ref 0), some (.int x1)] [] σ = (if x1 < 0 then some (((-1001) : Int32), σ) else (if x1 < 12 then (if x1 < 8 then (rd_chk x1 8 (some ((σ 61 x1.toNatClampNeg), σ))) else (rd_chk (x1 - 8) 4 (some ((σ 62 (x1 - 8).toNatClampNeg), σ)))) else some (((-1001) : Int32), σ))) := by
  refine (r_iload_n L_131_0 rfl).trans ?_
  refine (r_iflt L_131_1).trans ?_
  refine it_c ?_ ?_
  · refine (r_sipush L_131_5 ks_m1001).trans ?_
    exact r_ret L_131_6 mz_131
  · refine (r_iload_n L_131_2 rfl).trans ?_
    refine (r_bipush L_131_3 kb_12).trans ?_
    refine (r_cmplt L_131_4).trans ?_
    refine it_c ?_ ?_
    · refine (r_iload_n L_131_7 rfl).trans ?_
      refine (r_bipush L_131_8 kb_8).trans ?_
      refine (r_cmpge L_131_9).trans ?_
      refine it_c ?_ ?_
      · refine (r_aload_n L_131_10 rfl).trans ?_
        refine (r_getfr L_131_11 gf_0_8).trans ?_
        refine (r_getfr L_131_12 gf_56_5).trans ?_
        refine (r_iload_n L_131_13 rfl).trans ?_
        refine (r_iald L_131_14 ar_61).trans ?_
        refine ck_c ?_
        refine (r_goto L_131_15).trans ?_
        exact r_ret L_131_23 mz_131
      · refine (r_aload_n L_131_16 rfl).trans ?_
        refine (r_getfr L_131_17 gf_0_8).trans ?_
        refine (r_getfr L_131_18 gf_56_6).trans ?_
        refine (r_iload_n L_131_19 rfl).trans ?_
        refine (r_bipush L_131_20 kb_8).trans ?_
        refine (r_isub L_131_21).trans ?_
        refine (r_iald L_131_22 ar_62).trans ?_
        refine ck_c ?_
        exact r_ret L_131_23 mz_131
    · refine (r_sipush L_131_5 ks_m1001).trans ?_
      exact r_ret L_131_6 mz_131
set_option maxRecDepth 100000 in
set_option maxHeartbeats 4000000 in
theorem q_D_told_0 (ρ : Nat × (Nat → Int32)) (σ : rd_Sg) (x1 : Int32) : rd_R ρ 132 0 [some (.ref 0), some (.int x1)] [] σ = (if x1 < 0 then some (((-1001) : Int32), σ) else ((rd_R ρ 11 0 [some (.ref 56)] [] σ).bind fun q1 => (if x1 < q1.1 then ((rd_R ρ 12 0 [some (.ref 56), some (.int x1)] [] q1.2).bind fun q3 => some (q3.1, q3.2)) else some (((-1001) : Int32), q1.2)))) := by
  refine (r_iload_n L_132_0 rfl).trans ?_
  refine (r_iflt L_132_1).trans ?_
  refine it_c ?_ ?_
  · refine (r_sipush L_132_7 ks_m1001).trans ?_
    exact r_ret L_132_8 mz_132
  · refine (r_iload_n L_132_2 rfl).trans ?_
    refine (r_aload_n L_132_3 rfl).trans ?_
    refine (r_getfr L_132_4 gf_0_8).trans ?_
    refine (r_callV L_132_5 rfl isI_11 rfl).trans ?_
    refine bi_c (fun q1 => ?_)
    refine (r_cmplt L_132_6).trans ?_
    refine it_c ?_ ?_
    · refine (r_aload_n L_132_9 rfl).trans ?_
      refine (r_getfr L_132_10 gf_0_8).trans ?_
      refine (r_iload_n L_132_11 rfl).trans ?_
      refine (r_callV L_132_12 rfl isI_12 rfl).trans ?_
      refine bi_c (fun q3 => ?_)
      exact r_ret L_132_13 mz_132
    · refine (r_sipush L_132_7 ks_m1001).trans ?_
      exact r_ret L_132_8 mz_132
set_option maxRecDepth 100000 in
set_option maxHeartbeats 4000000 in
theorem q_D_count_0 (ρ : Nat × (Nat → Int32)) (σ : rd_Sg) (x1 : Int32) : rd_R ρ 133 0 [some (.ref 0), some (.int x1)] [] σ = (if x1 = 0 then ((rd_R ρ 33 0 [some (.ref 1)] [] σ).bind fun q1 => some (q1.1, q1.2)) else (if x1 = 1 then ((rd_R ρ 87 0 [some (.ref 9)] [] σ).bind fun q1 => some (q1.1, q1.2)) else (if x1 = 2 then ((rd_R ρ 55 0 [some (.ref 15)] [] σ).bind fun q1 => some (q1.1, q1.2)) else (if x1 = 3 then ((rd_R ρ 49 0 [some (.ref 28)] [] σ).bind fun q1 => some (q1.1, q1.2)) else (if x1 = 4 then ((rd_R ρ 50 0 [some (.ref 28)] [] σ).bind fun q1 => some (q1.1, q1.2)) else (if x1 = 5 then ((rd_R ρ 55 0 [some (.ref 34)] [] σ).bind fun q1 => some (q1.1, q1.2)) else (if x1 = 6 then ((rd_R ρ 22 0 [some (.ref 33)] [] σ).bind fun q1 => some (q1.1, q1.2)) else (if x1 = 7 then ((rd_R ρ 17 0 [some (.ref 51)] [] σ).bind fun q1 => some (q1.1, q1.2)) else (if x1 = 8 then ((rd_R ρ 2 0 [some (.ref 56)] [] σ).bind fun q1 => some (q1.1, q1.2)) else (if x1 = 9 then ((rd_R ρ 11 0 [some (.ref 56)] [] σ).bind fun q1 => some (q1.1, q1.2)) else ((rd_R ρ 134 0 [some (.ref 0), some (.int x1)] [] σ).bind fun q1 => some (q1.1, q1.2)))))))))))) := by
  refine (r_iload_n L_133_0 rfl).trans ?_
  refine (r_tsw L_133_1).trans ?_
  refine (r_swc ki_0 rfl).trans ?_
  refine it_c ?_ ?_
  · refine (r_aload_n L_133_2 rfl).trans ?_
    refine (r_getfr L_133_3 gf_0_0).trans ?_
    refine (r_callV L_133_4 rfl isI_33 rfl).trans ?_
    refine bi_c (fun q1 => ?_)
    exact r_ret L_133_5 mz_133
  · refine (r_swc ki_1 rfl).trans ?_
    refine it_c ?_ ?_
    · refine (r_aload_n L_133_6 rfl).trans ?_
      refine (r_getfr L_133_7 gf_0_1).trans ?_
      refine (r_callV L_133_8 rfl isI_87 rfl).trans ?_
      refine bi_c (fun q1 => ?_)
      exact r_ret L_133_9 mz_133
    · refine (r_swc ki_2 rfl).trans ?_
      refine it_c ?_ ?_
      · refine (r_aload_n L_133_10 rfl).trans ?_
        refine (r_getfr L_133_11 gf_0_2).trans ?_
        refine (r_getfr L_133_12 gf_14_0).trans ?_
        refine (r_callV L_133_13 rfl isI_55 rfl).trans ?_
        refine bi_c (fun q1 => ?_)
        exact r_ret L_133_14 mz_133
      · refine (r_swc ki_3 rfl).trans ?_
        refine it_c ?_ ?_
        · refine (r_aload_n L_133_15 rfl).trans ?_
          refine (r_getfr L_133_16 gf_0_3).trans ?_
          refine (r_callV L_133_17 rfl isI_49 rfl).trans ?_
          refine bi_c (fun q1 => ?_)
          exact r_ret L_133_18 mz_133
        · refine (r_swc ki_4 rfl).trans ?_
          refine it_c ?_ ?_
          · refine (r_aload_n L_133_19 rfl).trans ?_
            refine (r_getfr L_133_20 gf_0_3).trans ?_
            refine (r_callV L_133_21 rfl isI_50 rfl).trans ?_
            refine bi_c (fun q1 => ?_)
            exact r_ret L_133_22 mz_133
          · refine (r_swc ki_5 rfl).trans ?_
            refine it_c ?_ ?_
            · refine (r_aload_n L_133_23 rfl).trans ?_
              refine (r_getfr L_133_24 gf_0_5).trans ?_
              refine (r_getfr L_133_25 gf_33_0).trans ?_
              refine (r_callV L_133_26 rfl isI_55 rfl).trans ?_
              refine bi_c (fun q1 => ?_)
              exact r_ret L_133_27 mz_133
            · refine (r_swc ki_6 rfl).trans ?_
              refine it_c ?_ ?_
              · refine (r_aload_n L_133_28 rfl).trans ?_
                refine (r_getfr L_133_29 gf_0_5).trans ?_
                refine (r_callV L_133_30 rfl isI_22 rfl).trans ?_
                refine bi_c (fun q1 => ?_)
                exact r_ret L_133_31 mz_133
              · refine (r_swc ki_7 rfl).trans ?_
                refine it_c ?_ ?_
                · refine (r_aload_n L_133_32 rfl).trans ?_
                  refine (r_getfr L_133_33 gf_0_7).trans ?_
                  refine (r_callV L_133_34 rfl isI_17 rfl).trans ?_
                  refine bi_c (fun q1 => ?_)
                  exact r_ret L_133_35 mz_133
                · refine (r_swc ki_8 rfl).trans ?_
                  refine it_c ?_ ?_
                  · refine (r_aload_n L_133_36 rfl).trans ?_
                    refine (r_getfr L_133_37 gf_0_8).trans ?_
                    refine (r_callV L_133_38 rfl isI_2 rfl).trans ?_
                    refine bi_c (fun q1 => ?_)
                    exact r_ret L_133_39 mz_133
                  · refine (r_swc ki_9 rfl).trans ?_
                    refine it_c ?_ ?_
                    · refine (r_aload_n L_133_40 rfl).trans ?_
                      refine (r_getfr L_133_41 gf_0_8).trans ?_
                      refine (r_callV L_133_42 rfl isI_11 rfl).trans ?_
                      refine bi_c (fun q1 => ?_)
                      exact r_ret L_133_43 mz_133
                    · refine (r_swn).trans ?_
                      refine (r_aload_n L_133_44 rfl).trans ?_
                      refine (r_iload_n L_133_45 rfl).trans ?_
                      refine (r_callV L_133_46 rfl isI_134 rfl).trans ?_
                      refine bi_c (fun q1 => ?_)
                      exact r_ret L_133_47 mz_133
set_option maxRecDepth 100000 in
set_option maxHeartbeats 4000000 in
theorem q_D_forget_0 (ρ : Nat × (Nat → Int32)) (σ : rd_Sg) : rd_R ρ 135 0 [some (.ref 0), none] [] σ = ((rd_R ρ 49 0 [some (.ref 28)] [] σ).bind fun q0 => ((rd_R ρ 53 0 [some (.ref 28)] [] q0.2).bind fun q1 => ((rd_R ρ 75 0 [some (.ref 14), none] [] q1.2).bind fun q2 => ((rd_R ρ 13 0 [some (.ref 56)] [] q2.2).bind fun q3 => ((rd_R ρ 193 0 [some (.ref 32), some (.int 0), none, none] [] q3.2).bind fun q4 => some (q0.1, q4.2)))))) := by
  refine (r_aload_n L_135_0 rfl).trans ?_
  refine (r_getfr L_135_1 gf_0_3).trans ?_
  refine (r_callV L_135_2 rfl isI_49 rfl).trans ?_
  refine bi_c (fun q0 => ?_)
  refine (r_istore_n L_135_3 rfl).trans ?_
  refine (r_aload_n L_135_4 rfl).trans ?_
  refine (r_getfr L_135_5 gf_0_3).trans ?_
  refine (r_callVv L_135_6 rfl isI_53 (by decide) rfl).trans ?_
  refine bi_c (fun q1 => ?_)
  refine (r_aload_n L_135_7 rfl).trans ?_
  refine (r_getfr L_135_8 gf_0_2).trans ?_
  refine (r_callVv L_135_9 rfl isI_75 (by decide) rfl).trans ?_
  refine bi_c (fun q2 => ?_)
  refine (r_aload_n L_135_10 rfl).trans ?_
  refine (r_getfr L_135_11 gf_0_8).trans ?_
  refine (r_callVv L_135_12 rfl isI_13 (by decide) rfl).trans ?_
  refine bi_c (fun q3 => ?_)
  refine (r_aload_n L_135_13 rfl).trans ?_
  refine (r_getfr L_135_14 gf_0_4).trans ?_
  refine (r_getfr L_135_15 gf_31_5).trans ?_
  refine (r_iconst L_135_16 ki_0).trans ?_
  refine (r_callSv L_135_17 rfl isI_193 (by decide) rfl).trans ?_
  refine bi_c (fun q4 => ?_)
  refine (r_iload_n L_135_18 rfl).trans ?_
  exact r_ret L_135_19 mz_135
set_option maxRecDepth 100000 in
set_option maxHeartbeats 4000000 in
theorem q_X3_add_1 (ρ : Nat × (Nat → Int32)) (σ : rd_Sg) (x1 : Int32) : rd_R ρ 35 0 [some (.ref 1), some (.int x1), none] [] σ = (if (σ 1 0) < 12 then (rd_chk (σ 1 0) 12 (((rd_R ρ 34 0 [some (.ref 1), some (.int x1)] [] (rd_u σ 3 (σ 1 0).toNatClampNeg (1 <<< ((σ 1 0) &&& 31)))).bind fun q1 => (if q1.1 = 0 then some ((σ 1 0), (rd_u q1.2 1 0 ((q1.2 1 0) + 1))) else ((rd_R ρ 36 0 [some (.ref 1), some (.int (σ 1 0)), some (.int x1), none, none] [] q1.2).bind fun q3 => some ((σ 1 0), (rd_u q3.2 1 0 ((q3.2 1 0) + 1)))))))) else some (((-3) : Int32), σ)) := by
  refine (r_aload_n L_35_0 rfl).trans ?_
  refine (r_getfi L_35_1 gf_1_0).trans ?_
  refine (r_bipush L_35_2 kb_12).trans ?_
  refine (r_cmplt L_35_3).trans ?_
  refine it_c ?_ ?_
  · refine (r_aload_n L_35_6 rfl).trans ?_
    refine (r_getfi L_35_7 gf_1_0).trans ?_
    refine (r_istore_n L_35_8 rfl).trans ?_
    refine (r_aload_n L_35_9 rfl).trans ?_
    refine (r_getfr L_35_10 gf_1_2).trans ?_
    refine (r_iload_n L_35_11 rfl).trans ?_
    refine (r_iconst L_35_12 ki_1).trans ?_
    refine (r_iload_n L_35_13 rfl).trans ?_
    refine (r_ishl L_35_14).trans ?_
    refine (r_iast L_35_15 ar_3).trans ?_
    refine ck_c ?_
    refine (r_aload_n L_35_16 rfl).trans ?_
    refine (r_iload_n L_35_17 rfl).trans ?_
    refine (r_callV L_35_18 rfl isI_34 rfl).trans ?_
    refine bi_c (fun q1 => ?_)
    refine (r_ifeq L_35_19).trans ?_
    refine it_c ?_ ?_
    · refine (r_aload_n L_35_24 rfl).trans ?_
      refine (r_dupr L_35_25).trans ?_
      refine (r_getfi L_35_26 gf_1_0).trans ?_
      refine (r_iconst L_35_27 ki_1).trans ?_
      refine (r_iadd L_35_28).trans ?_
      refine (r_putfi L_35_29 gf_1_0).trans ?_
      refine (r_iload_n L_35_30 rfl).trans ?_
      exact r_ret L_35_31 mz_35
    · refine (r_aload_n L_35_20 rfl).trans ?_
      refine (r_iload_n L_35_21 rfl).trans ?_
      refine (r_iload_n L_35_22 rfl).trans ?_
      refine (r_callVv L_35_23 rfl isI_36 (by decide) rfl).trans ?_
      refine bi_c (fun q3 => ?_)
      refine (r_aload_n L_35_24 rfl).trans ?_
      refine (r_dupr L_35_25).trans ?_
      refine (r_getfi L_35_26 gf_1_0).trans ?_
      refine (r_iconst L_35_27 ki_1).trans ?_
      refine (r_iadd L_35_28).trans ?_
      refine (r_putfi L_35_29 gf_1_0).trans ?_
      refine (r_iload_n L_35_30 rfl).trans ?_
      exact r_ret L_35_31 mz_35
  · refine (r_bipush L_35_4 kb_m3).trans ?_
    exact r_ret L_35_5 mz_35
set_option maxRecDepth 100000 in
set_option maxHeartbeats 4000000 in
theorem q_X3_has_1 (ρ : Nat × (Nat → Int32)) (σ : rd_Sg) (x1 : Int32) : rd_R ρ 34 0 [some (.ref 1), some (.int x1)] [] σ = (if x1 < 0 then some (0, σ) else (if x1 < (σ 1 0) then some (1, σ) else some (0, σ))) := by
  refine (r_iload_n L_34_0 rfl).trans ?_
  refine (r_iflt L_34_1).trans ?_
  refine it_c ?_ ?_
  · refine (r_iconst L_34_8 ki_0).trans ?_
    exact r_ret0 L_34_9 mz_34
  · refine (r_iload_n L_34_2 rfl).trans ?_
    refine (r_aload_n L_34_3 rfl).trans ?_
    refine (r_getfi L_34_4 gf_1_0).trans ?_
    refine (r_cmpge L_34_5).trans ?_
    refine it_c ?_ ?_
    · refine (r_iconst L_34_6 ki_1).trans ?_
      refine (r_goto L_34_7).trans ?_
      exact r_ret1 L_34_9 mz_34
    · refine (r_iconst L_34_8 ki_0).trans ?_
      exact r_ret0 L_34_9 mz_34
set_option maxRecDepth 100000 in
set_option maxHeartbeats 4000000 in
theorem q_X3_isFixed_1 (ρ : Nat × (Nat → Int32)) (σ : rd_Sg) (x1 : Int32) : rd_R ρ 37 0 [some (.ref 1), some (.int x1)] [] σ = (rd_chk x1 12 (some ((σ 4 x1.toNatClampNeg) &&& 1, σ))) := by
  refine (r_aload_n L_37_0 rfl).trans ?_
  refine (r_getfr L_37_1 gf_1_3).trans ?_
  refine (r_iload_n L_37_2 rfl).trans ?_
  refine (r_zald L_37_3 ar_4).trans ?_
  refine ck_c ?_
  exact r_retb L_37_4 mz_37
set_option maxRecDepth 100000 in
set_option maxHeartbeats 4000000 in
theorem q_X3_addMethod_1 (ρ : Nat × (Nat → Int32)) (σ : rd_Sg) (x1 x2 x3 x4 x5 : Int32) : rd_R ρ 39 0 [some (.ref 1), some (.int x1), some (.int x2), some (.int x3), some (.int x4), some (.int x5), none, none] [] σ = (rd_chk x1 12 ((if (σ 2 x1.toNatClampNeg) < 8 then (rd_chk ((x1 * 8) + (σ 2 x1.toNatClampNeg)) 96 ((rd_chk ((x1 * 8) + (σ 2 x1.toNatClampNeg)) 96 ((rd_chk ((x1 * 8) + (σ 2 x1.toNatClampNeg)) 96 ((rd_chk ((x1 * 8) + (σ 2 x1.toNatClampNeg)) 96 ((rd_chk x1 12 ((rd_chk x1 12 (some ((σ 2 x1.toNatClampNeg), (rd_u (rd_u (rd_u (rd_u (rd_u σ 5 ((x1 * 8) + (σ 2 x1.toNatClampNeg)).toNatClampNeg x2) 6 ((x1 * 8) + (σ 2 x1.toNatClampNeg)).toNatClampNeg x3) 7 ((x1 * 8) + (σ 2 x1.toNatClampNeg)).toNatClampNeg x4) 8 ((x1 * 8) + (σ 2 x1.toNatClampNeg)).toNatClampNeg x5) 2 x1.toNatClampNeg ((σ 2 x1.toNatClampNeg) + 1))))))))))))))) else some (((-3) : Int32), σ)))) := by
  refine (r_aload_n L_39_0 rfl).trans ?_
  refine (r_getfr L_39_1 gf_1_1).trans ?_
  refine (r_iload_n L_39_2 rfl).trans ?_
  refine (r_iald L_39_3 ar_2).trans ?_
  refine ck_c ?_
  refine (r_istore L_39_4 rfl).trans ?_
  refine (r_iload L_39_5 rfl).trans ?_
  refine (r_bipush L_39_6 kb_8).trans ?_
  refine (r_cmplt L_39_7).trans ?_
  refine it_c ?_ ?_
  · refine (r_iload_n L_39_10 rfl).trans ?_
    refine (r_bipush L_39_11 kb_8).trans ?_
    refine (r_imul L_39_12).trans ?_
    refine (r_iload L_39_13 rfl).trans ?_
    refine (r_iadd L_39_14).trans ?_
    refine (r_istore L_39_15 rfl).trans ?_
    refine (r_aload_n L_39_16 rfl).trans ?_
    refine (r_getfr L_39_17 gf_1_4).trans ?_
    refine (r_iload L_39_18 rfl).trans ?_
    refine (r_iload_n L_39_19 rfl).trans ?_
    refine (r_iast L_39_20 ar_5).trans ?_
    refine ck_c ?_
    refine (r_aload_n L_39_21 rfl).trans ?_
    refine (r_getfr L_39_22 gf_1_5).trans ?_
    refine (r_iload L_39_23 rfl).trans ?_
    refine (r_iload_n L_39_24 rfl).trans ?_
    refine (r_iast L_39_25 ar_6).trans ?_
    refine ck_c ?_
    refine (r_aload_n L_39_26 rfl).trans ?_
    refine (r_getfr L_39_27 gf_1_6).trans ?_
    refine (r_iload L_39_28 rfl).trans ?_
    refine (r_iload L_39_29 rfl).trans ?_
    refine (r_iast L_39_30 ar_7).trans ?_
    refine ck_c ?_
    refine (r_aload_n L_39_31 rfl).trans ?_
    refine (r_getfr L_39_32 gf_1_7).trans ?_
    refine (r_iload L_39_33 rfl).trans ?_
    refine (r_iload L_39_34 rfl).trans ?_
    refine (r_iast L_39_35 ar_8).trans ?_
    refine ck_c ?_
    refine (r_aload_n L_39_36 rfl).trans ?_
    refine (r_getfr L_39_37 gf_1_1).trans ?_
    refine (r_iload_n L_39_38 rfl).trans ?_
    refine (r_dup2 L_39_39).trans ?_
    refine (r_ialdv L_39_40 ar_2 ((rd_un (by decide)).trans ((rd_un (by decide)).trans ((rd_un (by decide)).trans (rd_un (by decide)))))).trans ?_
    refine ck_c ?_
    refine (r_iconst L_39_41 ki_1).trans ?_
    refine (r_iadd L_39_42).trans ?_
    refine (r_iast L_39_43 ar_2).trans ?_
    refine ck_c ?_
    refine (r_iload L_39_44 rfl).trans ?_
    exact r_ret L_39_45 mz_39
  · refine (r_bipush L_39_8 kb_m3).trans ?_
    exact r_ret L_39_9 mz_39
set_option maxRecDepth 100000 in
set_option maxHeartbeats 4000000 in
theorem q_X8_add_9 (ρ : Nat × (Nat → Int32)) (σ : rd_Sg) (x1 x2 : Int32) : rd_R ρ 89 0 [some (.ref 9), some (.int x1), some (.int x2), none] [] σ = (if (σ 9 1) < 24 then (rd_chk (σ 9 1) 24 (((rd_R ρ 41 0 [some (.ref 1), some (.int x1)] [] (rd_u σ 10 (σ 9 1).toNatClampNeg x1)).bind fun q1 => (rd_chk (σ 9 1) 24 ((rd_chk (σ 9 1) 24 (((rd_R ρ 38 0 [some (.ref 1), some (.int x1)] [] (rd_u (rd_u q1.2 11 (σ 9 1).toNatClampNeg q1.1) 12 (σ 9 1).toNatClampNeg x2)).bind fun q2 => some ((σ 9 1), (rd_u q2.2 9 1 ((q2.2 9 1) + 1))))))))))) else some (((-3) : Int32), σ)) := by
  refine (r_aload_n L_89_0 rfl).trans ?_
  refine (r_getfi L_89_1 gf_9_1).trans ?_
  refine (r_bipush L_89_2 kb_24).trans ?_
  refine (r_cmplt L_89_3).trans ?_
  refine it_c ?_ ?_
  · refine (r_aload_n L_89_6 rfl).trans ?_
    refine (r_getfi L_89_7 gf_9_1).trans ?_
    refine (r_istore_n L_89_8 rfl).trans ?_
    refine (r_aload_n L_89_9 rfl).trans ?_
    refine (r_getfr L_89_10 gf_9_2).trans ?_
    refine (r_iload_n L_89_11 rfl).trans ?_
    refine (r_iload_n L_89_12 rfl).trans ?_
    refine (r_iast L_89_13 ar_10).trans ?_
    refine ck_c ?_
    refine (r_aload_n L_89_14 rfl).trans ?_
    refine (r_getfr L_89_15 gf_9_3).trans ?_
    refine (r_iload_n L_89_16 rfl).trans ?_
    refine (r_aload_n L_89_17 rfl).trans ?_
    refine (r_getfr L_89_18 gf_9_0).trans ?_
    refine (r_iload_n L_89_19 rfl).trans ?_
    refine (r_callV L_89_20 rfl isI_41 rfl).trans ?_
    refine bi_c (fun q1 => ?_)
    refine (r_iast L_89_21 ar_11).trans ?_
    refine ck_c ?_
    refine (r_aload_n L_89_22 rfl).trans ?_
    refine (r_getfr L_89_23 gf_9_4).trans ?_
    refine (r_iload_n L_89_24 rfl).trans ?_
    refine (r_iload_n L_89_25 rfl).trans ?_
    refine (r_iast L_89_26 ar_12).trans ?_
    refine ck_c ?_
    refine (r_aload_n L_89_27 rfl).trans ?_
    refine (r_getfr L_89_28 gf_9_0).trans ?_
    refine (r_iload_n L_89_29 rfl).trans ?_
    refine (r_callVv L_89_30 rfl isI_38 (by decide) rfl).trans ?_
    refine bi_c (fun q2 => ?_)
    refine (r_aload_n L_89_31 rfl).trans ?_
    refine (r_dupr L_89_32).trans ?_
    refine (r_getfi L_89_33 gf_9_1).trans ?_
    refine (r_iconst L_89_34 ki_1).trans ?_
    refine (r_iadd L_89_35).trans ?_
    refine (r_putfi L_89_36 gf_9_1).trans ?_
    refine (r_iload_n L_89_37 rfl).trans ?_
    exact r_ret L_89_38 mz_89
  · refine (r_bipush L_89_4 kb_m3).trans ?_
    exact r_ret L_89_5 mz_89
set_option maxRecDepth 100000 in
set_option maxHeartbeats 4000000 in
theorem q_X8_has_9 (ρ : Nat × (Nat → Int32)) (σ : rd_Sg) (x1 : Int32) : rd_R ρ 88 0 [some (.ref 9), some (.int x1)] [] σ = (if x1 < 0 then some (0, σ) else (if x1 < (σ 9 1) then some (1, σ) else some (0, σ))) := by
  refine (r_iload_n L_88_0 rfl).trans ?_
  refine (r_iflt L_88_1).trans ?_
  refine it_c ?_ ?_
  · refine (r_iconst L_88_8 ki_0).trans ?_
    exact r_ret0 L_88_9 mz_88
  · refine (r_iload_n L_88_2 rfl).trans ?_
    refine (r_aload_n L_88_3 rfl).trans ?_
    refine (r_getfi L_88_4 gf_9_1).trans ?_
    refine (r_cmpge L_88_5).trans ?_
    refine it_c ?_ ?_
    · refine (r_iconst L_88_6 ki_1).trans ?_
      refine (r_goto L_88_7).trans ?_
      exact r_ret1 L_88_9 mz_88
    · refine (r_iconst L_88_8 ki_0).trans ?_
      exact r_ret0 L_88_9 mz_88
set_option maxRecDepth 100000 in
set_option maxHeartbeats 4000000 in
theorem q_X8_isOf_9 (ρ : Nat × (Nat → Int32)) (σ : rd_Sg) (x1 x2 : Int32) : rd_R ρ 90 0 [some (.ref 9), some (.int x1), some (.int x2)] [] σ = (rd_chk x1 24 ((if (((σ 11 x1.toNatClampNeg) >>> (x2 &&& 31)) &&& 1) = 1 then some (1, σ) else some (0, σ)))) := by
  refine (r_aload_n L_90_0 rfl).trans ?_
  refine (r_getfr L_90_1 gf_9_3).trans ?_
  refine (r_iload_n L_90_2 rfl).trans ?_
  refine (r_iald L_90_3 ar_11).trans ?_
  refine ck_c ?_
  refine (r_iload_n L_90_4 rfl).trans ?_
  refine (r_ishr L_90_5).trans ?_
  refine (r_iconst L_90_6 ki_1).trans ?_
  refine (r_iand L_90_7).trans ?_
  refine (r_iconst L_90_8 ki_1).trans ?_
  refine (r_cmpne L_90_9).trans ?_
  refine it_c ?_ ?_
  · refine (r_iconst L_90_10 ki_1).trans ?_
    refine (r_goto L_90_11).trans ?_
    exact r_ret1 L_90_13 mz_90
  · refine (r_iconst L_90_12 ki_0).trans ?_
    exact r_ret0 L_90_13 mz_90
set_option maxRecDepth 100000 in
set_option maxHeartbeats 4000000 in
theorem q_X8_signature_9 (ρ : Nat × (Nat → Int32)) (σ : rd_Sg) (x1 x2 : Int32) : rd_R ρ 92 0 [some (.ref 9), some (.int x1), some (.int x2)] [] σ = ((rd_R ρ 88 0 [some (.ref 9), some (.int x1)] [] σ).bind fun q0 => (if q0.1 = 0 then some (((-1) : Int32), q0.2) else (rd_chk x1 24 (((rd_R ρ 42 0 [some (.ref 1), some (.int (q0.2 10 x1.toNatClampNeg)), some (.int x2)] [] q0.2).bind fun q2 => some (q2.1, q2.2)))))) := by
  refine (r_aload_n L_92_0 rfl).trans ?_
  refine (r_iload_n L_92_1 rfl).trans ?_
  refine (r_callV L_92_2 rfl isI_88 rfl).trans ?_
  refine bi_c (fun q0 => ?_)
  refine (r_ifeq L_92_3).trans ?_
  refine it_c ?_ ?_
  · refine (r_iconst L_92_13 ki_m1).trans ?_
    exact r_ret L_92_14 mz_92
  · refine (r_aload_n L_92_4 rfl).trans ?_
    refine (r_getfr L_92_5 gf_9_0).trans ?_
    refine (r_aload_n L_92_6 rfl).trans ?_
    refine (r_getfr L_92_7 gf_9_2).trans ?_
    refine (r_iload_n L_92_8 rfl).trans ?_
    refine (r_iald L_92_9 ar_10).trans ?_
    refine ck_c ?_
    refine (r_iload_n L_92_10 rfl).trans ?_
    refine (r_callV L_92_11 rfl isI_42 rfl).trans ?_
    refine bi_c (fun q2 => ?_)
    refine (r_goto L_92_12).trans ?_
    exact r_ret L_92_14 mz_92
set_option maxRecDepth 100000 in
set_option maxHeartbeats 4000000 in
theorem q_X5_add_15 (ρ : Nat × (Nat → Int32)) (σ : rd_Sg) (x1 x2 x3 : Int32) : rd_R ρ 57 0 [some (.ref 15), some (.int x1), some (.int x2), some (.int x3), none] [] σ = (if (σ 15 3) < (σ 15 0) then (rd_chk (σ 15 3) 80 ((rd_chk (σ 15 3) 80 ((rd_chk (σ 15 3) 80 (some ((σ 15 3), (rd_u (rd_u (rd_u (rd_u σ 16 (σ 15 3).toNatClampNeg x1) 17 (σ 15 3).toNatClampNeg x2) 18 (σ 15 3).toNatClampNeg x3) 15 3 ((σ 15 3) + 1))))))))) else some (((-3) : Int32), σ)) := by
  refine (r_aload_n L_57_0 rfl).trans ?_
  refine (r_getfi L_57_1 gf_15_3).trans ?_
  refine (r_aload_n L_57_2 rfl).trans ?_
  refine (r_getfi L_57_3 gf_15_0).trans ?_
  refine (r_cmplt L_57_4).trans ?_
  refine it_c ?_ ?_
  · refine (r_aload_n L_57_7 rfl).trans ?_
    refine (r_getfi L_57_8 gf_15_3).trans ?_
    refine (r_istore L_57_9 rfl).trans ?_
    refine (r_aload_n L_57_10 rfl).trans ?_
    refine (r_getfr L_57_11 gf_15_4).trans ?_
    refine (r_iload L_57_12 rfl).trans ?_
    refine (r_iload_n L_57_13 rfl).trans ?_
    refine (r_iast L_57_14 ar_16).trans ?_
    refine ck_c ?_
    refine (r_aload_n L_57_15 rfl).trans ?_
    refine (r_getfr L_57_16 gf_15_5).trans ?_
    refine (r_iload L_57_17 rfl).trans ?_
    refine (r_iload_n L_57_18 rfl).trans ?_
    refine (r_iast L_57_19 ar_17).trans ?_
    refine ck_c ?_
    refine (r_aload_n L_57_20 rfl).trans ?_
    refine (r_getfr L_57_21 gf_15_6).trans ?_
    refine (r_iload L_57_22 rfl).trans ?_
    refine (r_iload_n L_57_23 rfl).trans ?_
    refine (r_iast L_57_24 ar_18).trans ?_
    refine ck_c ?_
    refine (r_aload_n L_57_25 rfl).trans ?_
    refine (r_dupr L_57_26).trans ?_
    refine (r_getfiv L_57_27 gf_15_3 ((rd_un (by decide)).trans ((rd_un (by decide)).trans (rd_un (by decide))))).trans ?_
    refine (r_iconst L_57_28 ki_1).trans ?_
    refine (r_iadd L_57_29).trans ?_
    refine (r_putfi L_57_30 gf_15_3).trans ?_
    refine (r_iload L_57_31 rfl).trans ?_
    exact r_ret L_57_32 mz_57
  · refine (r_bipush L_57_5 kb_m3).trans ?_
    exact r_ret L_57_6 mz_57
set_option maxRecDepth 100000 in
set_option maxHeartbeats 4000000 in
theorem q_X5_setCondition_15 (ρ : Nat × (Nat → Int32)) (σ : rd_Sg) (x1 x2 x3 x4 x5 : Int32) : rd_R ρ 61 0 [some (.ref 15), some (.int x1), some (.int x2), some (.int x3), some (.int x4), some (.int x5), none] [] σ = ((rd_R ρ 59 0 [some (.ref 15), some (.int x1), some (.int x2)] [] σ).bind fun q0 => (if q0.1 = 0 then some (((-1) : Int32), q0.2) else (rd_chk x1 80 (((rd_R ρ 44 0 [some (.ref 1), some (.int (q0.2 18 x1.toNatClampNeg)), some (.int x2)] [] q0.2).bind fun q2 => ((rd_R ρ 62 0 [some (.ref 15), some (.int q2.1), some (.int x3), some (.int x4)] [] q2.2).bind fun q3 => (if q3.1 = 0 then some (((-1) : Int32), q3.2) else (rd_chk ((x1 * 3) + x2) 240 ((rd_chk ((x1 * 3) + x2) 240 ((rd_chk ((x1 * 3) + x2) 240 (some ((1 : Int32), (rd_u (rd_u (rd_u q3.2 19 ((x1 * 3) + x2).toNatClampNeg x3) 20 ((x1 * 3) + x2).toNatClampNeg x4) 21 ((x1 * 3) + x2).toNatClampNeg x5))))))))))))))) := by
  refine (r_aload_n L_61_0 rfl).trans ?_
  refine (r_iload_n L_61_1 rfl).trans ?_
  refine (r_iload_n L_61_2 rfl).trans ?_
  refine (r_callV L_61_3 rfl isI_59 rfl).trans ?_
  refine bi_c (fun q0 => ?_)
  refine (r_ifne L_61_4).trans ?_
  refine it_c ?_ ?_
  · refine (r_iconst L_61_5 ki_m1).trans ?_
    exact r_ret L_61_6 mz_61
  · refine (r_aload_n L_61_7 rfl).trans ?_
    refine (r_aload_n L_61_8 rfl).trans ?_
    refine (r_getfr L_61_9 gf_15_1).trans ?_
    refine (r_aload_n L_61_10 rfl).trans ?_
    refine (r_getfr L_61_11 gf_15_6).trans ?_
    refine (r_iload_n L_61_12 rfl).trans ?_
    refine (r_iald L_61_13 ar_18).trans ?_
    refine ck_c ?_
    refine (r_iload_n L_61_14 rfl).trans ?_
    refine (r_callV L_61_15 rfl isI_44 rfl).trans ?_
    refine bi_c (fun q2 => ?_)
    refine (r_iload_n L_61_16 rfl).trans ?_
    refine (r_iload L_61_17 rfl).trans ?_
    refine (r_callV L_61_18 rfl isI_62 rfl).trans ?_
    refine bi_c (fun q3 => ?_)
    refine (r_ifne L_61_19).trans ?_
    refine it_c ?_ ?_
    · refine (r_iconst L_61_20 ki_m1).trans ?_
      exact r_ret L_61_21 mz_61
    · refine (r_iload_n L_61_22 rfl).trans ?_
      refine (r_iconst L_61_23 ki_3).trans ?_
      refine (r_imul L_61_24).trans ?_
      refine (r_iload_n L_61_25 rfl).trans ?_
      refine (r_iadd L_61_26).trans ?_
      refine (r_istore L_61_27 rfl).trans ?_
      refine (r_aload_n L_61_28 rfl).trans ?_
      refine (r_getfr L_61_29 gf_15_7).trans ?_
      refine (r_iload L_61_30 rfl).trans ?_
      refine (r_iload_n L_61_31 rfl).trans ?_
      refine (r_iast L_61_32 ar_19).trans ?_
      refine ck_c ?_
      refine (r_aload_n L_61_33 rfl).trans ?_
      refine (r_getfr L_61_34 gf_15_8).trans ?_
      refine (r_iload L_61_35 rfl).trans ?_
      refine (r_iload L_61_36 rfl).trans ?_
      refine (r_iast L_61_37 ar_20).trans ?_
      refine ck_c ?_
      refine (r_aload_n L_61_38 rfl).trans ?_
      refine (r_getfr L_61_39 gf_15_9).trans ?_
      refine (r_iload L_61_40 rfl).trans ?_
      refine (r_iload L_61_41 rfl).trans ?_
      refine (r_iast L_61_42 ar_21).trans ?_
      refine ck_c ?_
      refine (r_iconst L_61_43 ki_1).trans ?_
      exact r_ret L_61_44 mz_61
set_option maxRecDepth 100000 in
set_option maxHeartbeats 4000000 in
theorem q_X6_release_14 (ρ : Nat × (Nat → Int32)) (σ : rd_Sg) (x1 x2 : Int32) : rd_R ρ 74 0 [some (.ref 14), some (.int x1), some (.int x2)] [] σ = (rd_chk ((x1 * 3) + x2) 240 (some (0, (rd_u σ 26 ((x1 * 3) + x2).toNatClampNeg (0 &&& 1))))) := by
  refine (r_aload_n L_74_0 rfl).trans ?_
  refine (r_getfr L_74_1 gf_14_7).trans ?_
  refine (r_iload_n L_74_2 rfl).trans ?_
  refine (r_iconst L_74_3 ki_3).trans ?_
  refine (r_imul L_74_4).trans ?_
  refine (r_iload_n L_74_5 rfl).trans ?_
  refine (r_iadd L_74_6).trans ?_
  refine (r_iconst L_74_7 ki_0).trans ?_
  refine (r_zast L_74_8 ar_26).trans ?_
  refine ck_c ?_
  exact r_retv L_74_9
set_option maxRecDepth 100000 in
set_option maxHeartbeats 4000000 in
theorem q_X5_has_15 (ρ : Nat × (Nat → Int32)) (σ : rd_Sg) (x1 : Int32) : rd_R ρ 56 0 [some (.ref 15), some (.int x1)] [] σ = (if x1 < 0 then some (0, σ) else (if x1 < (σ 15 3) then some (1, σ) else some (0, σ))) := by
  refine (r_iload_n L_56_0 rfl).trans ?_
  refine (r_iflt L_56_1).trans ?_
  refine it_c ?_ ?_
  · refine (r_iconst L_56_8 ki_0).trans ?_
    exact r_ret0 L_56_9 mz_56
  · refine (r_iload_n L_56_2 rfl).trans ?_
    refine (r_aload_n L_56_3 rfl).trans ?_
    refine (r_getfi L_56_4 gf_15_3).trans ?_
    refine (r_cmpge L_56_5).trans ?_
    refine it_c ?_ ?_
    · refine (r_iconst L_56_6 ki_1).trans ?_
      refine (r_goto L_56_7).trans ?_
      exact r_ret1 L_56_9 mz_56
    · refine (r_iconst L_56_8 ki_0).trans ?_
      exact r_ret0 L_56_9 mz_56
set_option maxRecDepth 100000 in
set_option maxHeartbeats 4000000 in
theorem q_X6_isAnswer_14 (ρ : Nat × (Nat → Int32)) (σ : rd_Sg) (x1 x2 x3 : Int32) : rd_R ρ 66 0 [some (.ref 14), some (.int x1), some (.int x2), some (.int x3)] [] σ = (if x2 = 0 then some (1, σ) else (if x2 = 1 then (if x3 = (-1) then some (1, σ) else ((rd_R ρ 88 0 [some (.ref 9), some (.int x3)] [] σ).bind fun q2 => (if q2.1 = 0 then some (0, q2.2) else some (1, q2.2)))) else (if x2 = 2 then (if x3 < 0 then some (0, σ) else (if 7 < x3 then some (0, σ) else some (1, σ))) else (if x2 = 3 then some (1, σ) else (if x2 = 4 then ((rd_R ρ 58 0 [some (.ref 15), some (.int x1)] [] σ).bind fun q1 => ((rd_R ρ 43 0 [some (.ref 1), some (.int q1.1), some (.int x3)] [] q1.2).bind fun q2 => some (q2.1 &&& 1, q2.2))) else (if x2 = 5 then some (1, σ) else some (0, σ))))))) := by
  refine (r_iload_n L_66_0 rfl).trans ?_
  refine (r_tsw L_66_1).trans ?_
  refine (r_swc ki_0 rfl).trans ?_
  refine it_c ?_ ?_
  · refine (r_iconst L_66_2 ki_1).trans ?_
    exact r_ret1 L_66_3 mz_66
  · refine (r_swc ki_1 rfl).trans ?_
    refine it_c ?_ ?_
    · refine (r_iload_n L_66_4 rfl).trans ?_
      refine (r_iconst L_66_5 ki_m1).trans ?_
      refine (r_cmpeq L_66_6).trans ?_
      refine it_c ?_ ?_
      · refine (r_iconst L_66_12 ki_1).trans ?_
        refine (r_goto L_66_13).trans ?_
        exact r_ret1 L_66_15 mz_66
      · refine (r_aload_n L_66_7 rfl).trans ?_
        refine (r_getfr L_66_8 gf_14_2).trans ?_
        refine (r_iload_n L_66_9 rfl).trans ?_
        refine (r_callV L_66_10 rfl isI_88 rfl).trans ?_
        refine bi_c (fun q2 => ?_)
        refine (r_ifeq L_66_11).trans ?_
        refine it_c ?_ ?_
        · refine (r_iconst L_66_14 ki_0).trans ?_
          exact r_ret0 L_66_15 mz_66
        · refine (r_iconst L_66_12 ki_1).trans ?_
          refine (r_goto L_66_13).trans ?_
          exact r_ret1 L_66_15 mz_66
    · refine (r_swc ki_2 rfl).trans ?_
      refine it_c ?_ ?_
      · refine (r_iload_n L_66_16 rfl).trans ?_
        refine (r_iflt L_66_17).trans ?_
        refine it_c ?_ ?_
        · refine (r_iconst L_66_23 ki_0).trans ?_
          exact r_ret0 L_66_24 mz_66
        · refine (r_iload_n L_66_18 rfl).trans ?_
          refine (r_bipush L_66_19 kb_7).trans ?_
          refine (r_cmpgt L_66_20).trans ?_
          refine it_c ?_ ?_
          · refine (r_iconst L_66_23 ki_0).trans ?_
            exact r_ret0 L_66_24 mz_66
          · refine (r_iconst L_66_21 ki_1).trans ?_
            refine (r_goto L_66_22).trans ?_
            exact r_ret1 L_66_24 mz_66
      · refine (r_swc ki_3 rfl).trans ?_
        refine it_c ?_ ?_
        · refine (r_iconst L_66_25 ki_1).trans ?_
          exact r_ret1 L_66_26 mz_66
        · refine (r_swc ki_4 rfl).trans ?_
          refine it_c ?_ ?_
          · refine (r_aload_n L_66_27 rfl).trans ?_
            refine (r_getfr L_66_28 gf_14_1).trans ?_
            refine (r_aload_n L_66_29 rfl).trans ?_
            refine (r_getfr L_66_30 gf_14_0).trans ?_
            refine (r_iload_n L_66_31 rfl).trans ?_
            refine (r_callV L_66_32 rfl isI_58 rfl).trans ?_
            refine bi_c (fun q1 => ?_)
            refine (r_iload_n L_66_33 rfl).trans ?_
            refine (r_callV L_66_34 rfl isI_43 rfl).trans ?_
            refine bi_c (fun q2 => ?_)
            exact r_retb L_66_35 mz_66
          · refine (r_swc ki_5 rfl).trans ?_
            refine it_c ?_ ?_
            · refine (r_iconst L_66_36 ki_1).trans ?_
              exact r_ret1 L_66_37 mz_66
            · refine (r_swn).trans ?_
              refine (r_iconst L_66_38 ki_0).trans ?_
              exact r_ret0 L_66_39 mz_66
set_option maxRecDepth 100000 in
set_option maxHeartbeats 4000000 in
theorem q_X6_addAnswer_14 (ρ : Nat × (Nat → Int32)) (σ : rd_Sg) (x1 x2 x3 : Int32) : rd_R ρ 67 0 [some (.ref 14), some (.int x1), some (.int x2), some (.int x3), none] [] σ = (rd_chk x1 80 ((if (σ 22 x1.toNatClampNeg) < 6 then (rd_chk x1 80 ((rd_chk ((x1 * 6) + (σ 22 x1.toNatClampNeg)) 480 ((rd_chk ((x1 * 6) + (σ 22 x1.toNatClampNeg)) 480 ((rd_chk x1 80 ((rd_chk x1 80 ((rd_chk x1 80 (some (((σ 22 x1.toNatClampNeg) + 1), (rd_u (rd_u (rd_u σ 23 ((x1 * 6) + (σ 22 x1.toNatClampNeg)).toNatClampNeg x2) 24 ((x1 * 6) + (σ 22 x1.toNatClampNeg)).toNatClampNeg x3) 22 x1.toNatClampNeg ((σ 22 x1.toNatClampNeg) + 1))))))))))))))) else some (((-3) : Int32), σ)))) := by
  refine (r_aload_n L_67_0 rfl).trans ?_
  refine (r_getfr L_67_1 gf_14_3).trans ?_
  refine (r_iload_n L_67_2 rfl).trans ?_
  refine (r_iald L_67_3 ar_22).trans ?_
  refine ck_c ?_
  refine (r_bipush L_67_4 kb_6).trans ?_
  refine (r_cmplt L_67_5).trans ?_
  refine it_c ?_ ?_
  · refine (r_iload_n L_67_8 rfl).trans ?_
    refine (r_bipush L_67_9 kb_6).trans ?_
    refine (r_imul L_67_10).trans ?_
    refine (r_aload_n L_67_11 rfl).trans ?_
    refine (r_getfr L_67_12 gf_14_3).trans ?_
    refine (r_iload_n L_67_13 rfl).trans ?_
    refine (r_iald L_67_14 ar_22).trans ?_
    refine ck_c ?_
    refine (r_iadd L_67_15).trans ?_
    refine (r_istore L_67_16 rfl).trans ?_
    refine (r_aload_n L_67_17 rfl).trans ?_
    refine (r_getfr L_67_18 gf_14_4).trans ?_
    refine (r_iload L_67_19 rfl).trans ?_
    refine (r_iload_n L_67_20 rfl).trans ?_
    refine (r_iast L_67_21 ar_23).trans ?_
    refine ck_c ?_
    refine (r_aload_n L_67_22 rfl).trans ?_
    refine (r_getfr L_67_23 gf_14_5).trans ?_
    refine (r_iload L_67_24 rfl).trans ?_
    refine (r_iload_n L_67_25 rfl).trans ?_
    refine (r_iast L_67_26 ar_24).trans ?_
    refine ck_c ?_
    refine (r_aload_n L_67_27 rfl).trans ?_
    refine (r_getfr L_67_28 gf_14_3).trans ?_
    refine (r_iload_n L_67_29 rfl).trans ?_
    refine (r_dup2 L_67_30).trans ?_
    refine (r_ialdv L_67_31 ar_22 ((rd_un (by decide)).trans (rd_un (by decide)))).trans ?_
    refine ck_c ?_
    refine (r_iconst L_67_32 ki_1).trans ?_
    refine (r_iadd L_67_33).trans ?_
    refine (r_iast L_67_34 ar_22).trans ?_
    refine ck_c ?_
    refine (r_aload_n L_67_35 rfl).trans ?_
    refine (r_getfr L_67_36 gf_14_3).trans ?_
    refine (r_iload_n L_67_37 rfl).trans ?_
    refine (r_ialdv L_67_38 ar_22 (rd_us)).trans ?_
    refine ck_c ?_
    exact r_ret L_67_39 mz_67
  · refine (r_bipush L_67_6 kb_m3).trans ?_
    exact r_ret L_67_7 mz_67
set_option maxRecDepth 100000 in
set_option maxHeartbeats 4000000 in
theorem q_X5_hasParameter_15 (ρ : Nat × (Nat → Int32)) (σ : rd_Sg) (x1 x2 : Int32) : rd_R ρ 59 0 [some (.ref 15), some (.int x1), some (.int x2)] [] σ = ((rd_R ρ 56 0 [some (.ref 15), some (.int x1)] [] σ).bind fun q0 => (if q0.1 = 0 then some (0, q0.2) else (rd_chk x1 80 (((rd_R ρ 43 0 [some (.ref 1), some (.int (q0.2 18 x1.toNatClampNeg)), some (.int x2)] [] q0.2).bind fun q2 => (if q2.1 = 0 then some (0, q2.2) else some (1, q2.2))))))) := by
  refine (r_aload_n L_59_0 rfl).trans ?_
  refine (r_iload_n L_59_1 rfl).trans ?_
  refine (r_callV L_59_2 rfl isI_56 rfl).trans ?_
  refine bi_c (fun q0 => ?_)
  refine (r_ifeq L_59_3).trans ?_
  refine it_c ?_ ?_
  · refine (r_iconst L_59_15 ki_0).trans ?_
    exact r_ret0 L_59_16 mz_59
  · refine (r_aload_n L_59_4 rfl).trans ?_
    refine (r_getfr L_59_5 gf_15_1).trans ?_
    refine (r_aload_n L_59_6 rfl).trans ?_
    refine (r_getfr L_59_7 gf_15_6).trans ?_
    refine (r_iload_n L_59_8 rfl).trans ?_
    refine (r_iald L_59_9 ar_18).trans ?_
    refine ck_c ?_
    refine (r_iload_n L_59_10 rfl).trans ?_
    refine (r_callV L_59_11 rfl isI_43 rfl).trans ?_
    refine bi_c (fun q2 => ?_)
    refine (r_ifeq L_59_12).trans ?_
    refine it_c ?_ ?_
    · refine (r_iconst L_59_15 ki_0).trans ?_
      exact r_ret0 L_59_16 mz_59
    · refine (r_iconst L_59_13 ki_1).trans ?_
      refine (r_goto L_59_14).trans ?_
      exact r_ret1 L_59_16 mz_59
set_option maxRecDepth 100000 in
set_option maxHeartbeats 4000000 in
theorem q_X6_holdsCaught_14 (ρ : Nat × (Nat → Int32)) (σ : rd_Sg) (x1 x2 : Int32) : rd_R ρ 72 0 [some (.ref 14), some (.int x1), some (.int x2)] [] σ = (rd_chk ((x1 * 3) + x2) 240 (some ((σ 26 ((x1 * 3) + x2).toNatClampNeg) &&& 1, σ))) := by
  refine (r_aload_n L_72_0 rfl).trans ?_
  refine (r_getfr L_72_1 gf_14_7).trans ?_
  refine (r_iload_n L_72_2 rfl).trans ?_
  refine (r_iconst L_72_3 ki_3).trans ?_
  refine (r_imul L_72_4).trans ?_
  refine (r_iload_n L_72_5 rfl).trans ?_
  refine (r_iadd L_72_6).trans ?_
  refine (r_zald L_72_7 ar_26).trans ?_
  refine ck_c ?_
  exact r_retb L_72_8 mz_72
set_option maxRecDepth 100000 in
set_option maxHeartbeats 4000000 in
theorem q_X6_caughtValue_14 (ρ : Nat × (Nat → Int32)) (σ : rd_Sg) (x1 x2 : Int32) : rd_R ρ 73 0 [some (.ref 14), some (.int x1), some (.int x2)] [] σ = (rd_chk ((x1 * 3) + x2) 240 (some ((σ 27 ((x1 * 3) + x2).toNatClampNeg), σ))) := by
  refine (r_aload_n L_73_0 rfl).trans ?_
  refine (r_getfr L_73_1 gf_14_8).trans ?_
  refine (r_iload_n L_73_2 rfl).trans ?_
  refine (r_iconst L_73_3 ki_3).trans ?_
  refine (r_imul L_73_4).trans ?_
  refine (r_iload_n L_73_5 rfl).trans ?_
  refine (r_iadd L_73_6).trans ?_
  refine (r_iald L_73_7 ar_27).trans ?_
  refine ck_c ?_
  exact r_ret L_73_8 mz_73
set_option maxRecDepth 100000 in
set_option maxHeartbeats 4000000 in
theorem q_D_canCome_0 (ρ : Nat × (Nat → Int32)) (σ : rd_Sg) (x1 x2 x3 : Int32) : rd_R ρ 118 0 [some (.ref 0), some (.int x1), some (.int x2), some (.int x3)] [] σ = ((rd_R ρ 44 0 [some (.ref 1), some (.int x1), some (.int x2)] [] σ).bind fun q0 => (if q0.1 = 0 then some (1, q0.2) else (if x3 = (-1) then some (1, q0.2) else ((rd_R ρ 88 0 [some (.ref 9), some (.int x3)] [] q0.2).bind fun q3 => (if q3.1 = 0 then some (0, q3.2) else some (1, q3.2)))))) := by
  refine (r_aload_n L_118_0 rfl).trans ?_
  refine (r_getfr L_118_1 gf_0_0).trans ?_
  refine (r_iload_n L_118_2 rfl).trans ?_
  refine (r_iload_n L_118_3 rfl).trans ?_
  refine (r_callV L_118_4 rfl isI_44 rfl).trans ?_
  refine bi_c (fun q0 => ?_)
  refine (r_ifeq L_118_5).trans ?_
  refine it_c ?_ ?_
  · refine (r_iconst L_118_14 ki_1).trans ?_
    refine (r_goto L_118_15).trans ?_
    exact r_ret1 L_118_17 mz_118
  · refine (r_iload_n L_118_6 rfl).trans ?_
    refine (r_iconst L_118_7 ki_m1).trans ?_
    refine (r_cmpeq L_118_8).trans ?_
    refine it_c ?_ ?_
    · refine (r_iconst L_118_14 ki_1).trans ?_
      refine (r_goto L_118_15).trans ?_
      exact r_ret1 L_118_17 mz_118
    · refine (r_aload_n L_118_9 rfl).trans ?_
      refine (r_getfr L_118_10 gf_0_1).trans ?_
      refine (r_iload_n L_118_11 rfl).trans ?_
      refine (r_callV L_118_12 rfl isI_88 rfl).trans ?_
      refine bi_c (fun q3 => ?_)
      refine (r_ifeq L_118_13).trans ?_
      refine it_c ?_ ?_
      · refine (r_iconst L_118_16 ki_0).trans ?_
        exact r_ret0 L_118_17 mz_118
      · refine (r_iconst L_118_14 ki_1).trans ?_
        refine (r_goto L_118_15).trans ?_
        exact r_ret1 L_118_17 mz_118
set_option maxRecDepth 100000 in
set_option maxHeartbeats 4000000 in
theorem q_X7_begin_31 (ρ : Nat × (Nat → Int32)) (σ : rd_Sg) (x1 x2 x3 : Int32) : rd_R ρ 77 0 [some (.ref 31), some (.int x1), some (.int x2), some (.int x3), none] [] σ = rd_R ρ 77 18 [some (.ref 31), some (.int x1), some (.int x2), some (.int x3), some (.int 0)] [] (rd_u (rd_u (rd_u (rd_u σ 31 6 x3) 31 7 0) 30 0 x1) 30 1 x2) := by
  refine (r_aload_n L_77_0 rfl).trans ?_
  refine (r_iload_n L_77_1 rfl).trans ?_
  refine (r_putfi L_77_2 gf_31_6).trans ?_
  refine (r_aload_n L_77_3 rfl).trans ?_
  refine (r_iconst L_77_4 ki_0).trans ?_
  refine (r_putfi L_77_5 gf_31_7).trans ?_
  refine (r_aload_n L_77_6 rfl).trans ?_
  refine (r_getfr L_77_7 gf_31_4).trans ?_
  refine (r_iconst L_77_8 ki_0).trans ?_
  refine (r_iload_n L_77_9 rfl).trans ?_
  refine (r_iastc (m := 0) L_77_10 ar_30 (by decide)).trans ?_
  refine (r_aload_n L_77_11 rfl).trans ?_
  refine (r_getfr L_77_12 gf_31_4).trans ?_
  refine (r_iconst L_77_13 ki_1).trans ?_
  refine (r_iload_n L_77_14 rfl).trans ?_
  refine (r_iastc (m := 1) L_77_15 ar_30 (by decide)).trans ?_
  refine (r_iconst L_77_16 ki_0).trans ?_
  refine (r_istore L_77_17 rfl).trans ?_
  rfl
set_option maxRecDepth 100000 in
set_option maxHeartbeats 4000000 in
theorem q_X7_begin_31_at18 (ρ : Nat × (Nat → Int32)) (σ : rd_Sg) (x4 : Int32) (o1 o2 o3 : Option Value) : rd_R ρ 77 18 [some (.ref 31), o1, o2, o3, some (.int x4)] [] σ = (if x4 < 3 then (rd_chk (2 + x4) 9 (rd_R ρ 77 18 [some (.ref 31), o1, o2, o3, some (.int (x4 + 1))] [] (rd_u σ 30 (2 + x4).toNatClampNeg 0))) else some (0, σ)) := by
  refine (r_iload L_77_18 rfl).trans ?_
  refine (r_iconst L_77_19 ki_3).trans ?_
  refine (r_cmpge L_77_20).trans ?_
  refine it_c ?_ ?_
  · refine (r_aload_n L_77_21 rfl).trans ?_
    refine (r_getfr L_77_22 gf_31_4).trans ?_
    refine (r_iconst L_77_23 ki_2).trans ?_
    refine (r_iload L_77_24 rfl).trans ?_
    refine (r_iadd L_77_25).trans ?_
    refine (r_iconst L_77_26 ki_0).trans ?_
    refine (r_iast L_77_27 ar_30).trans ?_
    refine ck_c ?_
    refine (r_iinc L_77_28 rfl ki_1 rfl).trans ?_
    refine (r_goto L_77_29).trans ?_
    rfl
  · exact r_retv L_77_30
set_option maxRecDepth 100000 in
set_option maxHeartbeats 4000000 in
theorem q_X7_bring_31 (ρ : Nat × (Nat → Int32)) (σ : rd_Sg) (x1 x2 : Int32) : rd_R ρ 78 0 [some (.ref 31), some (.int x1), some (.int x2)] [] σ = ((rd_R ρ 43 0 [some (.ref 1), some (.int (σ 31 6)), some (.int x1)] [] σ).bind fun q0 => (if q0.1 = 0 then some (0, q0.2) else (rd_chk (2 + x1) 9 (((rd_R ρ 44 0 [some (.ref 1), some (.int (q0.2 31 6)), some (.int x1)] [] (rd_u q0.2 30 (2 + x1).toNatClampNeg x2)).bind fun q2 => (if q2.1 = 0 then some (0, (rd_u q2.2 31 7 ((q2.2 31 7) + x2))) else some (0, q2.2))))))) := by
  refine (r_aload_n L_78_0 rfl).trans ?_
  refine (r_getfr L_78_1 gf_31_0).trans ?_
  refine (r_aload_n L_78_2 rfl).trans ?_
  refine (r_getfi L_78_3 gf_31_6).trans ?_
  refine (r_iload_n L_78_4 rfl).trans ?_
  refine (r_callV L_78_5 rfl isI_43 rfl).trans ?_
  refine bi_c (fun q0 => ?_)
  refine (r_ifne L_78_6).trans ?_
  refine it_c ?_ ?_
  · exact r_retv L_78_7
  · refine (r_aload_n L_78_8 rfl).trans ?_
    refine (r_getfr L_78_9 gf_31_4).trans ?_
    refine (r_iconst L_78_10 ki_2).trans ?_
    refine (r_iload_n L_78_11 rfl).trans ?_
    refine (r_iadd L_78_12).trans ?_
    refine (r_iload_n L_78_13 rfl).trans ?_
    refine (r_iast L_78_14 ar_30).trans ?_
    refine ck_c ?_
    refine (r_aload_n L_78_15 rfl).trans ?_
    refine (r_getfr L_78_16 gf_31_0).trans ?_
    refine (r_aload_n L_78_17 rfl).trans ?_
    refine (r_getfiv L_78_18 gf_31_6 (rd_un (by decide))).trans ?_
    refine (r_iload_n L_78_19 rfl).trans ?_
    refine (r_callV L_78_20 rfl isI_44 rfl).trans ?_
    refine bi_c (fun q2 => ?_)
    refine (r_ifne L_78_21).trans ?_
    refine it_c ?_ ?_
    · refine (r_aload_n L_78_22 rfl).trans ?_
      refine (r_dupr L_78_23).trans ?_
      refine (r_getfi L_78_24 gf_31_7).trans ?_
      refine (r_iload_n L_78_25 rfl).trans ?_
      refine (r_iadd L_78_26).trans ?_
      refine (r_putfi L_78_27 gf_31_7).trans ?_
      exact r_retv L_78_28
    · exact r_retv L_78_28
set_option maxRecDepth 100000 in
set_option maxHeartbeats 4000000 in
theorem q_X7_perform_31 (ρ : Nat × (Nat → Int32)) (σ : rd_Sg) : rd_R ρ 79 0 [some (.ref 31), none] [] σ = ((rd_R ρ 68 0 [some (.ref 14), some (.ref 30), none] [] σ).bind fun q0 => ((rd_R ρ 45 0 [some (.ref 1), some (.int (q0.2 31 6))] [] (rd_u (rd_u q0.2 30 5 0) 30 6 q0.1)).bind fun q1 => (if q1.1 = 2 then rd_R ρ 79 29 [some (.ref 31), some (.int q0.1)] [.int (-1), .int 7, .ref 30] q1.2 else rd_R ρ 79 29 [some (.ref 31), some (.int q0.1)] [.int 0, .int 7, .ref 30] q1.2))) := by
  refine (r_aload_n L_79_0 rfl).trans ?_
  refine (r_getfr L_79_1 gf_31_2).trans ?_
  refine (r_aload_n L_79_2 rfl).trans ?_
  refine (r_getfr L_79_3 gf_31_4).trans ?_
  refine (r_callV L_79_4 rfl isI_68 rfl).trans ?_
  refine bi_c (fun q0 => ?_)
  refine (r_istore_n L_79_5 rfl).trans ?_
  refine (r_aload_n L_79_6 rfl).trans ?_
  refine (r_getfr L_79_7 gf_31_4).trans ?_
  refine (r_iconst L_79_8 ki_5).trans ?_
  refine (r_iconst L_79_9 ki_0).trans ?_
  refine (r_iastc (m := 5) L_79_10 ar_30 (by decide)).trans ?_
  refine (r_aload_n L_79_11 rfl).trans ?_
  refine (r_getfr L_79_12 gf_31_4).trans ?_
  refine (r_bipush L_79_13 kb_6).trans ?_
  refine (r_iload_n L_79_14 rfl).trans ?_
  refine (r_iastc (m := 6) L_79_15 ar_30 (by decide)).trans ?_
  refine (r_aload_n L_79_16 rfl).trans ?_
  refine (r_getfr L_79_17 gf_31_4).trans ?_
  refine (r_bipush L_79_18 kb_7).trans ?_
  refine (r_aload_n L_79_19 rfl).trans ?_
  refine (r_getfr L_79_20 gf_31_0).trans ?_
  refine (r_aload_n L_79_21 rfl).trans ?_
  refine (r_getfiv L_79_22 gf_31_6 ((rd_un (by decide)).trans (rd_un (by decide)))).trans ?_
  refine (r_callV L_79_23 rfl isI_45 rfl).trans ?_
  refine bi_c (fun q1 => ?_)
  refine (r_iconst L_79_24 ki_2).trans ?_
  refine (r_cmpne L_79_25).trans ?_
  refine it_c ?_ ?_
  · refine (r_iconst L_79_26 ki_m1).trans ?_
    refine (r_goto L_79_27).trans ?_
    rfl
  · refine (r_iconst L_79_28 ki_0).trans ?_
    rfl
set_option maxRecDepth 100000 in
set_option maxHeartbeats 4000000 in
theorem q_X7_perform_31_at29 (ρ : Nat × (Nat → Int32)) (σ : rd_Sg) (x1 s1 s2 : Int32) : rd_R ρ 79 29 [some (.ref 31), some (.int x1)] [.int s2, .int s1, .ref 30] σ = (rd_chk s1 9 ((if x1 = (-1) then ((rd_R ρ 81 0 [some (.ref 31), none, none] [] (rd_u (rd_u σ 30 s1.toNatClampNeg s2) 30 8 (-1))).bind fun q1 => ((rd_R ρ 52 0 [some (.ref 28)] [] q1.2).bind fun q2 => some (0, q2.2))) else ((rd_R ρ 69 0 [some (.ref 14), some (.int x1), some (.ref 30), none] [] (rd_u (rd_u σ 30 s1.toNatClampNeg s2) 30 8 (-1))).bind fun q1 => ((rd_R ρ 80 0 [some (.ref 31), some (.int q1.1), none] [] q1.2).bind fun q2 => ((rd_R ρ 52 0 [some (.ref 28)] [] q2.2).bind fun q3 => some (0, q3.2))))))) := by
  refine (r_iast L_79_29 ar_30).trans ?_
  refine ck_c ?_
  refine (r_aload_n L_79_30 rfl).trans ?_
  refine (r_getfr L_79_31 gf_31_4).trans ?_
  refine (r_bipush L_79_32 kb_8).trans ?_
  refine (r_iconst L_79_33 ki_m1).trans ?_
  refine (r_iastc (m := 8) L_79_34 ar_30 (by decide)).trans ?_
  refine (r_iload_n L_79_35 rfl).trans ?_
  refine (r_iconst L_79_36 ki_m1).trans ?_
  refine (r_cmpne L_79_37).trans ?_
  refine it_c ?_ ?_
  · refine (r_aload_n L_79_38 rfl).trans ?_
    refine (r_callVv L_79_39 rfl isI_81 (by decide) rfl).trans ?_
    refine bi_c (fun q1 => ?_)
    refine (r_goto L_79_40).trans ?_
    refine (r_aload_n L_79_49 rfl).trans ?_
    refine (r_getfr L_79_50 gf_31_3).trans ?_
    refine (r_callVv L_79_51 rfl isI_52 (by decide) rfl).trans ?_
    refine bi_c (fun q2 => ?_)
    exact r_retv L_79_52
  · refine (r_aload_n L_79_41 rfl).trans ?_
    refine (r_aload_n L_79_42 rfl).trans ?_
    refine (r_getfr L_79_43 gf_31_2).trans ?_
    refine (r_iload_n L_79_44 rfl).trans ?_
    refine (r_aload_n L_79_45 rfl).trans ?_
    refine (r_getfr L_79_46 gf_31_4).trans ?_
    refine (r_callV L_79_47 rfl isI_69 rfl).trans ?_
    refine bi_c (fun q1 => ?_)
    refine (r_callVv L_79_48 rfl isI_80 (by decide) rfl).trans ?_
    refine bi_c (fun q2 => ?_)
    refine (r_aload_n L_79_49 rfl).trans ?_
    refine (r_getfr L_79_50 gf_31_3).trans ?_
    refine (r_callVv L_79_51 rfl isI_52 (by decide) rfl).trans ?_
    refine bi_c (fun q3 => ?_)
    exact r_retv L_79_52
set_option maxRecDepth 100000 in
set_option maxHeartbeats 4000000 in
theorem q_X4_hasLatest_28 (ρ : Nat × (Nat → Int32)) (σ : rd_Sg) : rd_R ρ 48 0 [some (.ref 28)] [] σ = some ((σ 28 2) &&& 1, σ) := by
  refine (r_aload_n L_48_0 rfl).trans ?_
  refine (r_getfi L_48_1 gf_28_2).trans ?_
  exact r_retb L_48_2 mz_48
set_option maxRecDepth 100000 in
set_option maxHeartbeats 4000000 in
theorem q_X4_size_28 (ρ : Nat × (Nat → Int32)) (σ : rd_Sg) : rd_R ρ 49 0 [some (.ref 28)] [] σ = some ((σ 28 3), σ) := by
  refine (r_aload_n L_49_0 rfl).trans ?_
  refine (r_getfi L_49_1 gf_28_3).trans ?_
  exact r_ret L_49_2 mz_49
set_option maxRecDepth 100000 in
set_option maxHeartbeats 4000000 in
theorem q_X4_column_28 (ρ : Nat × (Nat → Int32)) (σ : rd_Sg) (x1 x2 : Int32) : rd_R ρ 51 0 [some (.ref 28), some (.int x1), some (.int x2)] [] σ = (rd_chk ((x1 * 9) + x2) 4500 (some ((σ 29 ((x1 * 9) + x2).toNatClampNeg), σ))) := by
  refine (r_aload_n L_51_0 rfl).trans ?_
  refine (r_getfr L_51_1 gf_28_0).trans ?_
  refine (r_iload_n L_51_2 rfl).trans ?_
  refine (r_bipush L_51_3 kb_9).trans ?_
  refine (r_imul L_51_4).trans ?_
  refine (r_iload_n L_51_5 rfl).trans ?_
  refine (r_iadd L_51_6).trans ?_
  refine (r_iald L_51_7 ar_29).trans ?_
  refine ck_c ?_
  exact r_ret L_51_8 mz_51
set_option maxRecDepth 100000 in
set_option maxHeartbeats 4000000 in
theorem q_X2_add_33 (ρ : Nat × (Nat → Int32)) (σ : rd_Sg) (x1 x2 x3 x4 x5 : Int32) : rd_R ρ 21 0 [some (.ref 33), some (.int x1), some (.int x2), some (.int x3), some (.int x4), some (.int x5), none] [] σ = ((rd_R ρ 57 0 [some (.ref 34), some (.int x1), some (.int x2), some (.int x3), none] [] σ).bind fun q0 => (if q0.1 = (-3) then some (q0.1, q0.2) else (rd_chk q0.1 40 ((rd_chk q0.1 40 (some (q0.1, (rd_u (rd_u q0.2 41 (q0.1).toNatClampNeg x4) 42 (q0.1).toNatClampNeg x5)))))))) := by
  refine (r_aload_n L_21_0 rfl).trans ?_
  refine (r_getfr L_21_1 gf_33_0).trans ?_
  refine (r_iload_n L_21_2 rfl).trans ?_
  refine (r_iload_n L_21_3 rfl).trans ?_
  refine (r_iload_n L_21_4 rfl).trans ?_
  refine (r_callV L_21_5 rfl isI_57 rfl).trans ?_
  refine bi_c (fun q0 => ?_)
  refine (r_istore L_21_6 rfl).trans ?_
  refine (r_iload L_21_7 rfl).trans ?_
  refine (r_bipush L_21_8 kb_m3).trans ?_
  refine (r_cmpeq L_21_9).trans ?_
  refine it_c ?_ ?_
  · refine (r_iload L_21_20 rfl).trans ?_
    exact r_ret L_21_21 mz_21
  · refine (r_aload_n L_21_10 rfl).trans ?_
    refine (r_getfr L_21_11 gf_33_1).trans ?_
    refine (r_iload L_21_12 rfl).trans ?_
    refine (r_iload L_21_13 rfl).trans ?_
    refine (r_iast L_21_14 ar_41).trans ?_
    refine ck_c ?_
    refine (r_aload_n L_21_15 rfl).trans ?_
    refine (r_getfr L_21_16 gf_33_2).trans ?_
    refine (r_iload L_21_17 rfl).trans ?_
    refine (r_iload L_21_18 rfl).trans ?_
    refine (r_iast L_21_19 ar_42).trans ?_
    refine ck_c ?_
    refine (r_iload L_21_20 rfl).trans ?_
    exact r_ret L_21_21 mz_21
set_option maxRecDepth 100000 in
set_option maxHeartbeats 4000000 in
theorem q_X5_setCondition_34 (ρ : Nat × (Nat → Int32)) (σ : rd_Sg) (x1 x2 x3 x4 x5 : Int32) : rd_R ρ 61 0 [some (.ref 34), some (.int x1), some (.int x2), some (.int x3), some (.int x4), some (.int x5), none] [] σ = ((rd_R ρ 59 0 [some (.ref 34), some (.int x1), some (.int x2)] [] σ).bind fun q0 => (if q0.1 = 0 then some (((-1) : Int32), q0.2) else (rd_chk x1 40 (((rd_R ρ 44 0 [some (.ref 1), some (.int (q0.2 37 x1.toNatClampNeg)), some (.int x2)] [] q0.2).bind fun q2 => ((rd_R ρ 62 0 [some (.ref 34), some (.int q2.1), some (.int x3), some (.int x4)] [] q2.2).bind fun q3 => (if q3.1 = 0 then some (((-1) : Int32), q3.2) else (rd_chk ((x1 * 3) + x2) 120 ((rd_chk ((x1 * 3) + x2) 120 ((rd_chk ((x1 * 3) + x2) 120 (some ((1 : Int32), (rd_u (rd_u (rd_u q3.2 38 ((x1 * 3) + x2).toNatClampNeg x3) 39 ((x1 * 3) + x2).toNatClampNeg x4) 40 ((x1 * 3) + x2).toNatClampNeg x5))))))))))))))) := by
  refine (r_aload_n L_61_0 rfl).trans ?_
  refine (r_iload_n L_61_1 rfl).trans ?_
  refine (r_iload_n L_61_2 rfl).trans ?_
  refine (r_callV L_61_3 rfl isI_59 rfl).trans ?_
  refine bi_c (fun q0 => ?_)
  refine (r_ifne L_61_4).trans ?_
  refine it_c ?_ ?_
  · refine (r_iconst L_61_5 ki_m1).trans ?_
    exact r_ret L_61_6 mz_61
  · refine (r_aload_n L_61_7 rfl).trans ?_
    refine (r_aload_n L_61_8 rfl).trans ?_
    refine (r_getfr L_61_9 gf_34_1).trans ?_
    refine (r_aload_n L_61_10 rfl).trans ?_
    refine (r_getfr L_61_11 gf_34_6).trans ?_
    refine (r_iload_n L_61_12 rfl).trans ?_
    refine (r_iald L_61_13 ar_37).trans ?_
    refine ck_c ?_
    refine (r_iload_n L_61_14 rfl).trans ?_
    refine (r_callV L_61_15 rfl isI_44 rfl).trans ?_
    refine bi_c (fun q2 => ?_)
    refine (r_iload_n L_61_16 rfl).trans ?_
    refine (r_iload L_61_17 rfl).trans ?_
    refine (r_callV L_61_18 rfl isI_62 rfl).trans ?_
    refine bi_c (fun q3 => ?_)
    refine (r_ifne L_61_19).trans ?_
    refine it_c ?_ ?_
    · refine (r_iconst L_61_20 ki_m1).trans ?_
      exact r_ret L_61_21 mz_61
    · refine (r_iload_n L_61_22 rfl).trans ?_
      refine (r_iconst L_61_23 ki_3).trans ?_
      refine (r_imul L_61_24).trans ?_
      refine (r_iload_n L_61_25 rfl).trans ?_
      refine (r_iadd L_61_26).trans ?_
      refine (r_istore L_61_27 rfl).trans ?_
      refine (r_aload_n L_61_28 rfl).trans ?_
      refine (r_getfr L_61_29 gf_34_7).trans ?_
      refine (r_iload L_61_30 rfl).trans ?_
      refine (r_iload_n L_61_31 rfl).trans ?_
      refine (r_iast L_61_32 ar_38).trans ?_
      refine ck_c ?_
      refine (r_aload_n L_61_33 rfl).trans ?_
      refine (r_getfr L_61_34 gf_34_8).trans ?_
      refine (r_iload L_61_35 rfl).trans ?_
      refine (r_iload L_61_36 rfl).trans ?_
      refine (r_iast L_61_37 ar_39).trans ?_
      refine ck_c ?_
      refine (r_aload_n L_61_38 rfl).trans ?_
      refine (r_getfr L_61_39 gf_34_9).trans ?_
      refine (r_iload L_61_40 rfl).trans ?_
      refine (r_iload L_61_41 rfl).trans ?_
      refine (r_iast L_61_42 ar_40).trans ?_
      refine ck_c ?_
      refine (r_iconst L_61_43 ki_1).trans ?_
      exact r_ret L_61_44 mz_61
set_option maxRecDepth 100000 in
set_option maxHeartbeats 4000000 in
theorem q_X5_has_34 (ρ : Nat × (Nat → Int32)) (σ : rd_Sg) (x1 : Int32) : rd_R ρ 56 0 [some (.ref 34), some (.int x1)] [] σ = (if x1 < 0 then some (0, σ) else (if x1 < (σ 34 3) then some (1, σ) else some (0, σ))) := by
  refine (r_iload_n L_56_0 rfl).trans ?_
  refine (r_iflt L_56_1).trans ?_
  refine it_c ?_ ?_
  · refine (r_iconst L_56_8 ki_0).trans ?_
    exact r_ret0 L_56_9 mz_56
  · refine (r_iload_n L_56_2 rfl).trans ?_
    refine (r_aload_n L_56_3 rfl).trans ?_
    refine (r_getfi L_56_4 gf_34_3).trans ?_
    refine (r_cmpge L_56_5).trans ?_
    refine it_c ?_ ?_
    · refine (r_iconst L_56_6 ki_1).trans ?_
      refine (r_goto L_56_7).trans ?_
      exact r_ret1 L_56_9 mz_56
    · refine (r_iconst L_56_8 ki_0).trans ?_
      exact r_ret0 L_56_9 mz_56
set_option maxRecDepth 100000 in
set_option maxHeartbeats 4000000 in
theorem q_X2_addOrder_33 (ρ : Nat × (Nat → Int32)) (σ : rd_Sg) (x1 x2 : Int32) : rd_R ρ 23 0 [some (.ref 33), some (.int x1), some (.int x2)] [] σ = (if (σ 33 3) < 40 then (rd_chk (σ 33 3) 40 ((rd_chk (σ 33 3) 40 (some (((σ 33 3) + 1), (rd_u (rd_u (rd_u σ 43 (σ 33 3).toNatClampNeg x1) 44 (σ 33 3).toNatClampNeg x2) 33 3 ((σ 33 3) + 1))))))) else some (((-3) : Int32), σ)) := by
  refine (r_aload_n L_23_0 rfl).trans ?_
  refine (r_getfi L_23_1 gf_33_3).trans ?_
  refine (r_bipush L_23_2 kb_40).trans ?_
  refine (r_cmplt L_23_3).trans ?_
  refine it_c ?_ ?_
  · refine (r_aload_n L_23_6 rfl).trans ?_
    refine (r_getfr L_23_7 gf_33_4).trans ?_
    refine (r_aload_n L_23_8 rfl).trans ?_
    refine (r_getfi L_23_9 gf_33_3).trans ?_
    refine (r_iload_n L_23_10 rfl).trans ?_
    refine (r_iast L_23_11 ar_43).trans ?_
    refine ck_c ?_
    refine (r_aload_n L_23_12 rfl).trans ?_
    refine (r_getfr L_23_13 gf_33_5).trans ?_
    refine (r_aload_n L_23_14 rfl).trans ?_
    refine (r_getfiv L_23_15 gf_33_3 (rd_un (by decide))).trans ?_
    refine (r_iload_n L_23_16 rfl).trans ?_
    refine (r_iast L_23_17 ar_44).trans ?_
    refine ck_c ?_
    refine (r_aload_n L_23_18 rfl).trans ?_
    refine (r_dupr L_23_19).trans ?_
    refine (r_getfiv L_23_20 gf_33_3 ((rd_un (by decide)).trans (rd_un (by decide)))).trans ?_
    refine (r_iconst L_23_21 ki_1).trans ?_
    refine (r_iadd L_23_22).trans ?_
    refine (r_putfi L_23_23 gf_33_3).trans ?_
    refine (r_aload_n L_23_24 rfl).trans ?_
    refine (r_getfiv L_23_25 gf_33_3 (rd_us)).trans ?_
    exact r_ret L_23_26 mz_23
  · refine (r_bipush L_23_4 kb_m3).trans ?_
    exact r_ret L_23_5 mz_23
set_option maxRecDepth 100000 in
set_option maxHeartbeats 4000000 in
theorem q_X8_setNoneBeside_9 (ρ : Nat × (Nat → Int32)) (σ : rd_Sg) (x1 x2 : Int32) : rd_R ρ 94 0 [some (.ref 9), some (.int x1), some (.int x2), none] [] σ = (rd_chk x1 24 ((rd_chk x1 24 (some ((σ 13 x1.toNatClampNeg) &&& 1, (rd_u σ 13 x1.toNatClampNeg (x2 &&& 1))))))) := by
  refine (r_aload_n L_94_0 rfl).trans ?_
  refine (r_getfr L_94_1 gf_9_5).trans ?_
  refine (r_iload_n L_94_2 rfl).trans ?_
  refine (r_zald L_94_3 ar_13).trans ?_
  refine ck_c ?_
  refine (r_istore_n L_94_4 rfl).trans ?_
  refine (r_aload_n L_94_5 rfl).trans ?_
  refine (r_getfr L_94_6 gf_9_5).trans ?_
  refine (r_iload_n L_94_7 rfl).trans ?_
  refine (r_iload_n L_94_8 rfl).trans ?_
  refine (r_zast L_94_9 ar_13).trans ?_
  refine ck_c ?_
  refine (r_iload_n L_94_10 rfl).trans ?_
  exact r_retb L_94_11 mz_94
set_option maxRecDepth 100000 in
set_option maxHeartbeats 4000000 in
theorem q_X2_countMeeting_33_28 (ρ : Nat × (Nat → Int32)) (σ : rd_Sg) (x1 : Int32) : rd_R ρ 24 0 [some (.ref 33), some (.int x1), some (.ref 28), none, none] [] σ = rd_R ρ 24 4 [some (.ref 33), some (.int x1), some (.ref 28), some (.int 0), some (.int 0)] [] σ := by
  refine (r_iconst L_24_0 ki_0).trans ?_
  refine (r_istore_n L_24_1 rfl).trans ?_
  refine (r_iconst L_24_2 ki_0).trans ?_
  refine (r_istore L_24_3 rfl).trans ?_
  rfl
set_option maxRecDepth 100000 in
set_option maxHeartbeats 4000000 in
theorem q_X2_countMeeting_33_28_at4 (ρ : Nat × (Nat → Int32)) (σ : rd_Sg) (x1 x3 x4 : Int32) : rd_R ρ 24 4 [some (.ref 33), some (.int x1), some (.ref 28), some (.int x3), some (.int x4)] [] σ = ((rd_R ρ 49 0 [some (.ref 28)] [] σ).bind fun q0 => (if x4 < q0.1 then ((rd_R ρ 63 0 [some (.ref 34), some (.int x1), some (.ref 29), some (.int (x4 * 9)), none] [] q0.2).bind fun q2 => (if q2.1 = 0 then rd_R ρ 24 19 [some (.ref 33), some (.int x1), some (.ref 28), some (.int x3), some (.int x4)] [] q2.2 else rd_R ρ 24 19 [some (.ref 33), some (.int x1), some (.ref 28), some (.int (x3 + 1)), some (.int x4)] [] q2.2)) else some (x3, q0.2))) := by
  refine (r_iload L_24_4 rfl).trans ?_
  refine (r_aload_n L_24_5 rfl).trans ?_
  refine (r_callV L_24_6 rfl isI_49 rfl).trans ?_
  refine bi_c (fun q0 => ?_)
  refine (r_cmpge L_24_7).trans ?_
  refine it_c ?_ ?_
  · refine (r_aload_n L_24_8 rfl).trans ?_
    refine (r_getfr L_24_9 gf_33_0).trans ?_
    refine (r_iload_n L_24_10 rfl).trans ?_
    refine (r_aload_n L_24_11 rfl).trans ?_
    refine (r_getfr L_24_12 gf_28_0).trans ?_
    refine (r_iload L_24_13 rfl).trans ?_
    refine (r_bipush L_24_14 kb_9).trans ?_
    refine (r_imul L_24_15).trans ?_
    refine (r_callV L_24_16 rfl isI_63 rfl).trans ?_
    refine bi_c (fun q2 => ?_)
    refine (r_ifeq L_24_17).trans ?_
    refine it_c ?_ ?_
    · rfl
    · refine (r_iinc L_24_18 rfl ki_1 rfl).trans ?_
      rfl
  · refine (r_iload_n L_24_21 rfl).trans ?_
    exact r_ret L_24_22 mz_24
set_option maxRecDepth 100000 in
set_option maxHeartbeats 4000000 in
theorem q_X2_countMeeting_33_28_at19 (ρ : Nat × (Nat → Int32)) (σ : rd_Sg) (x1 x3 x4 : Int32) : rd_R ρ 24 19 [some (.ref 33), some (.int x1), some (.ref 28), some (.int x3), some (.int x4)] [] σ = rd_R ρ 24 4 [some (.ref 33), some (.int x1), some (.ref 28), some (.int x3), some (.int (x4 + 1))] [] σ := by
  refine (r_iinc L_24_19 rfl ki_1 rfl).trans ?_
  refine (r_goto L_24_20).trans ?_
  rfl
set_option maxRecDepth 100000 in
set_option maxHeartbeats 4000000 in
theorem q_X2_survey_33_28 (ρ : Nat × (Nat → Int32)) (σ : rd_Sg) : rd_R ρ 25 0 [some (.ref 33), some (.ref 28), none] [] σ = rd_R ρ 25 2 [some (.ref 33), some (.ref 28), some (.int 0)] [] σ := by
  refine (r_iconst L_25_0 ki_0).trans ?_
  refine (r_istore_n L_25_1 rfl).trans ?_
  rfl
set_option maxRecDepth 100000 in
set_option maxHeartbeats 4000000 in
theorem q_X2_survey_33_28_at2 (ρ : Nat × (Nat → Int32)) (σ : rd_Sg) (x2 : Int32) : rd_R ρ 25 2 [some (.ref 33), some (.ref 28), some (.int x2)] [] σ = ((rd_R ρ 49 0 [some (.ref 28)] [] σ).bind fun q0 => (if x2 < q0.1 then (rd_chk x2 500 (rd_R ρ 25 2 [some (.ref 33), some (.ref 28), some (.int (x2 + 1))] [] (rd_u q0.2 48 x2.toNatClampNeg (0 &&& 1)))) else rd_R ρ 25 15 [some (.ref 33), some (.ref 28), some (.int 0)] [] q0.2)) := by
  refine (r_iload_n L_25_2 rfl).trans ?_
  refine (r_aload_n L_25_3 rfl).trans ?_
  refine (r_callV L_25_4 rfl isI_49 rfl).trans ?_
  refine bi_c (fun q0 => ?_)
  refine (r_cmpge L_25_5).trans ?_
  refine it_c ?_ ?_
  · refine (r_aload_n L_25_6 rfl).trans ?_
    refine (r_getfr L_25_7 gf_33_9).trans ?_
    refine (r_iload_n L_25_8 rfl).trans ?_
    refine (r_iconst L_25_9 ki_0).trans ?_
    refine (r_zast L_25_10 ar_48).trans ?_
    refine ck_c ?_
    refine (r_iinc L_25_11 rfl ki_1 rfl).trans ?_
    refine (r_goto L_25_12).trans ?_
    rfl
  · refine (r_iconst L_25_13 ki_0).trans ?_
    refine (r_istore_n L_25_14 rfl).trans ?_
    rfl
set_option maxRecDepth 100000 in
set_option maxHeartbeats 4000000 in
theorem q_X2_survey_33_28_at15 (ρ : Nat × (Nat → Int32)) (σ : rd_Sg) (x2 : Int32) : rd_R ρ 25 15 [some (.ref 33), some (.ref 28), some (.int x2)] [] σ = ((rd_R ρ 55 0 [some (.ref 34)] [] σ).bind fun q0 => (if x2 < q0.1 then ((rd_R ρ 26 0 [some (.ref 33), some (.int x2), some (.ref 28), none] [] q0.2).bind fun q2 => rd_R ρ 25 15 [some (.ref 33), some (.ref 28), some (.int (x2 + 1))] [] q2.2) else some (0, q0.2))) := by
  refine (r_iload_n L_25_15 rfl).trans ?_
  refine (r_aload_n L_25_16 rfl).trans ?_
  refine (r_getfr L_25_17 gf_33_0).trans ?_
  refine (r_callV L_25_18 rfl isI_55 rfl).trans ?_
  refine bi_c (fun q0 => ?_)
  refine (r_cmpge L_25_19).trans ?_
  refine it_c ?_ ?_
  · refine (r_aload_n L_25_20 rfl).trans ?_
    refine (r_iload_n L_25_21 rfl).trans ?_
    refine (r_aload_n L_25_22 rfl).trans ?_
    refine (r_callVv L_25_23 rfl isI_26 (by decide) rfl).trans ?_
    refine bi_c (fun q2 => ?_)
    refine (r_iinc L_25_24 rfl ki_1 rfl).trans ?_
    refine (r_goto L_25_25).trans ?_
    rfl
  · exact r_retv L_25_26
set_option maxRecDepth 100000 in
set_option maxHeartbeats 4000000 in
theorem q_X10_find_49_33_28_9 (ρ : Nat × (Nat → Int32)) (σ : rd_Sg) : rd_R ρ 103 0 [some (.ref 49), some (.ref 33), some (.ref 28), some (.ref 9), none, none, none] [] σ = ((rd_R ρ 104 0 [some (.ref 49), some (.ref 33), none] [] (rd_u σ 49 1 0)).bind fun q0 => ((rd_R ρ 105 0 [some (.ref 49), some (.ref 33), none, none] [] q0.2).bind fun q1 => rd_R ρ 103 11 [some (.ref 49), some (.ref 33), some (.ref 28), some (.ref 9), some (.int 0), none, none] [] q1.2)) := by
  refine (r_aload_n L_103_0 rfl).trans ?_
  refine (r_iconst L_103_1 ki_0).trans ?_
  refine (r_putfi L_103_2 gf_49_1).trans ?_
  refine (r_aload_n L_103_3 rfl).trans ?_
  refine (r_aload_n L_103_4 rfl).trans ?_
  refine (r_callVv L_103_5 rfl isI_104 (by decide) rfl).trans ?_
  refine bi_c (fun q0 => ?_)
  refine (r_aload_n L_103_6 rfl).trans ?_
  refine (r_aload_n L_103_7 rfl).trans ?_
  refine (r_callVv L_103_8 rfl isI_105 (by decide) rfl).trans ?_
  refine bi_c (fun q1 => ?_)
  refine (r_iconst L_103_9 ki_0).trans ?_
  refine (r_istore L_103_10 rfl).trans ?_
  rfl
set_option maxRecDepth 100000 in
set_option maxHeartbeats 4000000 in
theorem q_X10_find_49_33_28_9_at11 (ρ : Nat × (Nat → Int32)) (σ : rd_Sg) (x4 : Int32) (o5 o6 : Option Value) : rd_R ρ 103 11 [some (.ref 49), some (.ref 33), some (.ref 28), some (.ref 9), some (.int x4), o5, o6] [] σ = ((rd_R ρ 49 0 [some (.ref 28)] [] σ).bind fun q0 => (if x4 < q0.1 then ((rd_R ρ 30 0 [some (.ref 33), some (.int x4)] [] q0.2).bind fun q2 => ((rd_R ρ 51 0 [some (.ref 28), some (.int x4), some (.int 5)] [] q2.2).bind fun q3 => (if q2.1 = 0 then ((rd_R ρ 51 0 [some (.ref 28), some (.int x4), some (.int 0)] [] q3.2).bind fun q5 => ((rd_R ρ 93 0 [some (.ref 9), some (.int q5.1)] [] q5.2).bind fun q6 => (if q6.1 = 0 then rd_R ρ 103 38 [some (.ref 49), some (.ref 33), some (.ref 28), some (.ref 9), some (.int x4), some (.int q2.1), some (.int q3.1)] [] q6.2 else ((rd_R ρ 106 0 [some (.ref 49), some (.int 4), some (.int x4), some (.int 0), none] [] q6.2).bind fun q8 => rd_R ρ 103 38 [some (.ref 49), some (.ref 33), some (.ref 28), some (.ref 9), some (.int x4), some (.int q2.1), some (.int q3.1)] [] q8.2)))) else rd_R ρ 103 38 [some (.ref 49), some (.ref 33), some (.ref 28), some (.ref 9), some (.int x4), some (.int q2.1), some (.int q3.1)] [] q3.2))) else some (0, q0.2))) := by
  refine (r_iload L_103_11 rfl).trans ?_
  refine (r_aload_n L_103_12 rfl).trans ?_
  refine (r_callV L_103_13 rfl isI_49 rfl).trans ?_
  refine bi_c (fun q0 => ?_)
  refine (r_cmpge L_103_14).trans ?_
  refine it_c ?_ ?_
  · refine (r_aload_n L_103_15 rfl).trans ?_
    refine (r_iload L_103_16 rfl).trans ?_
    refine (r_callV L_103_17 rfl isI_30 rfl).trans ?_
    refine bi_c (fun q2 => ?_)
    refine (r_istore L_103_18 rfl).trans ?_
    refine (r_aload_n L_103_19 rfl).trans ?_
    refine (r_iload L_103_20 rfl).trans ?_
    refine (r_iconst L_103_21 ki_5).trans ?_
    refine (r_callV L_103_22 rfl isI_51 rfl).trans ?_
    refine bi_c (fun q3 => ?_)
    refine (r_istore L_103_23 rfl).trans ?_
    refine (r_iload L_103_24 rfl).trans ?_
    refine (r_ifne L_103_25).trans ?_
    refine it_c ?_ ?_
    · refine (r_aload_n L_103_26 rfl).trans ?_
      refine (r_aload_n L_103_27 rfl).trans ?_
      refine (r_iload L_103_28 rfl).trans ?_
      refine (r_iconst L_103_29 ki_0).trans ?_
      refine (r_callV L_103_30 rfl isI_51 rfl).trans ?_
      refine bi_c (fun q5 => ?_)
      refine (r_callV L_103_31 rfl isI_93 rfl).trans ?_
      refine bi_c (fun q6 => ?_)
      refine (r_ifeq L_103_32).trans ?_
      refine it_c ?_ ?_
      · rfl
      · refine (r_aload_n L_103_33 rfl).trans ?_
        refine (r_iconst L_103_34 ki_4).trans ?_
        refine (r_iload L_103_35 rfl).trans ?_
        refine (r_iconst L_103_36 ki_0).trans ?_
        refine (r_callVv L_103_37 rfl isI_106 (by decide) rfl).trans ?_
        refine bi_c (fun q8 => ?_)
        rfl
    · rfl
  · exact r_retv L_103_58
set_option maxRecDepth 100000 in
set_option maxHeartbeats 4000000 in
theorem q_X10_find_49_33_28_9_at38 (ρ : Nat × (Nat → Int32)) (σ : rd_Sg) (x4 x5 x6 : Int32) : rd_R ρ 103 38 [some (.ref 49), some (.ref 33), some (.ref 28), some (.ref 9), some (.int x4), some (.int x5), some (.int x6)] [] σ = (if x6 = 2 then ((rd_R ρ 106 0 [some (.ref 49), some (.int 5), some (.int x4), some (.int 0), none] [] σ).bind fun q1 => rd_R ρ 103 46 [some (.ref 49), some (.ref 33), some (.ref 28), some (.ref 9), some (.int x4), some (.int x5), some (.int x6)] [] q1.2) else rd_R ρ 103 46 [some (.ref 49), some (.ref 33), some (.ref 28), some (.ref 9), some (.int x4), some (.int x5), some (.int x6)] [] σ) := by
  refine (r_iload L_103_38 rfl).trans ?_
  refine (r_iconst L_103_39 ki_2).trans ?_
  refine (r_cmpne L_103_40).trans ?_
  refine it_c ?_ ?_
  · refine (r_aload_n L_103_41 rfl).trans ?_
    refine (r_iconst L_103_42 ki_5).trans ?_
    refine (r_iload L_103_43 rfl).trans ?_
    refine (r_iconst L_103_44 ki_0).trans ?_
    refine (r_callVv L_103_45 rfl isI_106 (by decide) rfl).trans ?_
    refine bi_c (fun q1 => ?_)
    rfl
  · rfl
set_option maxRecDepth 100000 in
set_option maxHeartbeats 4000000 in
theorem q_X10_find_49_33_28_9_at46 (ρ : Nat × (Nat → Int32)) (σ : rd_Sg) (x4 x5 x6 : Int32) : rd_R ρ 103 46 [some (.ref 49), some (.ref 33), some (.ref 28), some (.ref 9), some (.int x4), some (.int x5), some (.int x6)] [] σ = (if x5 = 0 then (if x6 = 3 then ((rd_R ρ 106 0 [some (.ref 49), some (.int 6), some (.int x4), some (.int 0), none] [] σ).bind fun q2 => rd_R ρ 103 56 [some (.ref 49), some (.ref 33), some (.ref 28), some (.ref 9), some (.int x4), some (.int x5), some (.int x6)] [] q2.2) else rd_R ρ 103 56 [some (.ref 49), some (.ref 33), some (.ref 28), some (.ref 9), some (.int x4), some (.int x5), some (.int x6)] [] σ) else rd_R ρ 103 56 [some (.ref 49), some (.ref 33), some (.ref 28), some (.ref 9), some (.int x4), some (.int x5), some (.int x6)] [] σ) := by
  refine (r_iload L_103_46 rfl).trans ?_
  refine (r_ifne L_103_47).trans ?_
  refine it_c ?_ ?_
  · refine (r_iload L_103_48 rfl).trans ?_
    refine (r_iconst L_103_49 ki_3).trans ?_
    refine (r_cmpne L_103_50).trans ?_
    refine it_c ?_ ?_
    · refine (r_aload_n L_103_51 rfl).trans ?_
      refine (r_bipush L_103_52 kb_6).trans ?_
      refine (r_iload L_103_53 rfl).trans ?_
      refine (r_iconst L_103_54 ki_0).trans ?_
      refine (r_callVv L_103_55 rfl isI_106 (by decide) rfl).trans ?_
      refine bi_c (fun q2 => ?_)
      rfl
    · rfl
  · rfl
set_option maxRecDepth 100000 in
set_option maxHeartbeats 4000000 in
theorem q_X10_find_49_33_28_9_at56 (ρ : Nat × (Nat → Int32)) (σ : rd_Sg) (x4 : Int32) (o5 o6 : Option Value) : rd_R ρ 103 56 [some (.ref 49), some (.ref 33), some (.ref 28), some (.ref 9), some (.int x4), o5, o6] [] σ = rd_R ρ 103 11 [some (.ref 49), some (.ref 33), some (.ref 28), some (.ref 9), some (.int (x4 + 1)), o5, o6] [] σ := by
  refine (r_iinc L_103_56 rfl ki_1 rfl).trans ?_
  refine (r_goto L_103_57).trans ?_
  rfl
set_option maxRecDepth 100000 in
set_option maxHeartbeats 4000000 in
theorem q_X10_size_49 (ρ : Nat × (Nat → Int32)) (σ : rd_Sg) : rd_R ρ 101 0 [some (.ref 49)] [] σ = some ((σ 49 1), σ) := by
  refine (r_aload_n L_101_0 rfl).trans ?_
  refine (r_getfi L_101_1 gf_49_1).trans ?_
  exact r_ret L_101_2 mz_101
set_option maxRecDepth 100000 in
set_option maxHeartbeats 4000000 in
theorem q_X10_part_49 (ρ : Nat × (Nat → Int32)) (σ : rd_Sg) (x1 x2 : Int32) : rd_R ρ 102 0 [some (.ref 49), some (.int x1), some (.int x2)] [] σ = (rd_chk ((x1 * 3) + x2) 180 (some ((σ 50 ((x1 * 3) + x2).toNatClampNeg), σ))) := by
  refine (r_aload_n L_102_0 rfl).trans ?_
  refine (r_getfr L_102_1 gf_49_0).trans ?_
  refine (r_iload_n L_102_2 rfl).trans ?_
  refine (r_iconst L_102_3 ki_3).trans ?_
  refine (r_imul L_102_4).trans ?_
  refine (r_iload_n L_102_5 rfl).trans ?_
  refine (r_iadd L_102_6).trans ?_
  refine (r_iald L_102_7 ar_50).trans ?_
  refine ck_c ?_
  exact r_ret L_102_8 mz_102
set_option maxRecDepth 100000 in
set_option maxHeartbeats 4000000 in
theorem q_X1_isCue (ρ : Nat × (Nat → Int32)) (σ : rd_Sg) (x0 x1 x2 x3 : Int32) : rd_R ρ 15 0 [some (.int x0), some (.int x1), some (.int x2), some (.int x3), none] [] σ = (if x0 < 0 then some (0, σ) else (if 9 < x0 then some (0, σ) else ((rd_R ρ 16 0 [some (.int x1), some (.int (x0 * 6))] [] σ).bind fun q2 => (if q2.1 = 0 then some (0, q2.2) else ((rd_R ρ 16 0 [some (.int x2), some (.int ((x0 * 6) + 2))] [] q2.2).bind fun q4 => (if q4.1 = 0 then some (0, q4.2) else ((rd_R ρ 16 0 [some (.int x3), some (.int ((x0 * 6) + 4))] [] q4.2).bind fun q6 => (if q6.1 = 0 then some (0, q6.2) else some (1, q6.2))))))))) := by
  refine (r_iload_n L_15_0 rfl).trans ?_
  refine (r_iflt L_15_1).trans ?_
  refine it_c ?_ ?_
  · refine (r_iconst L_15_5 ki_0).trans ?_
    exact r_ret0 L_15_6 mz_15
  · refine (r_iload_n L_15_2 rfl).trans ?_
    refine (r_bipush L_15_3 kb_9).trans ?_
    refine (r_cmple L_15_4).trans ?_
    refine it_c ?_ ?_
    · refine (r_iconst L_15_5 ki_0).trans ?_
      exact r_ret0 L_15_6 mz_15
    · refine (r_iload_n L_15_7 rfl).trans ?_
      refine (r_bipush L_15_8 kb_6).trans ?_
      refine (r_imul L_15_9).trans ?_
      refine (r_istore L_15_10 rfl).trans ?_
      refine (r_iload_n L_15_11 rfl).trans ?_
      refine (r_iload L_15_12 rfl).trans ?_
      refine (r_callS L_15_13 rfl isI_16 rfl).trans ?_
      refine bi_c (fun q2 => ?_)
      refine (r_ifeq L_15_14).trans ?_
      refine it_c ?_ ?_
      · refine (r_iconst L_15_29 ki_0).trans ?_
        exact r_ret0 L_15_30 mz_15
      · refine (r_iload_n L_15_15 rfl).trans ?_
        refine (r_iload L_15_16 rfl).trans ?_
        refine (r_iconst L_15_17 ki_2).trans ?_
        refine (r_iadd L_15_18).trans ?_
        refine (r_callS L_15_19 rfl isI_16 rfl).trans ?_
        refine bi_c (fun q4 => ?_)
        refine (r_ifeq L_15_20).trans ?_
        refine it_c ?_ ?_
        · refine (r_iconst L_15_29 ki_0).trans ?_
          exact r_ret0 L_15_30 mz_15
        · refine (r_iload_n L_15_21 rfl).trans ?_
          refine (r_iload L_15_22 rfl).trans ?_
          refine (r_iconst L_15_23 ki_4).trans ?_
          refine (r_iadd L_15_24).trans ?_
          refine (r_callS L_15_25 rfl isI_16 rfl).trans ?_
          refine bi_c (fun q6 => ?_)
          refine (r_ifeq L_15_26).trans ?_
          refine it_c ?_ ?_
          · refine (r_iconst L_15_29 ki_0).trans ?_
            exact r_ret0 L_15_30 mz_15
          · refine (r_iconst L_15_27 ki_1).trans ?_
            refine (r_goto L_15_28).trans ?_
            exact r_ret1 L_15_30 mz_15
set_option maxRecDepth 100000 in
set_option maxHeartbeats 4000000 in
theorem q_X1_add_51 (ρ : Nat × (Nat → Int32)) (σ : rd_Sg) (x1 x2 x3 x4 : Int32) : rd_R ρ 18 0 [some (.ref 51), some (.int x1), some (.int x2), some (.int x3), some (.int x4), none] [] σ = (if (σ 51 0) < 60 then (rd_chk (σ 51 0) 60 ((rd_chk (σ 51 0) 60 ((rd_chk (σ 51 0) 60 ((rd_chk (σ 51 0) 60 (some ((σ 51 0), (rd_u (rd_u (rd_u (rd_u (rd_u σ 52 (σ 51 0).toNatClampNeg x1) 53 (σ 51 0).toNatClampNeg x2) 54 (σ 51 0).toNatClampNeg x3) 55 (σ 51 0).toNatClampNeg x4) 51 0 ((σ 51 0) + 1))))))))))) else some (((-3) : Int32), σ)) := by
  refine (r_aload_n L_18_0 rfl).trans ?_
  refine (r_getfi L_18_1 gf_51_0).trans ?_
  refine (r_bipush L_18_2 kb_60).trans ?_
  refine (r_cmplt L_18_3).trans ?_
  refine it_c ?_ ?_
  · refine (r_aload_n L_18_6 rfl).trans ?_
    refine (r_getfi L_18_7 gf_51_0).trans ?_
    refine (r_istore L_18_8 rfl).trans ?_
    refine (r_aload_n L_18_9 rfl).trans ?_
    refine (r_getfr L_18_10 gf_51_1).trans ?_
    refine (r_iload L_18_11 rfl).trans ?_
    refine (r_iload_n L_18_12 rfl).trans ?_
    refine (r_iast L_18_13 ar_52).trans ?_
    refine ck_c ?_
    refine (r_aload_n L_18_14 rfl).trans ?_
    refine (r_getfr L_18_15 gf_51_2).trans ?_
    refine (r_iload L_18_16 rfl).trans ?_
    refine (r_iload_n L_18_17 rfl).trans ?_
    refine (r_iast L_18_18 ar_53).trans ?_
    refine ck_c ?_
    refine (r_aload_n L_18_19 rfl).trans ?_
    refine (r_getfr L_18_20 gf_51_3).trans ?_
    refine (r_iload L_18_21 rfl).trans ?_
    refine (r_iload_n L_18_22 rfl).trans ?_
    refine (r_iast L_18_23 ar_54).trans ?_
    refine ck_c ?_
    refine (r_aload_n L_18_24 rfl).trans ?_
    refine (r_getfr L_18_25 gf_51_4).trans ?_
    refine (r_iload L_18_26 rfl).trans ?_
    refine (r_iload L_18_27 rfl).trans ?_
    refine (r_iast L_18_28 ar_55).trans ?_
    refine ck_c ?_
    refine (r_aload_n L_18_29 rfl).trans ?_
    refine (r_dupr L_18_30).trans ?_
    refine (r_getfiv L_18_31 gf_51_0 ((rd_un (by decide)).trans ((rd_un (by decide)).trans ((rd_un (by decide)).trans (rd_un (by decide)))))).trans ?_
    refine (r_iconst L_18_32 ki_1).trans ?_
    refine (r_iadd L_18_33).trans ?_
    refine (r_putfi L_18_34 gf_51_0).trans ?_
    refine (r_iload L_18_35 rfl).trans ?_
    exact r_ret L_18_36 mz_18
  · refine (r_bipush L_18_4 kb_m3).trans ?_
    exact r_ret L_18_5 mz_18
set_option maxRecDepth 100000 in
set_option maxHeartbeats 4000000 in
theorem q_X1_removeAll_51 (ρ : Nat × (Nat → Int32)) (σ : rd_Sg) : rd_R ρ 19 0 [some (.ref 51), none] [] σ = some ((σ 51 0), (rd_u σ 51 0 0)) := by
  refine (r_aload_n L_19_0 rfl).trans ?_
  refine (r_getfi L_19_1 gf_51_0).trans ?_
  refine (r_istore_n L_19_2 rfl).trans ?_
  refine (r_aload_n L_19_3 rfl).trans ?_
  refine (r_iconst L_19_4 ki_0).trans ?_
  refine (r_putfi L_19_5 gf_51_0).trans ?_
  refine (r_iload_n L_19_6 rfl).trans ?_
  exact r_ret L_19_7 mz_19
set_option maxRecDepth 100000 in
set_option maxHeartbeats 4000000 in
theorem q_X0_isWornOut_56 (ρ : Nat × (Nat → Int32)) (σ : rd_Sg) : rd_R ρ 1 0 [some (.ref 56)] [] σ = (if (σ 56 9) < 20000 then some (0, σ) else some (1, σ)) := by
  refine (r_aload_n L_1_0 rfl).trans ?_
  refine (r_getfi L_1_1 gf_56_9).trans ?_
  refine (r_sipush L_1_2 ks_20000).trans ?_
  refine (r_cmplt L_1_3).trans ?_
  refine it_c ?_ ?_
  · refine (r_iconst L_1_6 ki_0).trans ?_
    exact r_ret0 L_1_7 mz_1
  · refine (r_iconst L_1_4 ki_1).trans ?_
    refine (r_goto L_1_5).trans ?_
    exact r_ret1 L_1_7 mz_1
set_option maxRecDepth 100000 in
set_option maxHeartbeats 4000000 in
theorem q_X0_begin_56 (ρ : Nat × (Nat → Int32)) (σ : rd_Sg) : rd_R ρ 3 0 [some (.ref 56)] [] σ = ((rd_R ρ 193 0 [some (.ref 61), some (.int 0), none, none] [] σ).bind fun q0 => ((rd_R ρ 193 0 [some (.ref 62), some (.int (-1)), none, none] [] q0.2).bind fun q1 => ((rd_R ρ 96 0 [some (.ref 57)] [] q1.2).bind fun q2 => some (0, (rd_u q2.2 56 10 0))))) := by
  refine (r_aload_n L_3_0 rfl).trans ?_
  refine (r_getfr L_3_1 gf_56_5).trans ?_
  refine (r_iconst L_3_2 ki_0).trans ?_
  refine (r_callSv L_3_3 rfl isI_193 (by decide) rfl).trans ?_
  refine bi_c (fun q0 => ?_)
  refine (r_aload_n L_3_4 rfl).trans ?_
  refine (r_getfr L_3_5 gf_56_6).trans ?_
  refine (r_iconst L_3_6 ki_m1).trans ?_
  refine (r_callSv L_3_7 rfl isI_193 (by decide) rfl).trans ?_
  refine bi_c (fun q1 => ?_)
  refine (r_aload_n L_3_8 rfl).trans ?_
  refine (r_getfr L_3_9 gf_56_4).trans ?_
  refine (r_callVv L_3_10 rfl isI_96 (by decide) rfl).trans ?_
  refine bi_c (fun q2 => ?_)
  refine (r_aload_n L_3_11 rfl).trans ?_
  refine (r_iconst L_3_12 ki_0).trans ?_
  refine (r_putfi L_3_13 gf_56_10).trans ?_
  exact r_retv L_3_14
set_option maxRecDepth 100000 in
set_option maxHeartbeats 4000000 in
theorem q_X0_isAtCue_56 (ρ : Nat × (Nat → Int32)) (σ : rd_Sg) : rd_R ρ 4 0 [some (.ref 56)] [] σ = ((rd_R ρ 17 0 [some (.ref 51)] [] σ).bind fun q0 => (if (σ 56 10) < q0.1 then some (1, q0.2) else some (0, q0.2))) := by
  refine (r_aload_n L_4_0 rfl).trans ?_
  refine (r_getfi L_4_1 gf_56_10).trans ?_
  refine (r_aload_n L_4_2 rfl).trans ?_
  refine (r_getfr L_4_3 gf_56_0).trans ?_
  refine (r_callV L_4_4 rfl isI_17 rfl).trans ?_
  refine bi_c (fun q0 => ?_)
  refine (r_cmpge L_4_5).trans ?_
  refine it_c ?_ ?_
  · refine (r_iconst L_4_6 ki_1).trans ?_
    refine (r_goto L_4_7).trans ?_
    exact r_ret1 L_4_9 mz_4
  · refine (r_iconst L_4_8 ki_0).trans ?_
    exact r_ret0 L_4_9 mz_4
set_option maxRecDepth 100000 in
set_option maxHeartbeats 4000000 in
theorem q_X0_doCue_56 (ρ : Nat × (Nat → Int32)) (σ : rd_Sg) : rd_R ρ 5 0 [some (.ref 56), none, none, none, none] [] σ = (rd_chk (σ 56 10) 60 ((rd_chk (σ 56 10) 60 ((rd_chk (σ 56 10) 60 ((rd_chk (σ 56 10) 60 ((if (σ 52 (σ 56 10).toNatClampNeg) = 0 then (rd_chk (σ 53 (σ 56 10).toNatClampNeg) 8 (some (((-1) : Int32), (rd_u (rd_u (rd_u σ 56 9 ((σ 56 9) + 1)) 56 10 ((σ 56 10) + 1)) 61 (σ 53 (σ 56 10).toNatClampNeg).toNatClampNeg (σ 54 (σ 56 10).toNatClampNeg))))) else (if (σ 52 (σ 56 10).toNatClampNeg) = 1 then (rd_chk (σ 53 (σ 56 10).toNatClampNeg) 8 ((rd_chk (σ 54 (σ 56 10).toNatClampNeg) 8 ((rd_chk (σ 53 (σ 56 10).toNatClampNeg) 8 (some (((-1) : Int32), (rd_u (rd_u (rd_u σ 56 9 ((σ 56 9) + 1)) 56 10 ((σ 56 10) + 1)) 61 (σ 53 (σ 56 10).toNatClampNeg).toNatClampNeg ((σ 61 (σ 53 (σ 56 10).toNatClampNeg).toNatClampNeg) + (σ 61 (σ 54 (σ 56 10).toNatClampNeg).toNatClampNeg)))))))))) else (if (σ 52 (σ 56 10).toNatClampNeg) = 2 then ((rd_R ρ 88 0 [some (.ref 9), some (.int (σ 54 (σ 56 10).toNatClampNeg))] [] (rd_u (rd_u σ 56 9 ((σ 56 9) + 1)) 56 10 ((σ 56 10) + 1))).bind fun q1 => (if q1.1 = 0 then (rd_chk (σ 53 (σ 56 10).toNatClampNeg) 4 (some (((-1) : Int32), (rd_u q1.2 62 (σ 53 (σ 56 10).toNatClampNeg).toNatClampNeg (-1))))) else (rd_chk (σ 53 (σ 56 10).toNatClampNeg) 4 (some (((-1) : Int32), (rd_u q1.2 62 (σ 53 (σ 56 10).toNatClampNeg).toNatClampNeg (σ 54 (σ 56 10).toNatClampNeg))))))) else (if (σ 52 (σ 56 10).toNatClampNeg) = 3 then (rd_chk (σ 53 (σ 56 10).toNatClampNeg) 4 (((rd_R ρ 6 0 [some (.ref 56), some (.int (σ 62 (σ 53 (σ 56 10).toNatClampNeg).toNatClampNeg)), some (.int (σ 54 (σ 56 10).toNatClampNeg)), none] [] (rd_u (rd_u σ 56 9 ((σ 56 9) + 1)) 56 10 ((σ 56 10) + 1))).bind fun q1 => some (q1.1, q1.2)))) else (if (σ 52 (σ 56 10).toNatClampNeg) = 4 then some (((-1) : Int32), (rd_u (rd_u (rd_u σ 56 9 ((σ 56 9) + 1)) 56 10 ((σ 56 10) + 1)) 56 10 (σ 53 (σ 56 10).toNatClampNeg))) else (if (σ 52 (σ 56 10).toNatClampNeg) = 5 then (rd_chk (σ 53 (σ 56 10).toNatClampNeg) 8 ((rd_chk (σ 54 (σ 56 10).toNatClampNeg) 8 ((if (σ 61 (σ 53 (σ 56 10).toNatClampNeg).toNatClampNeg) < (σ 61 (σ 54 (σ 56 10).toNatClampNeg).toNatClampNeg) then some (((-1) : Int32), (rd_u (rd_u (rd_u σ 56 9 ((σ 56 9) + 1)) 56 10 ((σ 56 10) + 1)) 56 10 (σ 55 (σ 56 10).toNatClampNeg))) else some (((-1) : Int32), (rd_u (rd_u (rd_u σ 56 9 ((σ 56 9) + 1)) 56 10 ((σ 56 10) + 1)) 56 10 ((σ 56 10) + 1)))))))) else (if (σ 52 (σ 56 10).toNatClampNeg) = 6 then ((rd_R ρ 97 0 [some (.ref 57), some (.int (σ 56 10)), some (.int (σ 53 (σ 56 10).toNatClampNeg)), some (.int (σ 54 (σ 56 10).toNatClampNeg))] [] (rd_u (rd_u σ 56 9 ((σ 56 9) + 1)) 56 10 ((σ 56 10) + 1))).bind fun q1 => (if q1.1 = 0 then some ((11 : Int32), q1.2) else some (((-1) : Int32), q1.2))) else (if (σ 52 (σ 56 10).toNatClampNeg) = 7 then some ((σ 53 (σ 56 10).toNatClampNeg), (rd_u (rd_u σ 56 9 ((σ 56 9) + 1)) 56 10 ((σ 56 10) + 1))) else (if (σ 52 (σ 56 10).toNatClampNeg) = 8 then (rd_chk (σ 53 (σ 56 10).toNatClampNeg) 4 ((rd_chk (σ 54 (σ 56 10).toNatClampNeg) 4 ((if (σ 62 (σ 53 (σ 56 10).toNatClampNeg).toNatClampNeg) = (σ 62 (σ 54 (σ 56 10).toNatClampNeg).toNatClampNeg) then (rd_chk (σ 55 (σ 56 10).toNatClampNeg) 8 (some (((-1) : Int32), (rd_u (rd_u (rd_u σ 56 9 ((σ 56 9) + 1)) 56 10 ((σ 56 10) + 1)) 61 (σ 55 (σ 56 10).toNatClampNeg).toNatClampNeg 1)))) else (rd_chk (σ 55 (σ 56 10).toNatClampNeg) 8 (some (((-1) : Int32), (rd_u (rd_u (rd_u σ 56 9 ((σ 56 9) + 1)) 56 10 ((σ 56 10) + 1)) 61 (σ 55 (σ 56 10).toNatClampNeg).toNatClampNeg 0))))))))) else (rd_chk (σ 53 (σ 56 10).toNatClampNeg) 8 (((rd_R ρ 8 0 [some (.ref 56), some (.int (σ 61 (σ 53 (σ 56 10).toNatClampNeg).toNatClampNeg))] [] (rd_u (rd_u σ 56 9 ((σ 56 9) + 1)) 56 10 ((σ 56 10) + 1))).bind fun q1 => some (((-1) : Int32), q1.2))))))))))))))))))))) := by
  refine (r_aload_n L_5_0 rfl).trans ?_
  refine (r_getfi L_5_1 gf_56_10).trans ?_
  refine (r_istore_n L_5_2 rfl).trans ?_
  refine (r_aload_n L_5_3 rfl).trans ?_
  refine (r_getfr L_5_4 gf_56_0).trans ?_
  refine (r_getfr L_5_5 gf_51_2).trans ?_
  refine (r_iload_n L_5_6 rfl).trans ?_
  refine (r_iald L_5_7 ar_53).trans ?_
  refine ck_c ?_
  refine (r_istore_n L_5_8 rfl).trans ?_
  refine (r_aload_n L_5_9 rfl).trans ?_
  refine (r_getfr L_5_10 gf_56_0).trans ?_
  refine (r_getfr L_5_11 gf_51_3).trans ?_
  refine (r_iload_n L_5_12 rfl).trans ?_
  refine (r_iald L_5_13 ar_54).trans ?_
  refine ck_c ?_
  refine (r_istore_n L_5_14 rfl).trans ?_
  refine (r_aload_n L_5_15 rfl).trans ?_
  refine (r_getfr L_5_16 gf_56_0).trans ?_
  refine (r_getfr L_5_17 gf_51_4).trans ?_
  refine (r_iload_n L_5_18 rfl).trans ?_
  refine (r_iald L_5_19 ar_55).trans ?_
  refine ck_c ?_
  refine (r_istore L_5_20 rfl).trans ?_
  refine (r_aload_n L_5_21 rfl).trans ?_
  refine (r_dupr L_5_22).trans ?_
  refine (r_getfi L_5_23 gf_56_9).trans ?_
  refine (r_iconst L_5_24 ki_1).trans ?_
  refine (r_iadd L_5_25).trans ?_
  refine (r_putfi L_5_26 gf_56_9).trans ?_
  refine (r_aload_n L_5_27 rfl).trans ?_
  refine (r_iload_n L_5_28 rfl).trans ?_
  refine (r_iconst L_5_29 ki_1).trans ?_
  refine (r_iadd L_5_30).trans ?_
  refine (r_putfi L_5_31 gf_56_10).trans ?_
  refine (r_aload_n L_5_32 rfl).trans ?_
  refine (r_getfr L_5_33 gf_56_0).trans ?_
  refine (r_getfr L_5_34 gf_51_1).trans ?_
  refine (r_iload_n L_5_35 rfl).trans ?_
  refine (r_ialdv L_5_36 ar_52 ((rd_un (by decide)).trans (rd_un (by decide)))).trans ?_
  refine ck_c ?_
  refine (r_tsw L_5_37).trans ?_
  refine (r_swc ki_0 rfl).trans ?_
  refine it_c ?_ ?_
  · refine (r_aload_n L_5_38 rfl).trans ?_
    refine (r_getfr L_5_39 gf_56_5).trans ?_
    refine (r_iload_n L_5_40 rfl).trans ?_
    refine (r_iload_n L_5_41 rfl).trans ?_
    refine (r_iast L_5_42 ar_61).trans ?_
    refine ck_c ?_
    refine (r_iconst L_5_43 ki_m1).trans ?_
    exact r_ret L_5_44 mz_5
  · refine (r_swc ki_1 rfl).trans ?_
    refine it_c ?_ ?_
    · refine (r_aload_n L_5_45 rfl).trans ?_
      refine (r_getfr L_5_46 gf_56_5).trans ?_
      refine (r_iload_n L_5_47 rfl).trans ?_
      refine (r_dup2 L_5_48).trans ?_
      refine (r_ialdv L_5_49 ar_61 ((rd_un (by decide)).trans (rd_un (by decide)))).trans ?_
      refine ck_c ?_
      refine (r_aload_n L_5_50 rfl).trans ?_
      refine (r_getfr L_5_51 gf_56_5).trans ?_
      refine (r_iload_n L_5_52 rfl).trans ?_
      refine (r_ialdv L_5_53 ar_61 ((rd_un (by decide)).trans (rd_un (by decide)))).trans ?_
      refine ck_c ?_
      refine (r_iadd L_5_54).trans ?_
      refine (r_iast L_5_55 ar_61).trans ?_
      refine ck_c ?_
      refine (r_iconst L_5_56 ki_m1).trans ?_
      exact r_ret L_5_57 mz_5
    · refine (r_swc ki_2 rfl).trans ?_
      refine it_c ?_ ?_
      · refine (r_aload_n L_5_58 rfl).trans ?_
        refine (r_getfr L_5_59 gf_56_6).trans ?_
        refine (r_iload_n L_5_60 rfl).trans ?_
        refine (r_aload_n L_5_61 rfl).trans ?_
        refine (r_getfr L_5_62 gf_56_2).trans ?_
        refine (r_iload_n L_5_63 rfl).trans ?_
        refine (r_callV L_5_64 rfl isI_88 rfl).trans ?_
        refine bi_c (fun q1 => ?_)
        refine (r_ifeq L_5_65).trans ?_
        refine it_c ?_ ?_
        · refine (r_iconst L_5_68 ki_m1).trans ?_
          refine (r_iast L_5_69 ar_62).trans ?_
          refine ck_c ?_
          refine (r_iconst L_5_70 ki_m1).trans ?_
          exact r_ret L_5_71 mz_5
        · refine (r_iload_n L_5_66 rfl).trans ?_
          refine (r_goto L_5_67).trans ?_
          refine (r_iast L_5_69 ar_62).trans ?_
          refine ck_c ?_
          refine (r_iconst L_5_70 ki_m1).trans ?_
          exact r_ret L_5_71 mz_5
      · refine (r_swc ki_3 rfl).trans ?_
        refine it_c ?_ ?_
        · refine (r_aload_n L_5_72 rfl).trans ?_
          refine (r_aload_n L_5_73 rfl).trans ?_
          refine (r_getfr L_5_74 gf_56_6).trans ?_
          refine (r_iload_n L_5_75 rfl).trans ?_
          refine (r_ialdv L_5_76 ar_62 ((rd_un (by decide)).trans (rd_un (by decide)))).trans ?_
          refine ck_c ?_
          refine (r_iload_n L_5_77 rfl).trans ?_
          refine (r_callV L_5_78 rfl isI_6 rfl).trans ?_
          refine bi_c (fun q1 => ?_)
          exact r_ret L_5_79 mz_5
        · refine (r_swc ki_4 rfl).trans ?_
          refine it_c ?_ ?_
          · refine (r_aload_n L_5_80 rfl).trans ?_
            refine (r_iload_n L_5_81 rfl).trans ?_
            refine (r_putfi L_5_82 gf_56_10).trans ?_
            refine (r_iconst L_5_83 ki_m1).trans ?_
            exact r_ret L_5_84 mz_5
          · refine (r_swc ki_5 rfl).trans ?_
            refine it_c ?_ ?_
            · refine (r_aload_n L_5_85 rfl).trans ?_
              refine (r_aload_n L_5_86 rfl).trans ?_
              refine (r_getfr L_5_87 gf_56_5).trans ?_
              refine (r_iload_n L_5_88 rfl).trans ?_
              refine (r_ialdv L_5_89 ar_61 ((rd_un (by decide)).trans (rd_un (by decide)))).trans ?_
              refine ck_c ?_
              refine (r_aload_n L_5_90 rfl).trans ?_
              refine (r_getfr L_5_91 gf_56_5).trans ?_
              refine (r_iload_n L_5_92 rfl).trans ?_
              refine (r_ialdv L_5_93 ar_61 ((rd_un (by decide)).trans (rd_un (by decide)))).trans ?_
              refine ck_c ?_
              refine (r_cmpge L_5_94).trans ?_
              refine it_c ?_ ?_
              · refine (r_iload L_5_95 rfl).trans ?_
                refine (r_goto L_5_96).trans ?_
                refine (r_putfi L_5_99 gf_56_10).trans ?_
                refine (r_iconst L_5_100 ki_m1).trans ?_
                exact r_ret L_5_101 mz_5
              · refine (r_aload_n L_5_97 rfl).trans ?_
                refine (r_getfiv L_5_98 gf_56_10 (rd_us)).trans ?_
                refine (r_putfi L_5_99 gf_56_10).trans ?_
                refine (r_iconst L_5_100 ki_m1).trans ?_
                exact r_ret L_5_101 mz_5
            · refine (r_swc ki_6 rfl).trans ?_
              refine it_c ?_ ?_
              · refine (r_aload_n L_5_102 rfl).trans ?_
                refine (r_getfr L_5_103 gf_56_4).trans ?_
                refine (r_iload_n L_5_104 rfl).trans ?_
                refine (r_iload_n L_5_105 rfl).trans ?_
                refine (r_iload_n L_5_106 rfl).trans ?_
                refine (r_callV L_5_107 rfl isI_97 rfl).trans ?_
                refine bi_c (fun q1 => ?_)
                refine (r_ifeq L_5_108).trans ?_
                refine it_c ?_ ?_
                · refine (r_bipush L_5_111 kb_11).trans ?_
                  exact r_ret L_5_112 mz_5
                · refine (r_iconst L_5_109 ki_m1).trans ?_
                  refine (r_goto L_5_110).trans ?_
                  exact r_ret L_5_112 mz_5
              · refine (r_swc ki_7 rfl).trans ?_
                refine it_c ?_ ?_
                · refine (r_iload_n L_5_113 rfl).trans ?_
                  exact r_ret L_5_114 mz_5
                · refine (r_swc ki_8 rfl).trans ?_
                  refine it_c ?_ ?_
                  · refine (r_aload_n L_5_115 rfl).trans ?_
                    refine (r_getfr L_5_116 gf_56_5).trans ?_
                    refine (r_iload L_5_117 rfl).trans ?_
                    refine (r_aload_n L_5_118 rfl).trans ?_
                    refine (r_getfr L_5_119 gf_56_6).trans ?_
                    refine (r_iload_n L_5_120 rfl).trans ?_
                    refine (r_ialdv L_5_121 ar_62 ((rd_un (by decide)).trans (rd_un (by decide)))).trans ?_
                    refine ck_c ?_
                    refine (r_aload_n L_5_122 rfl).trans ?_
                    refine (r_getfr L_5_123 gf_56_6).trans ?_
                    refine (r_iload_n L_5_124 rfl).trans ?_
                    refine (r_ialdv L_5_125 ar_62 ((rd_un (by decide)).trans (rd_un (by decide)))).trans ?_
                    refine ck_c ?_
                    refine (r_cmpne L_5_126).trans ?_
                    refine it_c ?_ ?_
                    · refine (r_iconst L_5_127 ki_1).trans ?_
                      refine (r_goto L_5_128).trans ?_
                      refine (r_iast L_5_130 ar_61).trans ?_
                      refine ck_c ?_
                      refine (r_iconst L_5_131 ki_m1).trans ?_
                      exact r_ret L_5_132 mz_5
                    · refine (r_iconst L_5_129 ki_0).trans ?_
                      refine (r_iast L_5_130 ar_61).trans ?_
                      refine ck_c ?_
                      refine (r_iconst L_5_131 ki_m1).trans ?_
                      exact r_ret L_5_132 mz_5
                  · refine (r_swn).trans ?_
                    refine (r_aload_n L_5_133 rfl).trans ?_
                    refine (r_aload_n L_5_134 rfl).trans ?_
                    refine (r_getfr L_5_135 gf_56_5).trans ?_
                    refine (r_iload_n L_5_136 rfl).trans ?_
                    refine (r_ialdv L_5_137 ar_61 ((rd_un (by decide)).trans (rd_un (by decide)))).trans ?_
                    refine ck_c ?_
                    refine (r_callVv L_5_138 rfl isI_8 (by decide) rfl).trans ?_
                    refine bi_c (fun q1 => ?_)
                    refine (r_iconst L_5_139 ki_m1).trans ?_
                    exact r_ret L_5_140 mz_5
set_option maxRecDepth 100000 in
set_option maxHeartbeats 4000000 in
theorem q_X0_recover_56 (ρ : Nat × (Nat → Int32)) (σ : rd_Sg) (x1 : Int32) : rd_R ρ 9 0 [some (.ref 56), some (.int x1), none] [] σ = ((rd_R ρ 99 0 [some (.ref 57)] [] σ).bind fun q0 => (if q0.1 = (-1) then some (0, q0.2) else some (1, (rd_u (rd_u q0.2 61 6 x1) 56 10 q0.1)))) := by
  refine (r_aload_n L_9_0 rfl).trans ?_
  refine (r_getfr L_9_1 gf_56_4).trans ?_
  refine (r_callV L_9_2 rfl isI_99 rfl).trans ?_
  refine bi_c (fun q0 => ?_)
  refine (r_istore_n L_9_3 rfl).trans ?_
  refine (r_iload_n L_9_4 rfl).trans ?_
  refine (r_iconst L_9_5 ki_m1).trans ?_
  refine (r_cmpne L_9_6).trans ?_
  refine it_c ?_ ?_
  · refine (r_iconst L_9_7 ki_0).trans ?_
    exact r_ret0 L_9_8 mz_9
  · refine (r_aload_n L_9_9 rfl).trans ?_
    refine (r_getfr L_9_10 gf_56_5).trans ?_
    refine (r_bipush L_9_11 kb_6).trans ?_
    refine (r_iload_n L_9_12 rfl).trans ?_
    refine (r_iastc (m := 6) L_9_13 ar_61 (by decide)).trans ?_
    refine (r_aload_n L_9_14 rfl).trans ?_
    refine (r_iload_n L_9_15 rfl).trans ?_
    refine (r_putfi L_9_16 gf_56_10).trans ?_
    refine (r_iconst L_9_17 ki_1).trans ?_
    exact r_ret1 L_9_18 mz_9
set_option maxRecDepth 100000 in
set_option maxHeartbeats 4000000 in
theorem q_X0_arrive_56 (ρ : Nat × (Nat → Int32)) (σ : rd_Sg) : rd_R ρ 10 0 [some (.ref 56)] [] σ = ((rd_R ρ 98 0 [some (.ref 57), some (.int (σ 56 10)), none, none] [] σ).bind fun q0 => some (0, q0.2)) := by
  refine (r_aload_n L_10_0 rfl).trans ?_
  refine (r_getfr L_10_1 gf_56_4).trans ?_
  refine (r_aload_n L_10_2 rfl).trans ?_
  refine (r_getfi L_10_3 gf_56_10).trans ?_
  refine (r_callVv L_10_4 rfl isI_98 (by decide) rfl).trans ?_
  refine bi_c (fun q0 => ?_)
  exact r_retv L_10_5
set_option maxRecDepth 100000 in
set_option maxHeartbeats 4000000 in
theorem q_X0_toldSize_56 (ρ : Nat × (Nat → Int32)) (σ : rd_Sg) : rd_R ρ 11 0 [some (.ref 56)] [] σ = some ((σ 56 8), σ) := by
  refine (r_aload_n L_11_0 rfl).trans ?_
  refine (r_getfi L_11_1 gf_56_8).trans ?_
  exact r_ret L_11_2 mz_11
set_option maxRecDepth 100000 in
set_option maxHeartbeats 4000000 in
theorem q_X0_toldNumber_56 (ρ : Nat × (Nat → Int32)) (σ : rd_Sg) (x1 : Int32) : rd_R ρ 12 0 [some (.ref 56), some (.int x1)] [] σ = (rd_chk x1 100 (some ((σ 63 x1.toNatClampNeg), σ))) := by
  refine (r_aload_n L_12_0 rfl).trans ?_
  refine (r_getfr L_12_1 gf_56_7).trans ?_
  refine (r_iload_n L_12_2 rfl).trans ?_
  refine (r_iald L_12_3 ar_63).trans ?_
  refine ck_c ?_
  exact r_ret L_12_4 mz_12
set_option maxRecDepth 100000 in
set_option maxHeartbeats 4000000 in
theorem q_D_countMethods_0 (ρ : Nat × (Nat → Int32)) (σ : rd_Sg) (x1 : Int32) : rd_R ρ 134 0 [some (.ref 0), some (.int x1)] [] σ = (if x1 < 10 then some (((-1) : Int32), σ) else ((rd_R ρ 34 0 [some (.ref 1), some (.int (x1 - 10))] [] σ).bind fun q1 => (if q1.1 = 0 then some (((-1) : Int32), q1.2) else ((rd_R ρ 40 0 [some (.ref 1), some (.int (x1 - 10))] [] q1.2).bind fun q3 => some (q3.1, q3.2))))) := by
  refine (r_iload_n L_134_0 rfl).trans ?_
  refine (r_bipush L_134_1 kb_10).trans ?_
  refine (r_cmplt L_134_2).trans ?_
  refine it_c ?_ ?_
  · refine (r_iconst L_134_10 ki_m1).trans ?_
    exact r_ret L_134_11 mz_134
  · refine (r_aload_n L_134_3 rfl).trans ?_
    refine (r_getfr L_134_4 gf_0_0).trans ?_
    refine (r_iload_n L_134_5 rfl).trans ?_
    refine (r_bipush L_134_6 kb_10).trans ?_
    refine (r_isub L_134_7).trans ?_
    refine (r_callV L_134_8 rfl isI_34 rfl).trans ?_
    refine bi_c (fun q1 => ?_)
    refine (r_ifne L_134_9).trans ?_
    refine it_c ?_ ?_
    · refine (r_iconst L_134_10 ki_m1).trans ?_
      exact r_ret L_134_11 mz_134
    · refine (r_aload_n L_134_12 rfl).trans ?_
      refine (r_getfr L_134_13 gf_0_0).trans ?_
      refine (r_iload_n L_134_14 rfl).trans ?_
      refine (r_bipush L_134_15 kb_10).trans ?_
      refine (r_isub L_134_16).trans ?_
      refine (r_callV L_134_17 rfl isI_40 rfl).trans ?_
      refine bi_c (fun q3 => ?_)
      exact r_ret L_134_18 mz_134
set_option maxRecDepth 100000 in
set_option maxHeartbeats 4000000 in
theorem q_X0_cuesDone_56 (ρ : Nat × (Nat → Int32)) (σ : rd_Sg) : rd_R ρ 2 0 [some (.ref 56)] [] σ = some ((σ 56 9), σ) := by
  refine (r_aload_n L_2_0 rfl).trans ?_
  refine (r_getfi L_2_1 gf_56_9).trans ?_
  exact r_ret L_2_2 mz_2
set_option maxRecDepth 100000 in
set_option maxHeartbeats 4000000 in
theorem q_X1_size_51 (ρ : Nat × (Nat → Int32)) (σ : rd_Sg) : rd_R ρ 17 0 [some (.ref 51)] [] σ = some ((σ 51 0), σ) := by
  refine (r_aload_n L_17_0 rfl).trans ?_
  refine (r_getfi L_17_1 gf_51_0).trans ?_
  exact r_ret L_17_2 mz_17
set_option maxRecDepth 100000 in
set_option maxHeartbeats 4000000 in
theorem q_X2_orders_33 (ρ : Nat × (Nat → Int32)) (σ : rd_Sg) : rd_R ρ 22 0 [some (.ref 33)] [] σ = some ((σ 33 3), σ) := by
  refine (r_aload_n L_22_0 rfl).trans ?_
  refine (r_getfi L_22_1 gf_33_3).trans ?_
  exact r_ret L_22_2 mz_22
set_option maxRecDepth 100000 in
set_option maxHeartbeats 4000000 in
theorem q_X5_size_34 (ρ : Nat × (Nat → Int32)) (σ : rd_Sg) : rd_R ρ 55 0 [some (.ref 34)] [] σ = some ((σ 34 3), σ) := by
  refine (r_aload_n L_55_0 rfl).trans ?_
  refine (r_getfi L_55_1 gf_34_3).trans ?_
  exact r_ret L_55_2 mz_55
set_option maxRecDepth 100000 in
set_option maxHeartbeats 4000000 in
theorem q_X4_lost_28 (ρ : Nat × (Nat → Int32)) (σ : rd_Sg) : rd_R ρ 50 0 [some (.ref 28)] [] σ = some ((σ 28 4), σ) := by
  refine (r_aload_n L_50_0 rfl).trans ?_
  refine (r_getfi L_50_1 gf_28_4).trans ?_
  exact r_ret L_50_2 mz_50
set_option maxRecDepth 100000 in
set_option maxHeartbeats 4000000 in
theorem q_X5_size_15 (ρ : Nat × (Nat → Int32)) (σ : rd_Sg) : rd_R ρ 55 0 [some (.ref 15)] [] σ = some ((σ 15 3), σ) := by
  refine (r_aload_n L_55_0 rfl).trans ?_
  refine (r_getfi L_55_1 gf_15_3).trans ?_
  exact r_ret L_55_2 mz_55
set_option maxRecDepth 100000 in
set_option maxHeartbeats 4000000 in
theorem q_X8_size_9 (ρ : Nat × (Nat → Int32)) (σ : rd_Sg) : rd_R ρ 87 0 [some (.ref 9)] [] σ = some ((σ 9 1), σ) := by
  refine (r_aload_n L_87_0 rfl).trans ?_
  refine (r_getfi L_87_1 gf_9_1).trans ?_
  exact r_ret L_87_2 mz_87
set_option maxRecDepth 100000 in
set_option maxHeartbeats 4000000 in
theorem q_X3_size_1 (ρ : Nat × (Nat → Int32)) (σ : rd_Sg) : rd_R ρ 33 0 [some (.ref 1)] [] σ = some ((σ 1 0), σ) := by
  refine (r_aload_n L_33_0 rfl).trans ?_
  refine (r_getfi L_33_1 gf_1_0).trans ?_
  exact r_ret L_33_2 mz_33
set_option maxRecDepth 100000 in
set_option maxHeartbeats 4000000 in
theorem q_X4_empty_28 (ρ : Nat × (Nat → Int32)) (σ : rd_Sg) : rd_R ρ 53 0 [some (.ref 28)] [] σ = some (0, (rd_u (rd_u σ 28 3 0) 28 4 0)) := by
  refine (r_aload_n L_53_0 rfl).trans ?_
  refine (r_iconst L_53_1 ki_0).trans ?_
  refine (r_putfi L_53_2 gf_28_3).trans ?_
  refine (r_aload_n L_53_3 rfl).trans ?_
  refine (r_iconst L_53_4 ki_0).trans ?_
  refine (r_putfi L_53_5 gf_28_4).trans ?_
  exact r_retv L_53_6
set_option maxRecDepth 100000 in
set_option maxHeartbeats 4000000 in
theorem q_X6_startAgain_14 (ρ : Nat × (Nat → Int32)) (σ : rd_Sg) : rd_R ρ 75 0 [some (.ref 14), none] [] σ = ((rd_R ρ 193 0 [some (.ref 25), some (.int 0), none, none] [] σ).bind fun q0 => rd_R ρ 75 6 [some (.ref 14), some (.int 0)] [] q0.2) := by
  refine (r_aload_n L_75_0 rfl).trans ?_
  refine (r_getfr L_75_1 gf_14_6).trans ?_
  refine (r_iconst L_75_2 ki_0).trans ?_
  refine (r_callSv L_75_3 rfl isI_193 (by decide) rfl).trans ?_
  refine bi_c (fun q0 => ?_)
  refine (r_iconst L_75_4 ki_0).trans ?_
  refine (r_istore_n L_75_5 rfl).trans ?_
  rfl
set_option maxRecDepth 100000 in
set_option maxHeartbeats 4000000 in
theorem q_X6_startAgain_14_at6 (ρ : Nat × (Nat → Int32)) (σ : rd_Sg) (x1 : Int32) : rd_R ρ 75 6 [some (.ref 14), some (.int x1)] [] σ = (if x1 < 240 then (rd_chk x1 240 (rd_R ρ 75 6 [some (.ref 14), some (.int (x1 + 1))] [] (rd_u σ 26 x1.toNatClampNeg (0 &&& 1)))) else some (0, σ)) := by
  refine (r_iload_n L_75_6 rfl).trans ?_
  refine (r_aload_n L_75_7 rfl).trans ?_
  refine (r_getfr L_75_8 gf_14_7).trans ?_
  refine (r_alen L_75_9 ar_26 kn_240).trans ?_
  refine (r_cmpge L_75_10).trans ?_
  refine it_c ?_ ?_
  · refine (r_aload_n L_75_11 rfl).trans ?_
    refine (r_getfr L_75_12 gf_14_7).trans ?_
    refine (r_iload_n L_75_13 rfl).trans ?_
    refine (r_iconst L_75_14 ki_0).trans ?_
    refine (r_zast L_75_15 ar_26).trans ?_
    refine ck_c ?_
    refine (r_iinc L_75_16 rfl ki_1 rfl).trans ?_
    refine (r_goto L_75_17).trans ?_
    rfl
  · exact r_retv L_75_18
set_option maxRecDepth 100000 in
set_option maxHeartbeats 4000000 in
theorem q_X0_emptyTold_56 (ρ : Nat × (Nat → Int32)) (σ : rd_Sg) : rd_R ρ 13 0 [some (.ref 56)] [] σ = some (0, (rd_u σ 56 8 0)) := by
  refine (r_aload_n L_13_0 rfl).trans ?_
  refine (r_iconst L_13_1 ki_0).trans ?_
  refine (r_putfi L_13_2 gf_56_8).trans ?_
  exact r_retv L_13_3
set_option maxRecDepth 100000 in
set_option maxHeartbeats 4000000 in
theorem q_J7_fill_53178_32 (ρ : Nat × (Nat → Int32)) (σ : rd_Sg) (x1 : Int32) : rd_R ρ 193 0 [some (.ref 32), some (.int x1), none, none] [] σ = rd_R ρ 193 5 [some (.ref 32), some (.int x1), some (.int 0), some (.int 6)] [] σ := by
  refine (r_iconst L_193_0 ki_0).trans ?_
  refine (r_istore_n L_193_1 rfl).trans ?_
  refine (r_aload_n L_193_2 rfl).trans ?_
  refine (r_alen L_193_3 ar_32 kn_6).trans ?_
  refine (r_istore_n L_193_4 rfl).trans ?_
  rfl
set_option maxRecDepth 100000 in
set_option maxHeartbeats 4000000 in
theorem q_J7_fill_53178_32_at5 (ρ : Nat × (Nat → Int32)) (σ : rd_Sg) (x1 x2 x3 : Int32) : rd_R ρ 193 5 [some (.ref 32), some (.int x1), some (.int x2), some (.int x3)] [] σ = (if x2 < x3 then (rd_chk x2 6 (rd_R ρ 193 5 [some (.ref 32), some (.int x1), some (.int (x2 + 1)), some (.int x3)] [] (rd_u σ 32 x2.toNatClampNeg x1))) else some (0, σ)) := by
  refine (r_iload_n L_193_5 rfl).trans ?_
  refine (r_iload_n L_193_6 rfl).trans ?_
  refine (r_cmpge L_193_7).trans ?_
  refine it_c ?_ ?_
  · refine (r_aload_n L_193_8 rfl).trans ?_
    refine (r_iload_n L_193_9 rfl).trans ?_
    refine (r_iload_n L_193_10 rfl).trans ?_
    refine (r_iast L_193_11 ar_32).trans ?_
    refine ck_c ?_
    refine (r_iinc L_193_12 rfl ki_1 rfl).trans ?_
    refine (r_goto L_193_13).trans ?_
    rfl
  · exact r_retv L_193_14
set_option maxRecDepth 100000 in
set_option maxHeartbeats 4000000 in
theorem q_X3_inherit_1 (ρ : Nat × (Nat → Int32)) (σ : rd_Sg) (x1 x2 : Int32) : rd_R ρ 36 0 [some (.ref 1), some (.int x1), some (.int x2), none, none] [] σ = (rd_chk x1 12 ((rd_chk x2 12 ((rd_chk x1 12 ((rd_chk x2 12 ((rd_chk x1 12 ((if (x2 * 8) < 0 ∨ (x1 * 8) < 0 ∨ (8 : Int32) < 0 ∨ 96 < (x2 * 8).toNatClampNeg + (8 : Int32).toNatClampNeg ∨ 96 < (x1 * 8).toNatClampNeg + (8 : Int32).toNatClampNeg then none else (if (x2 * 8) < 0 ∨ (x1 * 8) < 0 ∨ (8 : Int32) < 0 ∨ 96 < (x2 * 8).toNatClampNeg + (8 : Int32).toNatClampNeg ∨ 96 < (x1 * 8).toNatClampNeg + (8 : Int32).toNatClampNeg then none else (if (x2 * 8) < 0 ∨ (x1 * 8) < 0 ∨ (8 : Int32) < 0 ∨ 96 < (x2 * 8).toNatClampNeg + (8 : Int32).toNatClampNeg ∨ 96 < (x1 * 8).toNatClampNeg + (8 : Int32).toNatClampNeg then none else (if (x2 * 8) < 0 ∨ (x1 * 8) < 0 ∨ (8 : Int32) < 0 ∨ 96 < (x2 * 8).toNatClampNeg + (8 : Int32).toNatClampNeg ∨ 96 < (x1 * 8).toNatClampNeg + (8 : Int32).toNatClampNeg then none else (rd_chk x2 12 (some (0, (rd_u (rd_uc (rd_uc (rd_uc (rd_uc (rd_u (rd_u σ 3 x1.toNatClampNeg ((σ 3 x1.toNatClampNeg) ||| (σ 3 x2.toNatClampNeg))) 2 x1.toNatClampNeg (σ 2 x2.toNatClampNeg)) 5 (va_cpy (σ 5) (σ 5) (x2 * 8).toNatClampNeg (x1 * 8).toNatClampNeg (8 : Int32).toNatClampNeg)) 6 (va_cpy (σ 6) (σ 6) (x2 * 8).toNatClampNeg (x1 * 8).toNatClampNeg (8 : Int32).toNatClampNeg)) 7 (va_cpy (σ 7) (σ 7) (x2 * 8).toNatClampNeg (x1 * 8).toNatClampNeg (8 : Int32).toNatClampNeg)) 8 (va_cpy (σ 8) (σ 8) (x2 * 8).toNatClampNeg (x1 * 8).toNatClampNeg (8 : Int32).toNatClampNeg)) 4 x2.toNatClampNeg (1 &&& 1))))))))))))))))))) := by
  refine (r_iload_n L_36_0 rfl).trans ?_
  refine (r_bipush L_36_1 kb_8).trans ?_
  refine (r_imul L_36_2).trans ?_
  refine (r_istore_n L_36_3 rfl).trans ?_
  refine (r_iload_n L_36_4 rfl).trans ?_
  refine (r_bipush L_36_5 kb_8).trans ?_
  refine (r_imul L_36_6).trans ?_
  refine (r_istore L_36_7 rfl).trans ?_
  refine (r_aload_n L_36_8 rfl).trans ?_
  refine (r_getfr L_36_9 gf_1_2).trans ?_
  refine (r_iload_n L_36_10 rfl).trans ?_
  refine (r_dup2 L_36_11).trans ?_
  refine (r_iald L_36_12 ar_3).trans ?_
  refine ck_c ?_
  refine (r_aload_n L_36_13 rfl).trans ?_
  refine (r_getfr L_36_14 gf_1_2).trans ?_
  refine (r_iload_n L_36_15 rfl).trans ?_
  refine (r_iald L_36_16 ar_3).trans ?_
  refine ck_c ?_
  refine (r_ior L_36_17).trans ?_
  refine (r_iast L_36_18 ar_3).trans ?_
  refine ck_c ?_
  refine (r_aload_n L_36_19 rfl).trans ?_
  refine (r_getfr L_36_20 gf_1_1).trans ?_
  refine (r_iload_n L_36_21 rfl).trans ?_
  refine (r_aload_n L_36_22 rfl).trans ?_
  refine (r_getfr L_36_23 gf_1_1).trans ?_
  refine (r_iload_n L_36_24 rfl).trans ?_
  refine (r_ialdv L_36_25 ar_2 (rd_un (by decide))).trans ?_
  refine ck_c ?_
  refine (r_iast L_36_26 ar_2).trans ?_
  refine ck_c ?_
  refine (r_aload_n L_36_27 rfl).trans ?_
  refine (r_getfr L_36_28 gf_1_4).trans ?_
  refine (r_iload L_36_29 rfl).trans ?_
  refine (r_aload_n L_36_30 rfl).trans ?_
  refine (r_getfr L_36_31 gf_1_4).trans ?_
  refine (r_iload_n L_36_32 rfl).trans ?_
  refine (r_bipush L_36_33 kb_8).trans ?_
  refine (r_copyv L_36_34 ar_5 ar_5 ((rd_u_o 5 (by decide)).trans (rd_u_o 5 (by decide))) ((rd_u_o 5 (by decide)).trans (rd_u_o 5 (by decide)))).trans ?_
  refine it_c rfl ?_
  refine (r_aload_n L_36_35 rfl).trans ?_
  refine (r_getfr L_36_36 gf_1_5).trans ?_
  refine (r_iload L_36_37 rfl).trans ?_
  refine (r_aload_n L_36_38 rfl).trans ?_
  refine (r_getfr L_36_39 gf_1_5).trans ?_
  refine (r_iload_n L_36_40 rfl).trans ?_
  refine (r_bipush L_36_41 kb_8).trans ?_
  refine (r_copyv L_36_42 ar_6 ar_6 ((rd_uc_o 6 (by decide)).trans ((rd_u_o 6 (by decide)).trans (rd_u_o 6 (by decide)))) ((rd_uc_o 6 (by decide)).trans ((rd_u_o 6 (by decide)).trans (rd_u_o 6 (by decide))))).trans ?_
  refine it_c rfl ?_
  refine (r_aload_n L_36_43 rfl).trans ?_
  refine (r_getfr L_36_44 gf_1_6).trans ?_
  refine (r_iload L_36_45 rfl).trans ?_
  refine (r_aload_n L_36_46 rfl).trans ?_
  refine (r_getfr L_36_47 gf_1_6).trans ?_
  refine (r_iload_n L_36_48 rfl).trans ?_
  refine (r_bipush L_36_49 kb_8).trans ?_
  refine (r_copyv L_36_50 ar_7 ar_7 ((rd_uc_o 7 (by decide)).trans ((rd_uc_o 7 (by decide)).trans ((rd_u_o 7 (by decide)).trans (rd_u_o 7 (by decide))))) ((rd_uc_o 7 (by decide)).trans ((rd_uc_o 7 (by decide)).trans ((rd_u_o 7 (by decide)).trans (rd_u_o 7 (by decide)))))).trans ?_
  refine it_c rfl ?_
  refine (r_aload_n L_36_51 rfl).trans ?_
  refine (r_getfr L_36_52 gf_1_7).trans ?_
  refine (r_iload L_36_53 rfl).trans ?_
  refine (r_aload_n L_36_54 rfl).trans ?_
  refine (r_getfr L_36_55 gf_1_7).trans ?_
  refine (r_iload_n L_36_56 rfl).trans ?_
  refine (r_bipush L_36_57 kb_8).trans ?_
  refine (r_copyv L_36_58 ar_8 ar_8 ((rd_uc_o 8 (by decide)).trans ((rd_uc_o 8 (by decide)).trans ((rd_uc_o 8 (by decide)).trans ((rd_u_o 8 (by decide)).trans (rd_u_o 8 (by decide)))))) ((rd_uc_o 8 (by decide)).trans ((rd_uc_o 8 (by decide)).trans ((rd_uc_o 8 (by decide)).trans ((rd_u_o 8 (by decide)).trans (rd_u_o 8 (by decide))))))).trans ?_
  refine it_c rfl ?_
  refine (r_aload_n L_36_59 rfl).trans ?_
  refine (r_getfr L_36_60 gf_1_3).trans ?_
  refine (r_iload_n L_36_61 rfl).trans ?_
  refine (r_iconst L_36_62 ki_1).trans ?_
  refine (r_zast L_36_63 ar_4).trans ?_
  refine ck_c ?_
  exact r_retv L_36_64
set_option maxRecDepth 100000 in
set_option maxHeartbeats 4000000 in
theorem q_X3_lineage_1 (ρ : Nat × (Nat → Int32)) (σ : rd_Sg) (x1 : Int32) : rd_R ρ 41 0 [some (.ref 1), some (.int x1)] [] σ = (rd_chk x1 12 (some ((σ 3 x1.toNatClampNeg), σ))) := by
  refine (r_aload_n L_41_0 rfl).trans ?_
  refine (r_getfr L_41_1 gf_1_2).trans ?_
  refine (r_iload_n L_41_2 rfl).trans ?_
  refine (r_iald L_41_3 ar_3).trans ?_
  refine ck_c ?_
  exact r_ret L_41_4 mz_41
set_option maxRecDepth 100000 in
set_option maxHeartbeats 4000000 in
theorem q_X3_fix_1 (ρ : Nat × (Nat → Int32)) (σ : rd_Sg) (x1 : Int32) : rd_R ρ 38 0 [some (.ref 1), some (.int x1)] [] σ = (rd_chk x1 12 (some (0, (rd_u σ 4 x1.toNatClampNeg (1 &&& 1))))) := by
  refine (r_aload_n L_38_0 rfl).trans ?_
  refine (r_getfr L_38_1 gf_1_3).trans ?_
  refine (r_iload_n L_38_2 rfl).trans ?_
  refine (r_iconst L_38_3 ki_1).trans ?_
  refine (r_zast L_38_4 ar_4).trans ?_
  refine ck_c ?_
  exact r_retv L_38_5
set_option maxRecDepth 100000 in
set_option maxHeartbeats 4000000 in
theorem q_X3_signature_1 (ρ : Nat × (Nat → Int32)) (σ : rd_Sg) (x1 x2 : Int32) : rd_R ρ 42 0 [some (.ref 1), some (.int x1), some (.int x2)] [] σ = (if x2 < 0 then some (((-1) : Int32), σ) else (rd_chk x1 12 ((if x2 < (σ 2 x1.toNatClampNeg) then some (((x1 * 8) + x2), σ) else some (((-1) : Int32), σ))))) := by
  refine (r_iload_n L_42_0 rfl).trans ?_
  refine (r_iflt L_42_1).trans ?_
  refine it_c ?_ ?_
  · refine (r_iconst L_42_8 ki_m1).trans ?_
    exact r_ret L_42_9 mz_42
  · refine (r_iload_n L_42_2 rfl).trans ?_
    refine (r_aload_n L_42_3 rfl).trans ?_
    refine (r_getfr L_42_4 gf_1_1).trans ?_
    refine (r_iload_n L_42_5 rfl).trans ?_
    refine (r_iald L_42_6 ar_2).trans ?_
    refine ck_c ?_
    refine (r_cmplt L_42_7).trans ?_
    refine it_c ?_ ?_
    · refine (r_iload_n L_42_10 rfl).trans ?_
      refine (r_bipush L_42_11 kb_8).trans ?_
      refine (r_imul L_42_12).trans ?_
      refine (r_iload_n L_42_13 rfl).trans ?_
      refine (r_iadd L_42_14).trans ?_
      exact r_ret L_42_15 mz_42
    · refine (r_iconst L_42_8 ki_m1).trans ?_
      exact r_ret L_42_9 mz_42
set_option maxRecDepth 100000 in
set_option maxHeartbeats 4000000 in
theorem q_X3_takesStand_1 (ρ : Nat × (Nat → Int32)) (σ : rd_Sg) (x1 x2 : Int32) : rd_R ρ 44 0 [some (.ref 1), some (.int x1), some (.int x2)] [] σ = ((rd_R ρ 43 0 [some (.ref 1), some (.int x1), some (.int x2)] [] σ).bind fun q0 => (if q0.1 = 0 then some (0, q0.2) else (rd_chk x1 96 ((if (((q0.2 6 x1.toNatClampNeg) >>> (x2 &&& 31)) &&& 1) = 1 then some (1, q0.2) else some (0, q0.2)))))) := by
  refine (r_aload_n L_44_0 rfl).trans ?_
  refine (r_iload_n L_44_1 rfl).trans ?_
  refine (r_iload_n L_44_2 rfl).trans ?_
  refine (r_callV L_44_3 rfl isI_43 rfl).trans ?_
  refine bi_c (fun q0 => ?_)
  refine (r_ifeq L_44_4).trans ?_
  refine it_c ?_ ?_
  · refine (r_iconst L_44_17 ki_0).trans ?_
    exact r_ret0 L_44_18 mz_44
  · refine (r_aload_n L_44_5 rfl).trans ?_
    refine (r_getfr L_44_6 gf_1_5).trans ?_
    refine (r_iload_n L_44_7 rfl).trans ?_
    refine (r_iald L_44_8 ar_6).trans ?_
    refine ck_c ?_
    refine (r_iload_n L_44_9 rfl).trans ?_
    refine (r_ishr L_44_10).trans ?_
    refine (r_iconst L_44_11 ki_1).trans ?_
    refine (r_iand L_44_12).trans ?_
    refine (r_iconst L_44_13 ki_1).trans ?_
    refine (r_cmpne L_44_14).trans ?_
    refine it_c ?_ ?_
    · refine (r_iconst L_44_15 ki_1).trans ?_
      refine (r_goto L_44_16).trans ?_
      exact r_ret1 L_44_18 mz_44
    · refine (r_iconst L_44_17 ki_0).trans ?_
      exact r_ret0 L_44_18 mz_44
set_option maxRecDepth 100000 in
set_option maxHeartbeats 4000000 in
theorem q_X5_isCondition_15 (ρ : Nat × (Nat → Int32)) (σ : rd_Sg) (x1 x2 x3 : Int32) : rd_R ρ 62 0 [some (.ref 15), some (.int x1), some (.int x2), some (.int x3)] [] σ = (if x2 = 0 then some (1, σ) else (if x2 = 1 then (if x1 = 0 then some (1, σ) else ((rd_R ρ 88 0 [some (.ref 9), some (.int x3)] [] σ).bind fun q2 => (if q2.1 = 0 then some (0, q2.2) else some (1, q2.2)))) else (if x2 = 2 then (if x1 = 0 then some (1, σ) else some (0, σ)) else (if x2 = 3 then (if x1 = 0 then some (1, σ) else ((rd_R ρ 88 0 [some (.ref 9), some (.int x3)] [] σ).bind fun q2 => (if q2.1 = 0 then some (0, q2.2) else some (1, q2.2)))) else (if x2 = 4 then (if x1 = 0 then some (0, σ) else ((rd_R ρ 34 0 [some (.ref 1), some (.int x3)] [] σ).bind fun q2 => (if q2.1 = 0 then some (0, q2.2) else some (1, q2.2)))) else (if x2 = 5 then some (x1 &&& 1, σ) else (if x2 = 6 then some (1, σ) else some (0, σ)))))))) := by
  refine (r_iload_n L_62_0 rfl).trans ?_
  refine (r_tsw L_62_1).trans ?_
  refine (r_swc ki_0 rfl).trans ?_
  refine it_c ?_ ?_
  · refine (r_iconst L_62_2 ki_1).trans ?_
    exact r_ret1 L_62_3 mz_62
  · refine (r_swc ki_1 rfl).trans ?_
    refine it_c ?_ ?_
    · refine (r_iload_n L_62_4 rfl).trans ?_
      refine (r_ifeq L_62_5).trans ?_
      refine it_c ?_ ?_
      · refine (r_iconst L_62_11 ki_1).trans ?_
        refine (r_goto L_62_12).trans ?_
        exact r_ret1 L_62_14 mz_62
      · refine (r_aload_n L_62_6 rfl).trans ?_
        refine (r_getfr L_62_7 gf_15_2).trans ?_
        refine (r_iload_n L_62_8 rfl).trans ?_
        refine (r_callV L_62_9 rfl isI_88 rfl).trans ?_
        refine bi_c (fun q2 => ?_)
        refine (r_ifeq L_62_10).trans ?_
        refine it_c ?_ ?_
        · refine (r_iconst L_62_13 ki_0).trans ?_
          exact r_ret0 L_62_14 mz_62
        · refine (r_iconst L_62_11 ki_1).trans ?_
          refine (r_goto L_62_12).trans ?_
          exact r_ret1 L_62_14 mz_62
    · refine (r_swc ki_2 rfl).trans ?_
      refine it_c ?_ ?_
      · refine (r_iload_n L_62_15 rfl).trans ?_
        refine (r_ifne L_62_16).trans ?_
        refine it_c ?_ ?_
        · refine (r_iconst L_62_17 ki_1).trans ?_
          refine (r_goto L_62_18).trans ?_
          exact r_ret1 L_62_20 mz_62
        · refine (r_iconst L_62_19 ki_0).trans ?_
          exact r_ret0 L_62_20 mz_62
      · refine (r_swc ki_3 rfl).trans ?_
        refine it_c ?_ ?_
        · refine (r_iload_n L_62_21 rfl).trans ?_
          refine (r_ifeq L_62_22).trans ?_
          refine it_c ?_ ?_
          · refine (r_iconst L_62_28 ki_1).trans ?_
            refine (r_goto L_62_29).trans ?_
            exact r_ret1 L_62_31 mz_62
          · refine (r_aload_n L_62_23 rfl).trans ?_
            refine (r_getfr L_62_24 gf_15_2).trans ?_
            refine (r_iload_n L_62_25 rfl).trans ?_
            refine (r_callV L_62_26 rfl isI_88 rfl).trans ?_
            refine bi_c (fun q2 => ?_)
            refine (r_ifeq L_62_27).trans ?_
            refine it_c ?_ ?_
            · refine (r_iconst L_62_30 ki_0).trans ?_
              exact r_ret0 L_62_31 mz_62
            · refine (r_iconst L_62_28 ki_1).trans ?_
              refine (r_goto L_62_29).trans ?_
              exact r_ret1 L_62_31 mz_62
        · refine (r_swc ki_4 rfl).trans ?_
          refine it_c ?_ ?_
          · refine (r_iload_n L_62_32 rfl).trans ?_
            refine (r_ifeq L_62_33).trans ?_
            refine it_c ?_ ?_
            · refine (r_iconst L_62_41 ki_0).trans ?_
              exact r_ret0 L_62_42 mz_62
            · refine (r_aload_n L_62_34 rfl).trans ?_
              refine (r_getfr L_62_35 gf_15_1).trans ?_
              refine (r_iload_n L_62_36 rfl).trans ?_
              refine (r_callV L_62_37 rfl isI_34 rfl).trans ?_
              refine bi_c (fun q2 => ?_)
              refine (r_ifeq L_62_38).trans ?_
              refine it_c ?_ ?_
              · refine (r_iconst L_62_41 ki_0).trans ?_
                exact r_ret0 L_62_42 mz_62
              · refine (r_iconst L_62_39 ki_1).trans ?_
                refine (r_goto L_62_40).trans ?_
                exact r_ret1 L_62_42 mz_62
          · refine (r_swc ki_5 rfl).trans ?_
            refine it_c ?_ ?_
            · refine (r_iload_n L_62_43 rfl).trans ?_
              exact r_retb L_62_44 mz_62
            · refine (r_swc ki_6 rfl).trans ?_
              refine it_c ?_ ?_
              · refine (r_iconst L_62_45 ki_1).trans ?_
                exact r_ret1 L_62_46 mz_62
              · refine (r_swn).trans ?_
                refine (r_iconst L_62_47 ki_0).trans ?_
                exact r_ret0 L_62_48 mz_62
set_option maxRecDepth 100000 in
set_option maxHeartbeats 4000000 in
theorem q_X5_signature_15 (ρ : Nat × (Nat → Int32)) (σ : rd_Sg) (x1 : Int32) : rd_R ρ 58 0 [some (.ref 15), some (.int x1)] [] σ = (rd_chk x1 80 (some ((σ 18 x1.toNatClampNeg), σ))) := by
  refine (r_aload_n L_58_0 rfl).trans ?_
  refine (r_getfr L_58_1 gf_15_6).trans ?_
  refine (r_iload_n L_58_2 rfl).trans ?_
  refine (r_iald L_58_3 ar_18).trans ?_
  refine ck_c ?_
  exact r_ret L_58_4 mz_58
set_option maxRecDepth 100000 in
set_option maxHeartbeats 4000000 in
theorem q_X3_takes_1 (ρ : Nat × (Nat → Int32)) (σ : rd_Sg) (x1 x2 : Int32) : rd_R ρ 43 0 [some (.ref 1), some (.int x1), some (.int x2)] [] σ = (if x2 < 0 then some (0, σ) else (rd_chk x1 96 ((if x2 < (σ 5 x1.toNatClampNeg) then some (1, σ) else some (0, σ))))) := by
  refine (r_iload_n L_43_0 rfl).trans ?_
  refine (r_iflt L_43_1).trans ?_
  refine it_c ?_ ?_
  · refine (r_iconst L_43_10 ki_0).trans ?_
    exact r_ret0 L_43_11 mz_43
  · refine (r_iload_n L_43_2 rfl).trans ?_
    refine (r_aload_n L_43_3 rfl).trans ?_
    refine (r_getfr L_43_4 gf_1_4).trans ?_
    refine (r_iload_n L_43_5 rfl).trans ?_
    refine (r_iald L_43_6 ar_5).trans ?_
    refine ck_c ?_
    refine (r_cmpge L_43_7).trans ?_
    refine it_c ?_ ?_
    · refine (r_iconst L_43_8 ki_1).trans ?_
      refine (r_goto L_43_9).trans ?_
      exact r_ret1 L_43_11 mz_43
    · refine (r_iconst L_43_10 ki_0).trans ?_
      exact r_ret0 L_43_11 mz_43
set_option maxRecDepth 100000 in
set_option maxHeartbeats 4000000 in
theorem q_X6_find_14_30 (ρ : Nat × (Nat → Int32)) (σ : rd_Sg) : rd_R ρ 68 0 [some (.ref 14), some (.ref 30), none] [] σ = ((rd_R ρ 55 0 [some (.ref 15)] [] σ).bind fun q0 => rd_R ρ 68 6 [some (.ref 14), some (.ref 30), some (.int (q0.1 - 1))] [] q0.2) := by
  refine (r_aload_n L_68_0 rfl).trans ?_
  refine (r_getfr L_68_1 gf_14_0).trans ?_
  refine (r_callV L_68_2 rfl isI_55 rfl).trans ?_
  refine bi_c (fun q0 => ?_)
  refine (r_iconst L_68_3 ki_1).trans ?_
  refine (r_isub L_68_4).trans ?_
  refine (r_istore_n L_68_5 rfl).trans ?_
  rfl
set_option maxRecDepth 100000 in
set_option maxHeartbeats 4000000 in
theorem q_X6_find_14_30_at6 (ρ : Nat × (Nat → Int32)) (σ : rd_Sg) (x2 : Int32) : rd_R ρ 68 6 [some (.ref 14), some (.ref 30), some (.int x2)] [] σ = (if x2 < 0 then some (((-1) : Int32), σ) else (rd_chk x2 80 ((if 0 < (σ 22 x2.toNatClampNeg) then ((rd_R ρ 63 0 [some (.ref 15), some (.int x2), some (.ref 30), some (.int 0), none] [] σ).bind fun q2 => (if q2.1 = 0 then rd_R ρ 68 22 [some (.ref 14), some (.ref 30), some (.int x2)] [] q2.2 else some (x2, q2.2))) else rd_R ρ 68 22 [some (.ref 14), some (.ref 30), some (.int x2)] [] σ)))) := by
  refine (r_iload_n L_68_6 rfl).trans ?_
  refine (r_iflt L_68_7).trans ?_
  refine it_c ?_ ?_
  · refine (r_iconst L_68_24 ki_m1).trans ?_
    exact r_ret L_68_25 mz_68
  · refine (r_aload_n L_68_8 rfl).trans ?_
    refine (r_getfr L_68_9 gf_14_3).trans ?_
    refine (r_iload_n L_68_10 rfl).trans ?_
    refine (r_iald L_68_11 ar_22).trans ?_
    refine ck_c ?_
    refine (r_ifle L_68_12).trans ?_
    refine it_c ?_ ?_
    · refine (r_aload_n L_68_13 rfl).trans ?_
      refine (r_getfr L_68_14 gf_14_0).trans ?_
      refine (r_iload_n L_68_15 rfl).trans ?_
      refine (r_aload_n L_68_16 rfl).trans ?_
      refine (r_iconst L_68_17 ki_0).trans ?_
      refine (r_callV L_68_18 rfl isI_63 rfl).trans ?_
      refine bi_c (fun q2 => ?_)
      refine (r_ifeq L_68_19).trans ?_
      refine it_c ?_ ?_
      · rfl
      · refine (r_iload_n L_68_20 rfl).trans ?_
        exact r_ret L_68_21 mz_68
    · rfl
set_option maxRecDepth 100000 in
set_option maxHeartbeats 4000000 in
theorem q_X6_find_14_30_at22 (ρ : Nat × (Nat → Int32)) (σ : rd_Sg) (x2 : Int32) : rd_R ρ 68 22 [some (.ref 14), some (.ref 30), some (.int x2)] [] σ = rd_R ρ 68 6 [some (.ref 14), some (.ref 30), some (.int (x2 + (-1)))] [] σ := by
  refine (r_iinc L_68_22 rfl ki_m1 rfl).trans ?_
  refine (r_goto L_68_23).trans ?_
  rfl
set_option maxRecDepth 100000 in
set_option maxHeartbeats 4000000 in
theorem q_X3_gives_1 (ρ : Nat × (Nat → Int32)) (σ : rd_Sg) (x1 : Int32) : rd_R ρ 45 0 [some (.ref 1), some (.int x1)] [] σ = (rd_chk x1 96 (some ((σ 7 x1.toNatClampNeg), σ))) := by
  refine (r_aload_n L_45_0 rfl).trans ?_
  refine (r_getfr L_45_1 gf_1_6).trans ?_
  refine (r_iload_n L_45_2 rfl).trans ?_
  refine (r_iald L_45_3 ar_7).trans ?_
  refine ck_c ?_
  exact r_ret L_45_4 mz_45
set_option maxRecDepth 100000 in
set_option maxHeartbeats 4000000 in
theorem q_X7_callThrough_31 (ρ : Nat × (Nat → Int32)) (σ : rd_Sg) : rd_R ρ 81 0 [some (.ref 31), none, none] [] σ = ((rd_R ρ 91 0 [some (.ref 9), some (.int (σ 30 0))] [] σ).bind fun q0 => (if q0.1 = (-1) then some (0, (rd_u q0.2 30 5 3)) else (rd_chk q0.1 6 ((if ((q0.2 32 (q0.1).toNatClampNeg) + (q0.2 31 7)) < 0 then ((rd_R ρ 85 0 [some (.ref 31), some (.int 7), none] [] q0.2).bind fun q3 => some (0, q3.2)) else (if 255 < ((q0.2 32 (q0.1).toNatClampNeg) + (q0.2 31 7)) then ((rd_R ρ 85 0 [some (.ref 31), some (.int 7), none] [] q0.2).bind fun q4 => some (0, q4.2)) else (rd_chk q0.1 6 (((rd_R ρ 83 0 [some (.ref 31), some (.int ((q0.2 32 (q0.1).toNatClampNeg) + (q0.2 31 7)))] [] (rd_u q0.2 32 (q0.1).toNatClampNeg ((q0.2 32 (q0.1).toNatClampNeg) + (q0.2 31 7)))).bind fun q4 => some (0, q4.2)))))))))) := by
  refine (r_aload_n L_81_0 rfl).trans ?_
  refine (r_getfr L_81_1 gf_31_1).trans ?_
  refine (r_aload_n L_81_2 rfl).trans ?_
  refine (r_getfr L_81_3 gf_31_4).trans ?_
  refine (r_iconst L_81_4 ki_0).trans ?_
  refine (r_ialdc (m := 0) L_81_5 ar_30 (by decide)).trans ?_
  refine (r_callV L_81_6 rfl isI_91 rfl).trans ?_
  refine bi_c (fun q0 => ?_)
  refine (r_istore_n L_81_7 rfl).trans ?_
  refine (r_iload_n L_81_8 rfl).trans ?_
  refine (r_iconst L_81_9 ki_m1).trans ?_
  refine (r_cmpne L_81_10).trans ?_
  refine it_c ?_ ?_
  · refine (r_aload_n L_81_11 rfl).trans ?_
    refine (r_getfr L_81_12 gf_31_4).trans ?_
    refine (r_iconst L_81_13 ki_5).trans ?_
    refine (r_iconst L_81_14 ki_3).trans ?_
    refine (r_iastc (m := 5) L_81_15 ar_30 (by decide)).trans ?_
    exact r_retv L_81_16
  · refine (r_aload_n L_81_17 rfl).trans ?_
    refine (r_getfr L_81_18 gf_31_5).trans ?_
    refine (r_iload_n L_81_19 rfl).trans ?_
    refine (r_iald L_81_20 ar_32).trans ?_
    refine ck_c ?_
    refine (r_aload_n L_81_21 rfl).trans ?_
    refine (r_getfi L_81_22 gf_31_7).trans ?_
    refine (r_iadd L_81_23).trans ?_
    refine (r_istore_n L_81_24 rfl).trans ?_
    refine (r_iload_n L_81_25 rfl).trans ?_
    refine (r_iflt L_81_26).trans ?_
    refine it_c ?_ ?_
    · refine (r_aload_n L_81_30 rfl).trans ?_
      refine (r_bipush L_81_31 kb_7).trans ?_
      refine (r_callVv L_81_32 rfl isI_85 (by decide) rfl).trans ?_
      refine bi_c (fun q3 => ?_)
      exact r_retv L_81_33
    · refine (r_iload_n L_81_27 rfl).trans ?_
      refine (r_sipush L_81_28 ks_255).trans ?_
      refine (r_cmple L_81_29).trans ?_
      refine it_c ?_ ?_
      · refine (r_aload_n L_81_30 rfl).trans ?_
        refine (r_bipush L_81_31 kb_7).trans ?_
        refine (r_callVv L_81_32 rfl isI_85 (by decide) rfl).trans ?_
        refine bi_c (fun q4 => ?_)
        exact r_retv L_81_33
      · refine (r_aload_n L_81_34 rfl).trans ?_
        refine (r_getfr L_81_35 gf_31_5).trans ?_
        refine (r_iload_n L_81_36 rfl).trans ?_
        refine (r_iload_n L_81_37 rfl).trans ?_
        refine (r_iast L_81_38 ar_32).trans ?_
        refine ck_c ?_
        refine (r_aload_n L_81_39 rfl).trans ?_
        refine (r_iload_n L_81_40 rfl).trans ?_
        refine (r_callVv L_81_41 rfl isI_83 (by decide) rfl).trans ?_
        refine bi_c (fun q4 => ?_)
        exact r_retv L_81_42
set_option maxRecDepth 100000 in
set_option maxHeartbeats 4000000 in
theorem q_X4_keepLatest_28 (ρ : Nat × (Nat → Int32)) (σ : rd_Sg) : rd_R ρ 52 0 [some (.ref 28)] [] σ = (if (σ 28 3) < 500 then (if (0 : Int32) < 0 ∨ ((σ 28 3) * 9) < 0 ∨ (9 : Int32) < 0 ∨ 9 < (0 : Int32).toNatClampNeg + (9 : Int32).toNatClampNeg ∨ 4500 < ((σ 28 3) * 9).toNatClampNeg + (9 : Int32).toNatClampNeg then none else some (0, (rd_u (rd_uc (rd_u σ 28 2 1) 29 (va_cpy (σ 30) (σ 29) (0 : Int32).toNatClampNeg ((σ 28 3) * 9).toNatClampNeg (9 : Int32).toNatClampNeg)) 28 3 ((σ 28 3) + 1)))) else some (0, (rd_u (rd_u σ 28 2 1) 28 4 ((σ 28 4) + 1)))) := by
  refine (r_aload_n L_52_0 rfl).trans ?_
  refine (r_iconst L_52_1 ki_1).trans ?_
  refine (r_putfz L_52_2 gf_28_2 (by decide)).trans ?_
  refine (r_aload_n L_52_3 rfl).trans ?_
  refine (r_getfiv L_52_4 gf_28_3 (rd_uj (by decide))).trans ?_
  refine (r_sipush L_52_5 ks_500).trans ?_
  refine (r_cmplt L_52_6).trans ?_
  refine it_c ?_ ?_
  · refine (r_aload_n L_52_14 rfl).trans ?_
    refine (r_getfr L_52_15 gf_28_1).trans ?_
    refine (r_iconst L_52_16 ki_0).trans ?_
    refine (r_aload_n L_52_17 rfl).trans ?_
    refine (r_getfr L_52_18 gf_28_0).trans ?_
    refine (r_aload_n L_52_19 rfl).trans ?_
    refine (r_getfiv L_52_20 gf_28_3 (rd_uj (by decide))).trans ?_
    refine (r_bipush L_52_21 kb_9).trans ?_
    refine (r_imul L_52_22).trans ?_
    refine (r_bipush L_52_23 kb_9).trans ?_
    refine (r_copyv L_52_24 ar_30 ar_29 (rd_u_o 30 (by decide)) (rd_u_o 29 (by decide))).trans ?_
    refine it_c rfl ?_
    refine (r_aload_n L_52_25 rfl).trans ?_
    refine (r_dupr L_52_26).trans ?_
    refine (r_getfiv L_52_27 gf_28_3 ((rd_ucn (by decide)).trans (rd_uj (by decide)))).trans ?_
    refine (r_iconst L_52_28 ki_1).trans ?_
    refine (r_iadd L_52_29).trans ?_
    refine (r_putfi L_52_30 gf_28_3).trans ?_
    exact r_retv L_52_31
  · refine (r_aload_n L_52_7 rfl).trans ?_
    refine (r_dupr L_52_8).trans ?_
    refine (r_getfiv L_52_9 gf_28_4 (rd_uj (by decide))).trans ?_
    refine (r_iconst L_52_10 ki_1).trans ?_
    refine (r_iadd L_52_11).trans ?_
    refine (r_putfi L_52_12 gf_28_4).trans ?_
    exact r_retv L_52_13
set_option maxRecDepth 100000 in
set_option maxHeartbeats 4000000 in
theorem q_X6_use_14_30 (ρ : Nat × (Nat → Int32)) (σ : rd_Sg) (x1 : Int32) : rd_R ρ 69 0 [some (.ref 14), some (.int x1), some (.ref 30), none] [] σ = rd_R ρ 69 2 [some (.ref 14), some (.int x1), some (.ref 30), some (.int 0)] [] σ := by
  refine (r_iconst L_69_0 ki_0).trans ?_
  refine (r_istore_n L_69_1 rfl).trans ?_
  rfl
set_option maxRecDepth 100000 in
set_option maxHeartbeats 4000000 in
theorem q_X6_use_14_30_at2 (ρ : Nat × (Nat → Int32)) (σ : rd_Sg) (x1 x3 : Int32) : rd_R ρ 69 2 [some (.ref 14), some (.int x1), some (.ref 30), some (.int x3)] [] σ = (if x3 < 3 then ((rd_R ρ 60 0 [some (.ref 15), some (.int x1), some (.int x3)] [] σ).bind fun q1 => (if q1.1 = 0 then rd_R ρ 69 33 [some (.ref 14), some (.int x1), some (.ref 30), some (.int x3)] [] q1.2 else (rd_chk ((x1 * 3) + x3) 240 ((rd_chk (2 + x3) 9 ((rd_chk ((x1 * 3) + x3) 240 (rd_R ρ 69 33 [some (.ref 14), some (.int x1), some (.ref 30), some (.int x3)] [] (rd_u (rd_u q1.2 26 ((x1 * 3) + x3).toNatClampNeg (1 &&& 1)) 27 ((x1 * 3) + x3).toNatClampNeg (q1.2 30 (2 + x3).toNatClampNeg)))))))))) else (rd_chk x1 80 ((rd_chk x1 80 ((rd_chk x1 80 ((rd_chk x1 80 (some (((x1 * 6) + (if ((σ 22 x1.toNatClampNeg) - 1) < (σ 25 x1.toNatClampNeg) then ((σ 22 x1.toNatClampNeg) - 1) else (σ 25 x1.toNatClampNeg))), (rd_u σ 25 x1.toNatClampNeg (if 6 < ((σ 25 x1.toNatClampNeg) + 1) then 6 else ((σ 25 x1.toNatClampNeg) + 1))))))))))))) := by
  refine (r_iload_n L_69_2 rfl).trans ?_
  refine (r_iconst L_69_3 ki_3).trans ?_
  refine (r_cmpge L_69_4).trans ?_
  refine it_c ?_ ?_
  · refine (r_aload_n L_69_5 rfl).trans ?_
    refine (r_getfr L_69_6 gf_14_0).trans ?_
    refine (r_iload_n L_69_7 rfl).trans ?_
    refine (r_iload_n L_69_8 rfl).trans ?_
    refine (r_callV L_69_9 rfl isI_60 rfl).trans ?_
    refine bi_c (fun q1 => ?_)
    refine (r_ifeq L_69_10).trans ?_
    refine it_c ?_ ?_
    · rfl
    · refine (r_aload_n L_69_11 rfl).trans ?_
      refine (r_getfr L_69_12 gf_14_7).trans ?_
      refine (r_iload_n L_69_13 rfl).trans ?_
      refine (r_iconst L_69_14 ki_3).trans ?_
      refine (r_imul L_69_15).trans ?_
      refine (r_iload_n L_69_16 rfl).trans ?_
      refine (r_iadd L_69_17).trans ?_
      refine (r_iconst L_69_18 ki_1).trans ?_
      refine (r_zast L_69_19 ar_26).trans ?_
      refine ck_c ?_
      refine (r_aload_n L_69_20 rfl).trans ?_
      refine (r_getfr L_69_21 gf_14_8).trans ?_
      refine (r_iload_n L_69_22 rfl).trans ?_
      refine (r_iconst L_69_23 ki_3).trans ?_
      refine (r_imul L_69_24).trans ?_
      refine (r_iload_n L_69_25 rfl).trans ?_
      refine (r_iadd L_69_26).trans ?_
      refine (r_aload_n L_69_27 rfl).trans ?_
      refine (r_iconst L_69_28 ki_2).trans ?_
      refine (r_iload_n L_69_29 rfl).trans ?_
      refine (r_iadd L_69_30).trans ?_
      refine (r_ialdv L_69_31 ar_30 (rd_un (by decide))).trans ?_
      refine ck_c ?_
      refine (r_iast L_69_32 ar_27).trans ?_
      refine ck_c ?_
      rfl
  · refine (r_aload_n L_69_35 rfl).trans ?_
    refine (r_getfr L_69_36 gf_14_6).trans ?_
    refine (r_iload_n L_69_37 rfl).trans ?_
    refine (r_iald L_69_38 ar_25).trans ?_
    refine ck_c ?_
    refine (r_aload_n L_69_39 rfl).trans ?_
    refine (r_getfr L_69_40 gf_14_3).trans ?_
    refine (r_iload_n L_69_41 rfl).trans ?_
    refine (r_iald L_69_42 ar_22).trans ?_
    refine ck_c ?_
    refine (r_iconst L_69_43 ki_1).trans ?_
    refine (r_isub L_69_44).trans ?_
    refine (r_min L_69_45 rfl).trans ?_
    refine (r_istore_n L_69_46 rfl).trans ?_
    refine (r_aload_n L_69_47 rfl).trans ?_
    refine (r_getfr L_69_48 gf_14_6).trans ?_
    refine (r_iload_n L_69_49 rfl).trans ?_
    refine (r_aload_n L_69_50 rfl).trans ?_
    refine (r_getfr L_69_51 gf_14_6).trans ?_
    refine (r_iload_n L_69_52 rfl).trans ?_
    refine (r_iald L_69_53 ar_25).trans ?_
    refine ck_c ?_
    refine (r_iconst L_69_54 ki_1).trans ?_
    refine (r_iadd L_69_55).trans ?_
    refine (r_bipush L_69_56 kb_6).trans ?_
    refine (r_min L_69_57 rfl).trans ?_
    refine (r_iast L_69_58 ar_25).trans ?_
    refine ck_c ?_
    refine (r_iload_n L_69_59 rfl).trans ?_
    refine (r_bipush L_69_60 kb_6).trans ?_
    refine (r_imul L_69_61).trans ?_
    refine (r_iload_n L_69_62 rfl).trans ?_
    refine (r_iadd L_69_63).trans ?_
    exact r_ret L_69_64 mz_69
set_option maxRecDepth 100000 in
set_option maxHeartbeats 4000000 in
theorem q_X6_use_14_30_at33 (ρ : Nat × (Nat → Int32)) (σ : rd_Sg) (x1 x3 : Int32) : rd_R ρ 69 33 [some (.ref 14), some (.int x1), some (.ref 30), some (.int x3)] [] σ = rd_R ρ 69 2 [some (.ref 14), some (.int x1), some (.ref 30), some (.int (x3 + 1))] [] σ := by
  refine (r_iinc L_69_33 rfl ki_1 rfl).trans ?_
  refine (r_goto L_69_34).trans ?_
  rfl
set_option maxRecDepth 100000 in
set_option maxHeartbeats 4000000 in
theorem q_X7_answerBy_31 (ρ : Nat × (Nat → Int32)) (σ : rd_Sg) (x1 : Int32) : rd_R ρ 80 0 [some (.ref 31), some (.int x1), none] [] σ = ((rd_R ρ 71 0 [some (.ref 14), some (.int x1)] [] σ).bind fun q0 => ((rd_R ρ 70 0 [some (.ref 14), some (.int x1)] [] q0.2).bind fun q1 => (if q1.1 = 0 then ((rd_R ρ 83 0 [some (.ref 31), some (.int q0.1)] [] q1.2).bind fun q3 => some (0, q3.2)) else (if q1.1 = 1 then ((rd_R ρ 84 0 [some (.ref 31), some (.int q0.1)] [] q1.2).bind fun q3 => some (0, q3.2)) else (if q1.1 = 2 then ((rd_R ρ 85 0 [some (.ref 31), some (.int q0.1), none] [] q1.2).bind fun q3 => some (0, q3.2)) else (if q1.1 = 3 then ((rd_R ρ 83 0 [some (.ref 31), some (.int (q0.1 + (q1.2 31 7)))] [] q1.2).bind fun q3 => some (0, q3.2)) else (if q1.1 = 4 then ((rd_R ρ 82 0 [some (.ref 31), some (.int q0.1)] [] q1.2).bind fun q3 => some (0, q3.2)) else ((rd_R ρ 81 0 [some (.ref 31), none, none] [] q1.2).bind fun q3 => some (0, q3.2))))))))) := by
  refine (r_aload_n L_80_0 rfl).trans ?_
  refine (r_getfr L_80_1 gf_31_2).trans ?_
  refine (r_iload_n L_80_2 rfl).trans ?_
  refine (r_callV L_80_3 rfl isI_71 rfl).trans ?_
  refine bi_c (fun q0 => ?_)
  refine (r_istore_n L_80_4 rfl).trans ?_
  refine (r_aload_n L_80_5 rfl).trans ?_
  refine (r_getfr L_80_6 gf_31_2).trans ?_
  refine (r_iload_n L_80_7 rfl).trans ?_
  refine (r_callV L_80_8 rfl isI_70 rfl).trans ?_
  refine bi_c (fun q1 => ?_)
  refine (r_tsw L_80_9).trans ?_
  refine (r_swc ki_0 rfl).trans ?_
  refine it_c ?_ ?_
  · refine (r_aload_n L_80_10 rfl).trans ?_
    refine (r_iload_n L_80_11 rfl).trans ?_
    refine (r_callVv L_80_12 rfl isI_83 (by decide) rfl).trans ?_
    refine bi_c (fun q3 => ?_)
    refine (r_goto L_80_13).trans ?_
    exact r_retv L_80_35
  · refine (r_swc ki_1 rfl).trans ?_
    refine it_c ?_ ?_
    · refine (r_aload_n L_80_14 rfl).trans ?_
      refine (r_iload_n L_80_15 rfl).trans ?_
      refine (r_callVv L_80_16 rfl isI_84 (by decide) rfl).trans ?_
      refine bi_c (fun q3 => ?_)
      refine (r_goto L_80_17).trans ?_
      exact r_retv L_80_35
    · refine (r_swc ki_2 rfl).trans ?_
      refine it_c ?_ ?_
      · refine (r_aload_n L_80_18 rfl).trans ?_
        refine (r_iload_n L_80_19 rfl).trans ?_
        refine (r_callVv L_80_20 rfl isI_85 (by decide) rfl).trans ?_
        refine bi_c (fun q3 => ?_)
        refine (r_goto L_80_21).trans ?_
        exact r_retv L_80_35
      · refine (r_swc ki_3 rfl).trans ?_
        refine it_c ?_ ?_
        · refine (r_aload_n L_80_22 rfl).trans ?_
          refine (r_iload_n L_80_23 rfl).trans ?_
          refine (r_aload_n L_80_24 rfl).trans ?_
          refine (r_getfi L_80_25 gf_31_7).trans ?_
          refine (r_iadd L_80_26).trans ?_
          refine (r_callVv L_80_27 rfl isI_83 (by decide) rfl).trans ?_
          refine bi_c (fun q3 => ?_)
          refine (r_goto L_80_28).trans ?_
          exact r_retv L_80_35
        · refine (r_swc ki_4 rfl).trans ?_
          refine it_c ?_ ?_
          · refine (r_aload_n L_80_29 rfl).trans ?_
            refine (r_iload_n L_80_30 rfl).trans ?_
            refine (r_callVv L_80_31 rfl isI_82 (by decide) rfl).trans ?_
            refine bi_c (fun q3 => ?_)
            refine (r_goto L_80_32).trans ?_
            exact r_retv L_80_35
          · refine (r_swn).trans ?_
            refine (r_aload_n L_80_33 rfl).trans ?_
            refine (r_callVv L_80_34 rfl isI_81 (by decide) rfl).trans ?_
            refine bi_c (fun q3 => ?_)
            exact r_retv L_80_35
set_option maxRecDepth 100000 in
set_option maxHeartbeats 4000000 in
theorem q_X5_add_34 (ρ : Nat × (Nat → Int32)) (σ : rd_Sg) (x1 x2 x3 : Int32) : rd_R ρ 57 0 [some (.ref 34), some (.int x1), some (.int x2), some (.int x3), none] [] σ = (if (σ 34 3) < (σ 34 0) then (rd_chk (σ 34 3) 40 ((rd_chk (σ 34 3) 40 ((rd_chk (σ 34 3) 40 (some ((σ 34 3), (rd_u (rd_u (rd_u (rd_u σ 35 (σ 34 3).toNatClampNeg x1) 36 (σ 34 3).toNatClampNeg x2) 37 (σ 34 3).toNatClampNeg x3) 34 3 ((σ 34 3) + 1))))))))) else some (((-3) : Int32), σ)) := by
  refine (r_aload_n L_57_0 rfl).trans ?_
  refine (r_getfi L_57_1 gf_34_3).trans ?_
  refine (r_aload_n L_57_2 rfl).trans ?_
  refine (r_getfi L_57_3 gf_34_0).trans ?_
  refine (r_cmplt L_57_4).trans ?_
  refine it_c ?_ ?_
  · refine (r_aload_n L_57_7 rfl).trans ?_
    refine (r_getfi L_57_8 gf_34_3).trans ?_
    refine (r_istore L_57_9 rfl).trans ?_
    refine (r_aload_n L_57_10 rfl).trans ?_
    refine (r_getfr L_57_11 gf_34_4).trans ?_
    refine (r_iload L_57_12 rfl).trans ?_
    refine (r_iload_n L_57_13 rfl).trans ?_
    refine (r_iast L_57_14 ar_35).trans ?_
    refine ck_c ?_
    refine (r_aload_n L_57_15 rfl).trans ?_
    refine (r_getfr L_57_16 gf_34_5).trans ?_
    refine (r_iload L_57_17 rfl).trans ?_
    refine (r_iload_n L_57_18 rfl).trans ?_
    refine (r_iast L_57_19 ar_36).trans ?_
    refine ck_c ?_
    refine (r_aload_n L_57_20 rfl).trans ?_
    refine (r_getfr L_57_21 gf_34_6).trans ?_
    refine (r_iload L_57_22 rfl).trans ?_
    refine (r_iload_n L_57_23 rfl).trans ?_
    refine (r_iast L_57_24 ar_37).trans ?_
    refine ck_c ?_
    refine (r_aload_n L_57_25 rfl).trans ?_
    refine (r_dupr L_57_26).trans ?_
    refine (r_getfiv L_57_27 gf_34_3 ((rd_un (by decide)).trans ((rd_un (by decide)).trans (rd_un (by decide))))).trans ?_
    refine (r_iconst L_57_28 ki_1).trans ?_
    refine (r_iadd L_57_29).trans ?_
    refine (r_putfi L_57_30 gf_34_3).trans ?_
    refine (r_iload L_57_31 rfl).trans ?_
    exact r_ret L_57_32 mz_57
  · refine (r_bipush L_57_5 kb_m3).trans ?_
    exact r_ret L_57_6 mz_57
set_option maxRecDepth 100000 in
set_option maxHeartbeats 4000000 in
theorem q_X5_hasParameter_34 (ρ : Nat × (Nat → Int32)) (σ : rd_Sg) (x1 x2 : Int32) : rd_R ρ 59 0 [some (.ref 34), some (.int x1), some (.int x2)] [] σ = ((rd_R ρ 56 0 [some (.ref 34), some (.int x1)] [] σ).bind fun q0 => (if q0.1 = 0 then some (0, q0.2) else (rd_chk x1 40 (((rd_R ρ 43 0 [some (.ref 1), some (.int (q0.2 37 x1.toNatClampNeg)), some (.int x2)] [] q0.2).bind fun q2 => (if q2.1 = 0 then some (0, q2.2) else some (1, q2.2))))))) := by
  refine (r_aload_n L_59_0 rfl).trans ?_
  refine (r_iload_n L_59_1 rfl).trans ?_
  refine (r_callV L_59_2 rfl isI_56 rfl).trans ?_
  refine bi_c (fun q0 => ?_)
  refine (r_ifeq L_59_3).trans ?_
  refine it_c ?_ ?_
  · refine (r_iconst L_59_15 ki_0).trans ?_
    exact r_ret0 L_59_16 mz_59
  · refine (r_aload_n L_59_4 rfl).trans ?_
    refine (r_getfr L_59_5 gf_34_1).trans ?_
    refine (r_aload_n L_59_6 rfl).trans ?_
    refine (r_getfr L_59_7 gf_34_6).trans ?_
    refine (r_iload_n L_59_8 rfl).trans ?_
    refine (r_iald L_59_9 ar_37).trans ?_
    refine ck_c ?_
    refine (r_iload_n L_59_10 rfl).trans ?_
    refine (r_callV L_59_11 rfl isI_43 rfl).trans ?_
    refine bi_c (fun q2 => ?_)
    refine (r_ifeq L_59_12).trans ?_
    refine it_c ?_ ?_
    · refine (r_iconst L_59_15 ki_0).trans ?_
      exact r_ret0 L_59_16 mz_59
    · refine (r_iconst L_59_13 ki_1).trans ?_
      refine (r_goto L_59_14).trans ?_
      exact r_ret1 L_59_16 mz_59
set_option maxRecDepth 100000 in
set_option maxHeartbeats 4000000 in
theorem q_X5_isCondition_34 (ρ : Nat × (Nat → Int32)) (σ : rd_Sg) (x1 x2 x3 : Int32) : rd_R ρ 62 0 [some (.ref 34), some (.int x1), some (.int x2), some (.int x3)] [] σ = (if x2 = 0 then some (1, σ) else (if x2 = 1 then (if x1 = 0 then some (1, σ) else ((rd_R ρ 88 0 [some (.ref 9), some (.int x3)] [] σ).bind fun q2 => (if q2.1 = 0 then some (0, q2.2) else some (1, q2.2)))) else (if x2 = 2 then (if x1 = 0 then some (1, σ) else some (0, σ)) else (if x2 = 3 then (if x1 = 0 then some (1, σ) else ((rd_R ρ 88 0 [some (.ref 9), some (.int x3)] [] σ).bind fun q2 => (if q2.1 = 0 then some (0, q2.2) else some (1, q2.2)))) else (if x2 = 4 then (if x1 = 0 then some (0, σ) else ((rd_R ρ 34 0 [some (.ref 1), some (.int x3)] [] σ).bind fun q2 => (if q2.1 = 0 then some (0, q2.2) else some (1, q2.2)))) else (if x2 = 5 then some (x1 &&& 1, σ) else (if x2 = 6 then some (1, σ) else some (0, σ)))))))) := by
  refine (r_iload_n L_62_0 rfl).trans ?_
  refine (r_tsw L_62_1).trans ?_
  refine (r_swc ki_0 rfl).trans ?_
  refine it_c ?_ ?_
  · refine (r_iconst L_62_2 ki_1).trans ?_
    exact r_ret1 L_62_3 mz_62
  · refine (r_swc ki_1 rfl).trans ?_
    refine it_c ?_ ?_
    · refine (r_iload_n L_62_4 rfl).trans ?_
      refine (r_ifeq L_62_5).trans ?_
      refine it_c ?_ ?_
      · refine (r_iconst L_62_11 ki_1).trans ?_
        refine (r_goto L_62_12).trans ?_
        exact r_ret1 L_62_14 mz_62
      · refine (r_aload_n L_62_6 rfl).trans ?_
        refine (r_getfr L_62_7 gf_34_2).trans ?_
        refine (r_iload_n L_62_8 rfl).trans ?_
        refine (r_callV L_62_9 rfl isI_88 rfl).trans ?_
        refine bi_c (fun q2 => ?_)
        refine (r_ifeq L_62_10).trans ?_
        refine it_c ?_ ?_
        · refine (r_iconst L_62_13 ki_0).trans ?_
          exact r_ret0 L_62_14 mz_62
        · refine (r_iconst L_62_11 ki_1).trans ?_
          refine (r_goto L_62_12).trans ?_
          exact r_ret1 L_62_14 mz_62
    · refine (r_swc ki_2 rfl).trans ?_
      refine it_c ?_ ?_
      · refine (r_iload_n L_62_15 rfl).trans ?_
        refine (r_ifne L_62_16).trans ?_
        refine it_c ?_ ?_
        · refine (r_iconst L_62_17 ki_1).trans ?_
          refine (r_goto L_62_18).trans ?_
          exact r_ret1 L_62_20 mz_62
        · refine (r_iconst L_62_19 ki_0).trans ?_
          exact r_ret0 L_62_20 mz_62
      · refine (r_swc ki_3 rfl).trans ?_
        refine it_c ?_ ?_
        · refine (r_iload_n L_62_21 rfl).trans ?_
          refine (r_ifeq L_62_22).trans ?_
          refine it_c ?_ ?_
          · refine (r_iconst L_62_28 ki_1).trans ?_
            refine (r_goto L_62_29).trans ?_
            exact r_ret1 L_62_31 mz_62
          · refine (r_aload_n L_62_23 rfl).trans ?_
            refine (r_getfr L_62_24 gf_34_2).trans ?_
            refine (r_iload_n L_62_25 rfl).trans ?_
            refine (r_callV L_62_26 rfl isI_88 rfl).trans ?_
            refine bi_c (fun q2 => ?_)
            refine (r_ifeq L_62_27).trans ?_
            refine it_c ?_ ?_
            · refine (r_iconst L_62_30 ki_0).trans ?_
              exact r_ret0 L_62_31 mz_62
            · refine (r_iconst L_62_28 ki_1).trans ?_
              refine (r_goto L_62_29).trans ?_
              exact r_ret1 L_62_31 mz_62
        · refine (r_swc ki_4 rfl).trans ?_
          refine it_c ?_ ?_
          · refine (r_iload_n L_62_32 rfl).trans ?_
            refine (r_ifeq L_62_33).trans ?_
            refine it_c ?_ ?_
            · refine (r_iconst L_62_41 ki_0).trans ?_
              exact r_ret0 L_62_42 mz_62
            · refine (r_aload_n L_62_34 rfl).trans ?_
              refine (r_getfr L_62_35 gf_34_1).trans ?_
              refine (r_iload_n L_62_36 rfl).trans ?_
              refine (r_callV L_62_37 rfl isI_34 rfl).trans ?_
              refine bi_c (fun q2 => ?_)
              refine (r_ifeq L_62_38).trans ?_
              refine it_c ?_ ?_
              · refine (r_iconst L_62_41 ki_0).trans ?_
                exact r_ret0 L_62_42 mz_62
              · refine (r_iconst L_62_39 ki_1).trans ?_
                refine (r_goto L_62_40).trans ?_
                exact r_ret1 L_62_42 mz_62
          · refine (r_swc ki_5 rfl).trans ?_
            refine it_c ?_ ?_
            · refine (r_iload_n L_62_43 rfl).trans ?_
              exact r_retb L_62_44 mz_62
            · refine (r_swc ki_6 rfl).trans ?_
              refine it_c ?_ ?_
              · refine (r_iconst L_62_45 ki_1).trans ?_
                exact r_ret1 L_62_46 mz_62
              · refine (r_swn).trans ?_
                refine (r_iconst L_62_47 ki_0).trans ?_
                exact r_ret0 L_62_48 mz_62
set_option maxRecDepth 100000 in
set_option maxHeartbeats 4000000 in
theorem q_X5_fits_34_29 (ρ : Nat × (Nat → Int32)) (σ : rd_Sg) (x1 x3 : Int32) : rd_R ρ 63 0 [some (.ref 34), some (.int x1), some (.ref 29), some (.int x3), none] [] σ = (rd_chk x1 40 ((rd_chk (x3 + 0) 4500 ((if (σ 35 x1.toNatClampNeg) = (σ 29 (x3 + 0).toNatClampNeg) then (rd_chk x1 40 ((rd_chk (x3 + 1) 4500 ((if (σ 36 x1.toNatClampNeg) = (σ 29 (x3 + 1).toNatClampNeg) then rd_R ρ 63 24 [some (.ref 34), some (.int x1), some (.ref 29), some (.int x3), some (.int 0)] [] σ else some (0, σ)))))) else some (0, σ)))))) := by
  refine (r_aload_n L_63_0 rfl).trans ?_
  refine (r_getfr L_63_1 gf_34_4).trans ?_
  refine (r_iload_n L_63_2 rfl).trans ?_
  refine (r_iald L_63_3 ar_35).trans ?_
  refine ck_c ?_
  refine (r_aload_n L_63_4 rfl).trans ?_
  refine (r_iload_n L_63_5 rfl).trans ?_
  refine (r_iconst L_63_6 ki_0).trans ?_
  refine (r_iadd L_63_7).trans ?_
  refine (r_iald L_63_8 ar_29).trans ?_
  refine ck_c ?_
  refine (r_cmpne L_63_9).trans ?_
  refine it_c ?_ ?_
  · refine (r_aload_n L_63_10 rfl).trans ?_
    refine (r_getfr L_63_11 gf_34_5).trans ?_
    refine (r_iload_n L_63_12 rfl).trans ?_
    refine (r_iald L_63_13 ar_36).trans ?_
    refine ck_c ?_
    refine (r_aload_n L_63_14 rfl).trans ?_
    refine (r_iload_n L_63_15 rfl).trans ?_
    refine (r_iconst L_63_16 ki_1).trans ?_
    refine (r_iadd L_63_17).trans ?_
    refine (r_iald L_63_18 ar_29).trans ?_
    refine ck_c ?_
    refine (r_cmpeq L_63_19).trans ?_
    refine it_c ?_ ?_
    · refine (r_iconst L_63_22 ki_0).trans ?_
      refine (r_istore L_63_23 rfl).trans ?_
      rfl
    · refine (r_iconst L_63_20 ki_0).trans ?_
      exact r_ret0 L_63_21 mz_63
  · refine (r_iconst L_63_20 ki_0).trans ?_
    exact r_ret0 L_63_21 mz_63
set_option maxRecDepth 100000 in
set_option maxHeartbeats 4000000 in
theorem q_X5_fits_34_29_at24 (ρ : Nat × (Nat → Int32)) (σ : rd_Sg) (x1 x3 x4 : Int32) : rd_R ρ 63 24 [some (.ref 34), some (.int x1), some (.ref 29), some (.int x3), some (.int x4)] [] σ = (if x4 < 3 then (rd_chk ((x3 + 2) + x4) 4500 (((rd_R ρ 64 0 [some (.ref 34), some (.int ((x1 * 3) + x4)), some (.int (σ 29 ((x3 + 2) + x4).toNatClampNeg))] [] σ).bind fun q1 => (if q1.1 = 0 then some (0, q1.2) else rd_R ρ 63 24 [some (.ref 34), some (.int x1), some (.ref 29), some (.int x3), some (.int (x4 + 1))] [] q1.2)))) else some (1, σ)) := by
  refine (r_iload L_63_24 rfl).trans ?_
  refine (r_iconst L_63_25 ki_3).trans ?_
  refine (r_cmpge L_63_26).trans ?_
  refine it_c ?_ ?_
  · refine (r_aload_n L_63_27 rfl).trans ?_
    refine (r_iload_n L_63_28 rfl).trans ?_
    refine (r_iconst L_63_29 ki_3).trans ?_
    refine (r_imul L_63_30).trans ?_
    refine (r_iload L_63_31 rfl).trans ?_
    refine (r_iadd L_63_32).trans ?_
    refine (r_aload_n L_63_33 rfl).trans ?_
    refine (r_iload_n L_63_34 rfl).trans ?_
    refine (r_iconst L_63_35 ki_2).trans ?_
    refine (r_iadd L_63_36).trans ?_
    refine (r_iload L_63_37 rfl).trans ?_
    refine (r_iadd L_63_38).trans ?_
    refine (r_iald L_63_39 ar_29).trans ?_
    refine ck_c ?_
    refine (r_callV L_63_40 rfl isI_64 rfl).trans ?_
    refine bi_c (fun q1 => ?_)
    refine (r_ifne L_63_41).trans ?_
    refine it_c ?_ ?_
    · refine (r_iconst L_63_42 ki_0).trans ?_
      exact r_ret0 L_63_43 mz_63
    · refine (r_iinc L_63_44 rfl ki_1 rfl).trans ?_
      refine (r_goto L_63_45).trans ?_
      rfl
  · refine (r_iconst L_63_46 ki_1).trans ?_
    exact r_ret1 L_63_47 mz_63
set_option maxRecDepth 100000 in
set_option maxHeartbeats 4000000 in
theorem q_X2_surveyOne_33_28 (ρ : Nat × (Nat → Int32)) (σ : rd_Sg) (x1 : Int32) : rd_R ρ 26 0 [some (.ref 33), some (.int x1), some (.ref 28), none] [] σ = (rd_chk x1 40 ((rd_chk x1 40 ((rd_chk x1 40 (rd_R ρ 26 17 [some (.ref 33), some (.int x1), some (.ref 28), some (.int 0)] [] (rd_u (rd_u (rd_u σ 45 x1.toNatClampNeg 0) 46 x1.toNatClampNeg (-1)) 47 x1.toNatClampNeg (-1)))))))) := by
  refine (r_aload_n L_26_0 rfl).trans ?_
  refine (r_getfr L_26_1 gf_33_6).trans ?_
  refine (r_iload_n L_26_2 rfl).trans ?_
  refine (r_iconst L_26_3 ki_0).trans ?_
  refine (r_iast L_26_4 ar_45).trans ?_
  refine ck_c ?_
  refine (r_aload_n L_26_5 rfl).trans ?_
  refine (r_getfr L_26_6 gf_33_7).trans ?_
  refine (r_iload_n L_26_7 rfl).trans ?_
  refine (r_iconst L_26_8 ki_m1).trans ?_
  refine (r_iast L_26_9 ar_46).trans ?_
  refine ck_c ?_
  refine (r_aload_n L_26_10 rfl).trans ?_
  refine (r_getfr L_26_11 gf_33_8).trans ?_
  refine (r_iload_n L_26_12 rfl).trans ?_
  refine (r_iconst L_26_13 ki_m1).trans ?_
  refine (r_iast L_26_14 ar_47).trans ?_
  refine ck_c ?_
  refine (r_iconst L_26_15 ki_0).trans ?_
  refine (r_istore_n L_26_16 rfl).trans ?_
  rfl
set_option maxRecDepth 100000 in
set_option maxHeartbeats 4000000 in
theorem q_X2_surveyOne_33_28_at17 (ρ : Nat × (Nat → Int32)) (σ : rd_Sg) (x1 x3 : Int32) : rd_R ρ 26 17 [some (.ref 33), some (.int x1), some (.ref 28), some (.int x3)] [] σ = ((rd_R ρ 49 0 [some (.ref 28)] [] σ).bind fun q0 => (if x3 < q0.1 then ((rd_R ρ 63 0 [some (.ref 34), some (.int x1), some (.ref 29), some (.int (x3 * 9)), none] [] q0.2).bind fun q2 => (if q2.1 = 0 then rd_R ρ 26 59 [some (.ref 33), some (.int x1), some (.ref 28), some (.int x3)] [] q2.2 else (rd_chk x1 40 ((if (q2.2 45 x1.toNatClampNeg) = 0 then (rd_chk x1 40 (rd_R ρ 26 41 [some (.ref 33), some (.int x1), some (.ref 28), some (.int x3)] [] (rd_u q2.2 46 x1.toNatClampNeg x3))) else rd_R ρ 26 41 [some (.ref 33), some (.int x1), some (.ref 28), some (.int x3)] [] q2.2))))) else some (0, q0.2))) := by
  refine (r_iload_n L_26_17 rfl).trans ?_
  refine (r_aload_n L_26_18 rfl).trans ?_
  refine (r_callV L_26_19 rfl isI_49 rfl).trans ?_
  refine bi_c (fun q0 => ?_)
  refine (r_cmpge L_26_20).trans ?_
  refine it_c ?_ ?_
  · refine (r_aload_n L_26_21 rfl).trans ?_
    refine (r_getfr L_26_22 gf_33_0).trans ?_
    refine (r_iload_n L_26_23 rfl).trans ?_
    refine (r_aload_n L_26_24 rfl).trans ?_
    refine (r_getfr L_26_25 gf_28_0).trans ?_
    refine (r_iload_n L_26_26 rfl).trans ?_
    refine (r_bipush L_26_27 kb_9).trans ?_
    refine (r_imul L_26_28).trans ?_
    refine (r_callV L_26_29 rfl isI_63 rfl).trans ?_
    refine bi_c (fun q2 => ?_)
    refine (r_ifeq L_26_30).trans ?_
    refine it_c ?_ ?_
    · rfl
    · refine (r_aload_n L_26_31 rfl).trans ?_
      refine (r_getfr L_26_32 gf_33_6).trans ?_
      refine (r_iload_n L_26_33 rfl).trans ?_
      refine (r_iald L_26_34 ar_45).trans ?_
      refine ck_c ?_
      refine (r_ifne L_26_35).trans ?_
      refine it_c ?_ ?_
      · refine (r_aload_n L_26_36 rfl).trans ?_
        refine (r_getfr L_26_37 gf_33_7).trans ?_
        refine (r_iload_n L_26_38 rfl).trans ?_
        refine (r_iload_n L_26_39 rfl).trans ?_
        refine (r_iast L_26_40 ar_46).trans ?_
        refine ck_c ?_
        rfl
      · rfl
  · exact r_retv L_26_61
set_option maxRecDepth 100000 in
set_option maxHeartbeats 4000000 in
theorem q_X2_surveyOne_33_28_at41 (ρ : Nat × (Nat → Int32)) (σ : rd_Sg) (x1 x3 : Int32) : rd_R ρ 26 41 [some (.ref 33), some (.int x1), some (.ref 28), some (.int x3)] [] σ = (rd_chk x1 40 ((rd_chk x1 40 ((rd_chk x1 40 ((rd_chk x3 500 (rd_R ρ 26 59 [some (.ref 33), some (.int x1), some (.ref 28), some (.int x3)] [] (rd_u (rd_u (rd_u σ 47 x1.toNatClampNeg x3) 45 x1.toNatClampNeg ((σ 45 x1.toNatClampNeg) + 1)) 48 x3.toNatClampNeg (1 &&& 1)))))))))) := by
  refine (r_aload_n L_26_41 rfl).trans ?_
  refine (r_getfr L_26_42 gf_33_8).trans ?_
  refine (r_iload_n L_26_43 rfl).trans ?_
  refine (r_iload_n L_26_44 rfl).trans ?_
  refine (r_iast L_26_45 ar_47).trans ?_
  refine ck_c ?_
  refine (r_aload_n L_26_46 rfl).trans ?_
  refine (r_getfr L_26_47 gf_33_6).trans ?_
  refine (r_iload_n L_26_48 rfl).trans ?_
  refine (r_dup2 L_26_49).trans ?_
  refine (r_ialdv L_26_50 ar_45 (rd_un (by decide))).trans ?_
  refine ck_c ?_
  refine (r_iconst L_26_51 ki_1).trans ?_
  refine (r_iadd L_26_52).trans ?_
  refine (r_iast L_26_53 ar_45).trans ?_
  refine ck_c ?_
  refine (r_aload_n L_26_54 rfl).trans ?_
  refine (r_getfr L_26_55 gf_33_9).trans ?_
  refine (r_iload_n L_26_56 rfl).trans ?_
  refine (r_iconst L_26_57 ki_1).trans ?_
  refine (r_zast L_26_58 ar_48).trans ?_
  refine ck_c ?_
  rfl
set_option maxRecDepth 100000 in
set_option maxHeartbeats 4000000 in
theorem q_X2_surveyOne_33_28_at59 (ρ : Nat × (Nat → Int32)) (σ : rd_Sg) (x1 x3 : Int32) : rd_R ρ 26 59 [some (.ref 33), some (.int x1), some (.ref 28), some (.int x3)] [] σ = rd_R ρ 26 17 [some (.ref 33), some (.int x1), some (.ref 28), some (.int (x3 + 1))] [] σ := by
  refine (r_iinc L_26_59 rfl ki_1 rfl).trans ?_
  refine (r_goto L_26_60).trans ?_
  rfl
set_option maxRecDepth 100000 in
set_option maxHeartbeats 4000000 in
theorem q_X10_findNumbers_49_33 (ρ : Nat × (Nat → Int32)) (σ : rd_Sg) : rd_R ρ 104 0 [some (.ref 49), some (.ref 33), none] [] σ = rd_R ρ 104 2 [some (.ref 49), some (.ref 33), some (.int 0)] [] σ := by
  refine (r_iconst L_104_0 ki_0).trans ?_
  refine (r_istore_n L_104_1 rfl).trans ?_
  rfl
set_option maxRecDepth 100000 in
set_option maxHeartbeats 4000000 in
theorem q_X10_findNumbers_49_33_at2 (ρ : Nat × (Nat → Int32)) (σ : rd_Sg) (x2 : Int32) : rd_R ρ 104 2 [some (.ref 49), some (.ref 33), some (.int x2)] [] σ = ((rd_R ρ 55 0 [some (.ref 34)] [] σ).bind fun q0 => (if x2 < q0.1 then ((rd_R ρ 28 0 [some (.ref 33), some (.int x2)] [] q0.2).bind fun q2 => (if q2.1 = 0 then ((rd_R ρ 29 0 [some (.ref 33), some (.int x2)] [] q2.2).bind fun q4 => (if q4.1 = 0 then rd_R ρ 104 30 [some (.ref 49), some (.ref 33), some (.int x2)] [] q4.2 else ((rd_R ρ 27 0 [some (.ref 33), some (.int x2)] [] q4.2).bind fun q6 => ((rd_R ρ 106 0 [some (.ref 49), some (.int 2), some (.int x2), some (.int q6.1), none] [] q6.2).bind fun q7 => rd_R ρ 104 30 [some (.ref 49), some (.ref 33), some (.int x2)] [] q7.2)))) else ((rd_R ρ 27 0 [some (.ref 33), some (.int x2)] [] q2.2).bind fun q4 => ((rd_R ρ 106 0 [some (.ref 49), some (.int 1), some (.int x2), some (.int q4.1), none] [] q4.2).bind fun q5 => rd_R ρ 104 30 [some (.ref 49), some (.ref 33), some (.int x2)] [] q5.2)))) else some (0, q0.2))) := by
  refine (r_iload_n L_104_2 rfl).trans ?_
  refine (r_aload_n L_104_3 rfl).trans ?_
  refine (r_getfr L_104_4 gf_33_0).trans ?_
  refine (r_callV L_104_5 rfl isI_55 rfl).trans ?_
  refine bi_c (fun q0 => ?_)
  refine (r_cmpge L_104_6).trans ?_
  refine it_c ?_ ?_
  · refine (r_aload_n L_104_7 rfl).trans ?_
    refine (r_iload_n L_104_8 rfl).trans ?_
    refine (r_callV L_104_9 rfl isI_28 rfl).trans ?_
    refine bi_c (fun q2 => ?_)
    refine (r_ifeq L_104_10).trans ?_
    refine it_c ?_ ?_
    · refine (r_aload_n L_104_19 rfl).trans ?_
      refine (r_iload_n L_104_20 rfl).trans ?_
      refine (r_callV L_104_21 rfl isI_29 rfl).trans ?_
      refine bi_c (fun q4 => ?_)
      refine (r_ifeq L_104_22).trans ?_
      refine it_c ?_ ?_
      · rfl
      · refine (r_aload_n L_104_23 rfl).trans ?_
        refine (r_iconst L_104_24 ki_2).trans ?_
        refine (r_iload_n L_104_25 rfl).trans ?_
        refine (r_aload_n L_104_26 rfl).trans ?_
        refine (r_iload_n L_104_27 rfl).trans ?_
        refine (r_callV L_104_28 rfl isI_27 rfl).trans ?_
        refine bi_c (fun q6 => ?_)
        refine (r_callVv L_104_29 rfl isI_106 (by decide) rfl).trans ?_
        refine bi_c (fun q7 => ?_)
        rfl
    · refine (r_aload_n L_104_11 rfl).trans ?_
      refine (r_iconst L_104_12 ki_1).trans ?_
      refine (r_iload_n L_104_13 rfl).trans ?_
      refine (r_aload_n L_104_14 rfl).trans ?_
      refine (r_iload_n L_104_15 rfl).trans ?_
      refine (r_callV L_104_16 rfl isI_27 rfl).trans ?_
      refine bi_c (fun q4 => ?_)
      refine (r_callVv L_104_17 rfl isI_106 (by decide) rfl).trans ?_
      refine bi_c (fun q5 => ?_)
      refine (r_goto L_104_18).trans ?_
      rfl
  · exact r_retv L_104_32
set_option maxRecDepth 100000 in
set_option maxHeartbeats 4000000 in
theorem q_X10_findNumbers_49_33_at30 (ρ : Nat × (Nat → Int32)) (σ : rd_Sg) (x2 : Int32) : rd_R ρ 104 30 [some (.ref 49), some (.ref 33), some (.int x2)] [] σ = rd_R ρ 104 2 [some (.ref 49), some (.ref 33), some (.int (x2 + 1))] [] σ := by
  refine (r_iinc L_104_30 rfl ki_1 rfl).trans ?_
  refine (r_goto L_104_31).trans ?_
  rfl
set_option maxRecDepth 100000 in
set_option maxHeartbeats 4000000 in
theorem q_X10_findOrders_49_33 (ρ : Nat × (Nat → Int32)) (σ : rd_Sg) : rd_R ρ 105 0 [some (.ref 49), some (.ref 33), none, none] [] σ = rd_R ρ 105 2 [some (.ref 49), some (.ref 33), some (.int 0), none] [] σ := by
  refine (r_iconst L_105_0 ki_0).trans ?_
  refine (r_istore_n L_105_1 rfl).trans ?_
  rfl
set_option maxRecDepth 100000 in
set_option maxHeartbeats 4000000 in
theorem q_X10_findOrders_49_33_at2 (ρ : Nat × (Nat → Int32)) (σ : rd_Sg) (x2 : Int32) (o3 : Option Value) : rd_R ρ 105 2 [some (.ref 49), some (.ref 33), some (.int x2), o3] [] σ = ((rd_R ρ 22 0 [some (.ref 33)] [] σ).bind fun q0 => (if x2 < q0.1 then ((rd_R ρ 31 0 [some (.ref 33), some (.int x2), none, none] [] q0.2).bind fun q2 => (if q2.1 = (-1) then rd_R ρ 105 18 [some (.ref 49), some (.ref 33), some (.int x2), some (.int q2.1)] [] q2.2 else ((rd_R ρ 106 0 [some (.ref 49), some (.int 3), some (.int x2), some (.int q2.1), none] [] q2.2).bind fun q4 => rd_R ρ 105 18 [some (.ref 49), some (.ref 33), some (.int x2), some (.int q2.1)] [] q4.2))) else some (0, q0.2))) := by
  refine (r_iload_n L_105_2 rfl).trans ?_
  refine (r_aload_n L_105_3 rfl).trans ?_
  refine (r_callV L_105_4 rfl isI_22 rfl).trans ?_
  refine bi_c (fun q0 => ?_)
  refine (r_cmpge L_105_5).trans ?_
  refine it_c ?_ ?_
  · refine (r_aload_n L_105_6 rfl).trans ?_
    refine (r_iload_n L_105_7 rfl).trans ?_
    refine (r_callV L_105_8 rfl isI_31 rfl).trans ?_
    refine bi_c (fun q2 => ?_)
    refine (r_istore_n L_105_9 rfl).trans ?_
    refine (r_iload_n L_105_10 rfl).trans ?_
    refine (r_iconst L_105_11 ki_m1).trans ?_
    refine (r_cmpeq L_105_12).trans ?_
    refine it_c ?_ ?_
    · rfl
    · refine (r_aload_n L_105_13 rfl).trans ?_
      refine (r_iconst L_105_14 ki_3).trans ?_
      refine (r_iload_n L_105_15 rfl).trans ?_
      refine (r_iload_n L_105_16 rfl).trans ?_
      refine (r_callVv L_105_17 rfl isI_106 (by decide) rfl).trans ?_
      refine bi_c (fun q4 => ?_)
      rfl
  · exact r_retv L_105_20
set_option maxRecDepth 100000 in
set_option maxHeartbeats 4000000 in
theorem q_X10_findOrders_49_33_at18 (ρ : Nat × (Nat → Int32)) (σ : rd_Sg) (x2 : Int32) (o3 : Option Value) : rd_R ρ 105 18 [some (.ref 49), some (.ref 33), some (.int x2), o3] [] σ = rd_R ρ 105 2 [some (.ref 49), some (.ref 33), some (.int (x2 + 1)), o3] [] σ := by
  refine (r_iinc L_105_18 rfl ki_1 rfl).trans ?_
  refine (r_goto L_105_19).trans ?_
  rfl
set_option maxRecDepth 100000 in
set_option maxHeartbeats 4000000 in
theorem q_X2_isExpected_33 (ρ : Nat × (Nat → Int32)) (σ : rd_Sg) (x1 : Int32) : rd_R ρ 30 0 [some (.ref 33), some (.int x1)] [] σ = (rd_chk x1 500 (some ((σ 48 x1.toNatClampNeg) &&& 1, σ))) := by
  refine (r_aload_n L_30_0 rfl).trans ?_
  refine (r_getfr L_30_1 gf_33_9).trans ?_
  refine (r_iload_n L_30_2 rfl).trans ?_
  refine (r_zald L_30_3 ar_48).trans ?_
  refine ck_c ?_
  exact r_retb L_30_4 mz_30
set_option maxRecDepth 100000 in
set_option maxHeartbeats 4000000 in
theorem q_X8_hasNoneBeside_9 (ρ : Nat × (Nat → Int32)) (σ : rd_Sg) (x1 : Int32) : rd_R ρ 93 0 [some (.ref 9), some (.int x1)] [] σ = (rd_chk x1 24 (some ((σ 13 x1.toNatClampNeg) &&& 1, σ))) := by
  refine (r_aload_n L_93_0 rfl).trans ?_
  refine (r_getfr L_93_1 gf_9_5).trans ?_
  refine (r_iload_n L_93_2 rfl).trans ?_
  refine (r_zald L_93_3 ar_13).trans ?_
  refine ck_c ?_
  exact r_retb L_93_4 mz_93
set_option maxRecDepth 100000 in
set_option maxHeartbeats 4000000 in
theorem q_X10_add_49 (ρ : Nat × (Nat → Int32)) (σ : rd_Sg) (x1 x2 x3 : Int32) : rd_R ρ 106 0 [some (.ref 49), some (.int x1), some (.int x2), some (.int x3), none] [] σ = (if (σ 49 1) < 60 then (rd_chk ((σ 49 1) * 3) 180 ((rd_chk (((σ 49 1) * 3) + 1) 180 ((rd_chk (((σ 49 1) * 3) + 2) 180 (some (0, (rd_u (rd_u (rd_u (rd_u σ 50 ((σ 49 1) * 3).toNatClampNeg x1) 50 (((σ 49 1) * 3) + 1).toNatClampNeg x2) 50 (((σ 49 1) * 3) + 2).toNatClampNeg x3) 49 1 ((σ 49 1) + 1))))))))) else some (0, σ)) := by
  refine (r_aload_n L_106_0 rfl).trans ?_
  refine (r_getfi L_106_1 gf_49_1).trans ?_
  refine (r_bipush L_106_2 kb_60).trans ?_
  refine (r_cmplt L_106_3).trans ?_
  refine it_c ?_ ?_
  · refine (r_aload_n L_106_5 rfl).trans ?_
    refine (r_getfi L_106_6 gf_49_1).trans ?_
    refine (r_iconst L_106_7 ki_3).trans ?_
    refine (r_imul L_106_8).trans ?_
    refine (r_istore L_106_9 rfl).trans ?_
    refine (r_aload_n L_106_10 rfl).trans ?_
    refine (r_getfr L_106_11 gf_49_0).trans ?_
    refine (r_iload L_106_12 rfl).trans ?_
    refine (r_iload_n L_106_13 rfl).trans ?_
    refine (r_iast L_106_14 ar_50).trans ?_
    refine ck_c ?_
    refine (r_aload_n L_106_15 rfl).trans ?_
    refine (r_getfr L_106_16 gf_49_0).trans ?_
    refine (r_iload L_106_17 rfl).trans ?_
    refine (r_iconst L_106_18 ki_1).trans ?_
    refine (r_iadd L_106_19).trans ?_
    refine (r_iload_n L_106_20 rfl).trans ?_
    refine (r_iast L_106_21 ar_50).trans ?_
    refine ck_c ?_
    refine (r_aload_n L_106_22 rfl).trans ?_
    refine (r_getfr L_106_23 gf_49_0).trans ?_
    refine (r_iload L_106_24 rfl).trans ?_
    refine (r_iconst L_106_25 ki_2).trans ?_
    refine (r_iadd L_106_26).trans ?_
    refine (r_iload_n L_106_27 rfl).trans ?_
    refine (r_iast L_106_28 ar_50).trans ?_
    refine ck_c ?_
    refine (r_aload_n L_106_29 rfl).trans ?_
    refine (r_dupr L_106_30).trans ?_
    refine (r_getfiv L_106_31 gf_49_1 ((rd_un (by decide)).trans ((rd_un (by decide)).trans (rd_un (by decide))))).trans ?_
    refine (r_iconst L_106_32 ki_1).trans ?_
    refine (r_iadd L_106_33).trans ?_
    refine (r_putfi L_106_34 gf_49_1).trans ?_
    exact r_retv L_106_35
  · exact r_retv L_106_4
set_option maxRecDepth 100000 in
set_option maxHeartbeats 4000000 in
theorem q_X1_isWithin (ρ : Nat × (Nat → Int32)) (σ : rd_Sg) (x0 x1 : Int32) : rd_R ρ 16 0 [some (.int x0), some (.int x1)] [] σ = (rd_chk x1 60 ((if x0 < (rd_lim x1.toNatClampNeg) then some (0, σ) else (rd_chk (x1 + 1) 60 ((if (rd_lim (x1 + 1).toNatClampNeg) < x0 then some (0, σ) else some (1, σ))))))) := by
  refine (r_getst L_16_0).trans ?_
  refine (r_iload_n L_16_1 rfl).trans ?_
  refine (r_oald L_16_2 ar_no_100000 ro_100000).trans ?_
  refine ck_c ?_
  refine (r_iload_n L_16_3 rfl).trans ?_
  refine (r_cmpgt L_16_4).trans ?_
  refine it_c ?_ ?_
  · refine (r_iconst L_16_14 ki_0).trans ?_
    exact r_ret0 L_16_15 mz_16
  · refine (r_iload_n L_16_5 rfl).trans ?_
    refine (r_getst L_16_6).trans ?_
    refine (r_iload_n L_16_7 rfl).trans ?_
    refine (r_iconst L_16_8 ki_1).trans ?_
    refine (r_iadd L_16_9).trans ?_
    refine (r_oald L_16_10 ar_no_100000 ro_100000).trans ?_
    refine ck_c ?_
    refine (r_cmpgt L_16_11).trans ?_
    refine it_c ?_ ?_
    · refine (r_iconst L_16_14 ki_0).trans ?_
      exact r_ret0 L_16_15 mz_16
    · refine (r_iconst L_16_12 ki_1).trans ?_
      refine (r_goto L_16_13).trans ?_
      exact r_ret1 L_16_15 mz_16
set_option maxRecDepth 100000 in
set_option maxHeartbeats 4000000 in
theorem q_J7_fill_53178_61 (ρ : Nat × (Nat → Int32)) (σ : rd_Sg) (x1 : Int32) : rd_R ρ 193 0 [some (.ref 61), some (.int x1), none, none] [] σ = rd_R ρ 193 5 [some (.ref 61), some (.int x1), some (.int 0), some (.int 8)] [] σ := by
  refine (r_iconst L_193_0 ki_0).trans ?_
  refine (r_istore_n L_193_1 rfl).trans ?_
  refine (r_aload_n L_193_2 rfl).trans ?_
  refine (r_alen L_193_3 ar_61 kn_8).trans ?_
  refine (r_istore_n L_193_4 rfl).trans ?_
  rfl
set_option maxRecDepth 100000 in
set_option maxHeartbeats 4000000 in
theorem q_J7_fill_53178_61_at5 (ρ : Nat × (Nat → Int32)) (σ : rd_Sg) (x1 x2 x3 : Int32) : rd_R ρ 193 5 [some (.ref 61), some (.int x1), some (.int x2), some (.int x3)] [] σ = (if x2 < x3 then (rd_chk x2 8 (rd_R ρ 193 5 [some (.ref 61), some (.int x1), some (.int (x2 + 1)), some (.int x3)] [] (rd_u σ 61 x2.toNatClampNeg x1))) else some (0, σ)) := by
  refine (r_iload_n L_193_5 rfl).trans ?_
  refine (r_iload_n L_193_6 rfl).trans ?_
  refine (r_cmpge L_193_7).trans ?_
  refine it_c ?_ ?_
  · refine (r_aload_n L_193_8 rfl).trans ?_
    refine (r_iload_n L_193_9 rfl).trans ?_
    refine (r_iload_n L_193_10 rfl).trans ?_
    refine (r_iast L_193_11 ar_61).trans ?_
    refine ck_c ?_
    refine (r_iinc L_193_12 rfl ki_1 rfl).trans ?_
    refine (r_goto L_193_13).trans ?_
    rfl
  · exact r_retv L_193_14
set_option maxRecDepth 100000 in
set_option maxHeartbeats 4000000 in
theorem q_J7_fill_53178_62 (ρ : Nat × (Nat → Int32)) (σ : rd_Sg) (x1 : Int32) : rd_R ρ 193 0 [some (.ref 62), some (.int x1), none, none] [] σ = rd_R ρ 193 5 [some (.ref 62), some (.int x1), some (.int 0), some (.int 4)] [] σ := by
  refine (r_iconst L_193_0 ki_0).trans ?_
  refine (r_istore_n L_193_1 rfl).trans ?_
  refine (r_aload_n L_193_2 rfl).trans ?_
  refine (r_alen L_193_3 ar_62 kn_4).trans ?_
  refine (r_istore_n L_193_4 rfl).trans ?_
  rfl
set_option maxRecDepth 100000 in
set_option maxHeartbeats 4000000 in
theorem q_J7_fill_53178_62_at5 (ρ : Nat × (Nat → Int32)) (σ : rd_Sg) (x1 x2 x3 : Int32) : rd_R ρ 193 5 [some (.ref 62), some (.int x1), some (.int x2), some (.int x3)] [] σ = (if x2 < x3 then (rd_chk x2 4 (rd_R ρ 193 5 [some (.ref 62), some (.int x1), some (.int (x2 + 1)), some (.int x3)] [] (rd_u σ 62 x2.toNatClampNeg x1))) else some (0, σ)) := by
  refine (r_iload_n L_193_5 rfl).trans ?_
  refine (r_iload_n L_193_6 rfl).trans ?_
  refine (r_cmpge L_193_7).trans ?_
  refine it_c ?_ ?_
  · refine (r_aload_n L_193_8 rfl).trans ?_
    refine (r_iload_n L_193_9 rfl).trans ?_
    refine (r_iload_n L_193_10 rfl).trans ?_
    refine (r_iast L_193_11 ar_62).trans ?_
    refine ck_c ?_
    refine (r_iinc L_193_12 rfl ki_1 rfl).trans ?_
    refine (r_goto L_193_13).trans ?_
    rfl
  · exact r_retv L_193_14
set_option maxRecDepth 100000 in
set_option maxHeartbeats 4000000 in
theorem q_X9_closeAll_57 (ρ : Nat × (Nat → Int32)) (σ : rd_Sg) : rd_R ρ 96 0 [some (.ref 57)] [] σ = some (0, (rd_u σ 57 0 0)) := by
  refine (r_aload_n L_96_0 rfl).trans ?_
  refine (r_iconst L_96_1 ki_0).trans ?_
  refine (r_putfi L_96_2 gf_57_0).trans ?_
  exact r_retv L_96_3
set_option maxRecDepth 100000 in
set_option maxHeartbeats 4000000 in
theorem q_X0_tell_56 (ρ : Nat × (Nat → Int32)) (σ : rd_Sg) (x1 : Int32) : rd_R ρ 8 0 [some (.ref 56), some (.int x1)] [] σ = (if (σ 56 8) < 100 then (rd_chk (σ 56 8) 100 (some (0, (rd_u (rd_u σ 63 (σ 56 8).toNatClampNeg x1) 56 8 ((σ 56 8) + 1))))) else some (0, σ)) := by
  refine (r_aload_n L_8_0 rfl).trans ?_
  refine (r_getfi L_8_1 gf_56_8).trans ?_
  refine (r_bipush L_8_2 kb_100).trans ?_
  refine (r_cmpge L_8_3).trans ?_
  refine it_c ?_ ?_
  · refine (r_aload_n L_8_4 rfl).trans ?_
    refine (r_getfr L_8_5 gf_56_7).trans ?_
    refine (r_aload_n L_8_6 rfl).trans ?_
    refine (r_getfi L_8_7 gf_56_8).trans ?_
    refine (r_iload_n L_8_8 rfl).trans ?_
    refine (r_iast L_8_9 ar_63).trans ?_
    refine ck_c ?_
    refine (r_aload_n L_8_10 rfl).trans ?_
    refine (r_dupr L_8_11).trans ?_
    refine (r_getfiv L_8_12 gf_56_8 (rd_un (by decide))).trans ?_
    refine (r_iconst L_8_13 ki_1).trans ?_
    refine (r_iadd L_8_14).trans ?_
    refine (r_putfi L_8_15 gf_56_8).trans ?_
    exact r_retv L_8_16
  · exact r_retv L_8_16
set_option maxRecDepth 100000 in
set_option maxHeartbeats 4000000 in
theorem q_X9_open_57 (ρ : Nat × (Nat → Int32)) (σ : rd_Sg) (x1 x2 x3 : Int32) : rd_R ρ 97 0 [some (.ref 57), some (.int x1), some (.int x2), some (.int x3)] [] σ = (if (σ 57 0) < 10 then (rd_chk (σ 57 0) 10 ((rd_chk (σ 57 0) 10 ((rd_chk (σ 57 0) 10 (some (1, (rd_u (rd_u (rd_u (rd_u σ 58 (σ 57 0).toNatClampNeg (x1 + 1)) 59 (σ 57 0).toNatClampNeg (x1 + x2)) 60 (σ 57 0).toNatClampNeg x3) 57 0 ((σ 57 0) + 1))))))))) else some (0, σ)) := by
  refine (r_aload_n L_97_0 rfl).trans ?_
  refine (r_getfi L_97_1 gf_57_0).trans ?_
  refine (r_bipush L_97_2 kb_10).trans ?_
  refine (r_cmplt L_97_3).trans ?_
  refine it_c ?_ ?_
  · refine (r_aload_n L_97_6 rfl).trans ?_
    refine (r_getfr L_97_7 gf_57_1).trans ?_
    refine (r_aload_n L_97_8 rfl).trans ?_
    refine (r_getfi L_97_9 gf_57_0).trans ?_
    refine (r_iload_n L_97_10 rfl).trans ?_
    refine (r_iconst L_97_11 ki_1).trans ?_
    refine (r_iadd L_97_12).trans ?_
    refine (r_iast L_97_13 ar_58).trans ?_
    refine ck_c ?_
    refine (r_aload_n L_97_14 rfl).trans ?_
    refine (r_getfr L_97_15 gf_57_2).trans ?_
    refine (r_aload_n L_97_16 rfl).trans ?_
    refine (r_getfiv L_97_17 gf_57_0 (rd_un (by decide))).trans ?_
    refine (r_iload_n L_97_18 rfl).trans ?_
    refine (r_iload_n L_97_19 rfl).trans ?_
    refine (r_iadd L_97_20).trans ?_
    refine (r_iast L_97_21 ar_59).trans ?_
    refine ck_c ?_
    refine (r_aload_n L_97_22 rfl).trans ?_
    refine (r_getfr L_97_23 gf_57_3).trans ?_
    refine (r_aload_n L_97_24 rfl).trans ?_
    refine (r_getfiv L_97_25 gf_57_0 ((rd_un (by decide)).trans (rd_un (by decide)))).trans ?_
    refine (r_iload_n L_97_26 rfl).trans ?_
    refine (r_iast L_97_27 ar_60).trans ?_
    refine ck_c ?_
    refine (r_aload_n L_97_28 rfl).trans ?_
    refine (r_dupr L_97_29).trans ?_
    refine (r_getfiv L_97_30 gf_57_0 ((rd_un (by decide)).trans ((rd_un (by decide)).trans (rd_un (by decide))))).trans ?_
    refine (r_iconst L_97_31 ki_1).trans ?_
    refine (r_iadd L_97_32).trans ?_
    refine (r_putfi L_97_33 gf_57_0).trans ?_
    refine (r_iconst L_97_34 ki_1).trans ?_
    exact r_ret1 L_97_35 mz_97
  · refine (r_iconst L_97_4 ki_0).trans ?_
    exact r_ret0 L_97_5 mz_97
set_option maxRecDepth 100000 in
set_option maxHeartbeats 4000000 in
theorem q_X0_callHeld_56 (ρ : Nat × (Nat → Int32)) (σ : rd_Sg) (x1 x2 : Int32) : rd_R ρ 6 0 [some (.ref 56), some (.int x1), some (.int x2), none] [] σ = (if x1 = (-1) then some ((9 : Int32), σ) else ((rd_R ρ 92 0 [some (.ref 9), some (.int x1), some (.int x2)] [] σ).bind fun q1 => (if q1.1 = (-1) then some ((10 : Int32), q1.2) else ((rd_R ρ 77 0 [some (.ref 31), some (.int x1), some (.int x2), some (.int q1.1), none] [] q1.2).bind fun q3 => ((rd_R ρ 7 0 [some (.ref 56), some (.int q1.1), none, none, none] [] q3.2).bind fun q4 => ((rd_R ρ 79 0 [some (.ref 31), none] [] q4.2).bind fun q5 => (if (q5.2 30 8) = (-1) then ((rd_R ρ 45 0 [some (.ref 1), some (.int q1.1)] [] q5.2).bind fun q7 => (if q7.1 = 1 then some (((-1) : Int32), (rd_u q7.2 61 7 (q7.2 30 7))) else ((rd_R ρ 45 0 [some (.ref 1), some (.int q1.1)] [] q7.2).bind fun q9 => (if q9.1 = 2 then some (((-1) : Int32), (rd_u q9.2 62 3 (q9.2 30 7))) else some (((-1) : Int32), q9.2))))) else some ((q5.2 30 8), q5.2)))))))) := by
  refine (r_iload_n L_6_0 rfl).trans ?_
  refine (r_iconst L_6_1 ki_m1).trans ?_
  refine (r_cmpne L_6_2).trans ?_
  refine it_c ?_ ?_
  · refine (r_bipush L_6_3 kb_9).trans ?_
    exact r_ret L_6_4 mz_6
  · refine (r_aload_n L_6_5 rfl).trans ?_
    refine (r_getfr L_6_6 gf_56_2).trans ?_
    refine (r_iload_n L_6_7 rfl).trans ?_
    refine (r_iload_n L_6_8 rfl).trans ?_
    refine (r_callV L_6_9 rfl isI_92 rfl).trans ?_
    refine bi_c (fun q1 => ?_)
    refine (r_istore_n L_6_10 rfl).trans ?_
    refine (r_iload_n L_6_11 rfl).trans ?_
    refine (r_iconst L_6_12 ki_m1).trans ?_
    refine (r_cmpne L_6_13).trans ?_
    refine it_c ?_ ?_
    · refine (r_bipush L_6_14 kb_10).trans ?_
      exact r_ret L_6_15 mz_6
    · refine (r_aload_n L_6_16 rfl).trans ?_
      refine (r_getfr L_6_17 gf_56_3).trans ?_
      refine (r_iload_n L_6_18 rfl).trans ?_
      refine (r_iload_n L_6_19 rfl).trans ?_
      refine (r_iload_n L_6_20 rfl).trans ?_
      refine (r_callVv L_6_21 rfl isI_77 (by decide) rfl).trans ?_
      refine bi_c (fun q3 => ?_)
      refine (r_aload_n L_6_22 rfl).trans ?_
      refine (r_iload_n L_6_23 rfl).trans ?_
      refine (r_callVv L_6_24 rfl isI_7 (by decide) rfl).trans ?_
      refine bi_c (fun q4 => ?_)
      refine (r_aload_n L_6_25 rfl).trans ?_
      refine (r_getfr L_6_26 gf_56_3).trans ?_
      refine (r_callVv L_6_27 rfl isI_79 (by decide) rfl).trans ?_
      refine bi_c (fun q5 => ?_)
      refine (r_aload_n L_6_28 rfl).trans ?_
      refine (r_getfr L_6_29 gf_56_3).trans ?_
      refine (r_getfr L_6_30 gf_31_4).trans ?_
      refine (r_bipush L_6_31 kb_8).trans ?_
      refine (r_ialdc (m := 8) L_6_32 ar_30 (by decide)).trans ?_
      refine (r_iconst L_6_33 ki_m1).trans ?_
      refine (r_cmpeq L_6_34).trans ?_
      refine it_c ?_ ?_
      · refine (r_aload_n L_6_41 rfl).trans ?_
        refine (r_getfr L_6_42 gf_56_1).trans ?_
        refine (r_iload_n L_6_43 rfl).trans ?_
        refine (r_callV L_6_44 rfl isI_45 rfl).trans ?_
        refine bi_c (fun q7 => ?_)
        refine (r_iconst L_6_45 ki_1).trans ?_
        refine (r_cmpne L_6_46).trans ?_
        refine it_c ?_ ?_
        · refine (r_aload_n L_6_47 rfl).trans ?_
          refine (r_getfr L_6_48 gf_56_5).trans ?_
          refine (r_bipush L_6_49 kb_7).trans ?_
          refine (r_aload_n L_6_50 rfl).trans ?_
          refine (r_getfr L_6_51 gf_56_3).trans ?_
          refine (r_getfr L_6_52 gf_31_4).trans ?_
          refine (r_bipush L_6_53 kb_7).trans ?_
          refine (r_ialdc (m := 7) L_6_54 ar_30 (by decide)).trans ?_
          refine (r_iastc (m := 7) L_6_55 ar_61 (by decide)).trans ?_
          refine (r_goto L_6_56).trans ?_
          refine (r_iconst L_6_72 ki_m1).trans ?_
          exact r_ret L_6_73 mz_6
        · refine (r_aload_n L_6_57 rfl).trans ?_
          refine (r_getfr L_6_58 gf_56_1).trans ?_
          refine (r_iload_n L_6_59 rfl).trans ?_
          refine (r_callV L_6_60 rfl isI_45 rfl).trans ?_
          refine bi_c (fun q9 => ?_)
          refine (r_iconst L_6_61 ki_2).trans ?_
          refine (r_cmpne L_6_62).trans ?_
          refine it_c ?_ ?_
          · refine (r_aload_n L_6_63 rfl).trans ?_
            refine (r_getfr L_6_64 gf_56_6).trans ?_
            refine (r_iconst L_6_65 ki_3).trans ?_
            refine (r_aload_n L_6_66 rfl).trans ?_
            refine (r_getfr L_6_67 gf_56_3).trans ?_
            refine (r_getfr L_6_68 gf_31_4).trans ?_
            refine (r_bipush L_6_69 kb_7).trans ?_
            refine (r_ialdc (m := 7) L_6_70 ar_30 (by decide)).trans ?_
            refine (r_iastc (m := 3) L_6_71 ar_62 (by decide)).trans ?_
            refine (r_iconst L_6_72 ki_m1).trans ?_
            exact r_ret L_6_73 mz_6
          · refine (r_iconst L_6_72 ki_m1).trans ?_
            exact r_ret L_6_73 mz_6
      · refine (r_aload_n L_6_35 rfl).trans ?_
        refine (r_getfr L_6_36 gf_56_3).trans ?_
        refine (r_getfr L_6_37 gf_31_4).trans ?_
        refine (r_bipush L_6_38 kb_8).trans ?_
        refine (r_ialdc (m := 8) L_6_39 ar_30 (by decide)).trans ?_
        exact r_ret L_6_40 mz_6
set_option maxRecDepth 100000 in
set_option maxHeartbeats 4000000 in
theorem q_X9_take_57 (ρ : Nat × (Nat → Int32)) (σ : rd_Sg) : rd_R ρ 99 0 [some (.ref 57)] [] σ = (if (σ 57 0) = 0 then some (((-1) : Int32), σ) else (rd_chk ((σ 57 0) - 1) 10 (some ((σ 60 ((σ 57 0) - 1).toNatClampNeg), (rd_u σ 57 0 ((σ 57 0) - 1)))))) := by
  refine (r_aload_n L_99_0 rfl).trans ?_
  refine (r_getfi L_99_1 gf_57_0).trans ?_
  refine (r_ifne L_99_2).trans ?_
  refine it_c ?_ ?_
  · refine (r_iconst L_99_3 ki_m1).trans ?_
    exact r_ret L_99_4 mz_99
  · refine (r_aload_n L_99_5 rfl).trans ?_
    refine (r_dupr L_99_6).trans ?_
    refine (r_getfi L_99_7 gf_57_0).trans ?_
    refine (r_iconst L_99_8 ki_1).trans ?_
    refine (r_isub L_99_9).trans ?_
    refine (r_putfi L_99_10 gf_57_0).trans ?_
    refine (r_aload_n L_99_11 rfl).trans ?_
    refine (r_getfr L_99_12 gf_57_3).trans ?_
    refine (r_aload_n L_99_13 rfl).trans ?_
    refine (r_getfiv L_99_14 gf_57_0 (rd_us)).trans ?_
    refine (r_ialdv L_99_15 ar_60 (rd_un (by decide))).trans ?_
    refine ck_c ?_
    exact r_ret L_99_16 mz_99
set_option maxRecDepth 100000 in
set_option maxHeartbeats 4000000 in
theorem q_X9_closeLeft_57 (ρ : Nat × (Nat → Int32)) (σ : rd_Sg) (x1 : Int32) : rd_R ρ 98 0 [some (.ref 57), some (.int x1), none, none] [] σ = rd_R ρ 98 4 [some (.ref 57), some (.int x1), some (.int 0), some (.int 0)] [] σ := by
  refine (r_iconst L_98_0 ki_0).trans ?_
  refine (r_istore_n L_98_1 rfl).trans ?_
  refine (r_iconst L_98_2 ki_0).trans ?_
  refine (r_istore_n L_98_3 rfl).trans ?_
  rfl
set_option maxRecDepth 100000 in
set_option maxHeartbeats 4000000 in
theorem q_X9_closeLeft_57_at4 (ρ : Nat × (Nat → Int32)) (σ : rd_Sg) (x1 x2 x3 : Int32) : rd_R ρ 98 4 [some (.ref 57), some (.int x1), some (.int x2), some (.int x3)] [] σ = (if x3 < (σ 57 0) then (rd_chk x3 10 ((if x1 < (σ 58 x3.toNatClampNeg) then rd_R ρ 98 45 [some (.ref 57), some (.int x1), some (.int x2), some (.int x3)] [] σ else (rd_chk x3 10 ((if (σ 59 x3.toNatClampNeg) < x1 then rd_R ρ 98 45 [some (.ref 57), some (.int x1), some (.int x2), some (.int x3)] [] σ else (rd_chk x3 10 ((rd_chk x2 10 ((rd_chk x3 10 ((rd_chk x2 10 ((rd_chk x3 10 ((rd_chk x2 10 (rd_R ρ 98 45 [some (.ref 57), some (.int x1), some (.int (x2 + 1)), some (.int x3)] [] (rd_u (rd_u (rd_u σ 58 x2.toNatClampNeg (σ 58 x3.toNatClampNeg)) 59 x2.toNatClampNeg (σ 59 x3.toNatClampNeg)) 60 x2.toNatClampNeg (σ 60 x3.toNatClampNeg)))))))))))))))))))) else some (0, (rd_u σ 57 0 x2))) := by
  refine (r_iload_n L_98_4 rfl).trans ?_
  refine (r_aload_n L_98_5 rfl).trans ?_
  refine (r_getfi L_98_6 gf_57_0).trans ?_
  refine (r_cmpge L_98_7).trans ?_
  refine it_c ?_ ?_
  · refine (r_aload_n L_98_8 rfl).trans ?_
    refine (r_getfr L_98_9 gf_57_1).trans ?_
    refine (r_iload_n L_98_10 rfl).trans ?_
    refine (r_iald L_98_11 ar_58).trans ?_
    refine ck_c ?_
    refine (r_iload_n L_98_12 rfl).trans ?_
    refine (r_cmpgt L_98_13).trans ?_
    refine it_c ?_ ?_
    · rfl
    · refine (r_iload_n L_98_14 rfl).trans ?_
      refine (r_aload_n L_98_15 rfl).trans ?_
      refine (r_getfr L_98_16 gf_57_2).trans ?_
      refine (r_iload_n L_98_17 rfl).trans ?_
      refine (r_iald L_98_18 ar_59).trans ?_
      refine ck_c ?_
      refine (r_cmpgt L_98_19).trans ?_
      refine it_c ?_ ?_
      · rfl
      · refine (r_aload_n L_98_20 rfl).trans ?_
        refine (r_getfr L_98_21 gf_57_1).trans ?_
        refine (r_iload_n L_98_22 rfl).trans ?_
        refine (r_aload_n L_98_23 rfl).trans ?_
        refine (r_getfr L_98_24 gf_57_1).trans ?_
        refine (r_iload_n L_98_25 rfl).trans ?_
        refine (r_iald L_98_26 ar_58).trans ?_
        refine ck_c ?_
        refine (r_iast L_98_27 ar_58).trans ?_
        refine ck_c ?_
        refine (r_aload_n L_98_28 rfl).trans ?_
        refine (r_getfr L_98_29 gf_57_2).trans ?_
        refine (r_iload_n L_98_30 rfl).trans ?_
        refine (r_aload_n L_98_31 rfl).trans ?_
        refine (r_getfr L_98_32 gf_57_2).trans ?_
        refine (r_iload_n L_98_33 rfl).trans ?_
        refine (r_ialdv L_98_34 ar_59 (rd_un (by decide))).trans ?_
        refine ck_c ?_
        refine (r_iast L_98_35 ar_59).trans ?_
        refine ck_c ?_
        refine (r_aload_n L_98_36 rfl).trans ?_
        refine (r_getfr L_98_37 gf_57_3).trans ?_
        refine (r_iload_n L_98_38 rfl).trans ?_
        refine (r_aload_n L_98_39 rfl).trans ?_
        refine (r_getfr L_98_40 gf_57_3).trans ?_
        refine (r_iload_n L_98_41 rfl).trans ?_
        refine (r_ialdv L_98_42 ar_60 ((rd_un (by decide)).trans (rd_un (by decide)))).trans ?_
        refine ck_c ?_
        refine (r_iast L_98_43 ar_60).trans ?_
        refine ck_c ?_
        refine (r_iinc L_98_44 rfl ki_1 rfl).trans ?_
        rfl
  · refine (r_aload_n L_98_47 rfl).trans ?_
    refine (r_iload_n L_98_48 rfl).trans ?_
    refine (r_putfi L_98_49 gf_57_0).trans ?_
    exact r_retv L_98_50
set_option maxRecDepth 100000 in
set_option maxHeartbeats 4000000 in
theorem q_X9_closeLeft_57_at45 (ρ : Nat × (Nat → Int32)) (σ : rd_Sg) (x1 x2 x3 : Int32) : rd_R ρ 98 45 [some (.ref 57), some (.int x1), some (.int x2), some (.int x3)] [] σ = rd_R ρ 98 4 [some (.ref 57), some (.int x1), some (.int x2), some (.int (x3 + 1))] [] σ := by
  refine (r_iinc L_98_45 rfl ki_1 rfl).trans ?_
  refine (r_goto L_98_46).trans ?_
  rfl
set_option maxRecDepth 100000 in
set_option maxHeartbeats 4000000 in
theorem q_X3_methods_1 (ρ : Nat × (Nat → Int32)) (σ : rd_Sg) (x1 : Int32) : rd_R ρ 40 0 [some (.ref 1), some (.int x1)] [] σ = (rd_chk x1 12 (some ((σ 2 x1.toNatClampNeg), σ))) := by
  refine (r_aload_n L_40_0 rfl).trans ?_
  refine (r_getfr L_40_1 gf_1_1).trans ?_
  refine (r_iload_n L_40_2 rfl).trans ?_
  refine (r_iald L_40_3 ar_2).trans ?_
  refine ck_c ?_
  exact r_ret L_40_4 mz_40
set_option maxRecDepth 100000 in
set_option maxHeartbeats 4000000 in
theorem q_J7_fill_53178_25 (ρ : Nat × (Nat → Int32)) (σ : rd_Sg) (x1 : Int32) : rd_R ρ 193 0 [some (.ref 25), some (.int x1), none, none] [] σ = rd_R ρ 193 5 [some (.ref 25), some (.int x1), some (.int 0), some (.int 80)] [] σ := by
  refine (r_iconst L_193_0 ki_0).trans ?_
  refine (r_istore_n L_193_1 rfl).trans ?_
  refine (r_aload_n L_193_2 rfl).trans ?_
  refine (r_alen L_193_3 ar_25 kn_80).trans ?_
  refine (r_istore_n L_193_4 rfl).trans ?_
  rfl
set_option maxRecDepth 100000 in
set_option maxHeartbeats 4000000 in
theorem q_J7_fill_53178_25_at5 (ρ : Nat × (Nat → Int32)) (σ : rd_Sg) (x1 x2 x3 : Int32) : rd_R ρ 193 5 [some (.ref 25), some (.int x1), some (.int x2), some (.int x3)] [] σ = (if x2 < x3 then (rd_chk x2 80 (rd_R ρ 193 5 [some (.ref 25), some (.int x1), some (.int (x2 + 1)), some (.int x3)] [] (rd_u σ 25 x2.toNatClampNeg x1))) else some (0, σ)) := by
  refine (r_iload_n L_193_5 rfl).trans ?_
  refine (r_iload_n L_193_6 rfl).trans ?_
  refine (r_cmpge L_193_7).trans ?_
  refine it_c ?_ ?_
  · refine (r_aload_n L_193_8 rfl).trans ?_
    refine (r_iload_n L_193_9 rfl).trans ?_
    refine (r_iload_n L_193_10 rfl).trans ?_
    refine (r_iast L_193_11 ar_25).trans ?_
    refine ck_c ?_
    refine (r_iinc L_193_12 rfl ki_1 rfl).trans ?_
    refine (r_goto L_193_13).trans ?_
    rfl
  · exact r_retv L_193_14
set_option maxRecDepth 100000 in
set_option maxHeartbeats 4000000 in
theorem q_X5_fits_15_30 (ρ : Nat × (Nat → Int32)) (σ : rd_Sg) (x1 x3 : Int32) : rd_R ρ 63 0 [some (.ref 15), some (.int x1), some (.ref 30), some (.int x3), none] [] σ = (rd_chk x1 80 ((rd_chk (x3 + 0) 9 ((if (σ 16 x1.toNatClampNeg) = (σ 30 (x3 + 0).toNatClampNeg) then (rd_chk x1 80 ((rd_chk (x3 + 1) 9 ((if (σ 17 x1.toNatClampNeg) = (σ 30 (x3 + 1).toNatClampNeg) then rd_R ρ 63 24 [some (.ref 15), some (.int x1), some (.ref 30), some (.int x3), some (.int 0)] [] σ else some (0, σ)))))) else some (0, σ)))))) := by
  refine (r_aload_n L_63_0 rfl).trans ?_
  refine (r_getfr L_63_1 gf_15_4).trans ?_
  refine (r_iload_n L_63_2 rfl).trans ?_
  refine (r_iald L_63_3 ar_16).trans ?_
  refine ck_c ?_
  refine (r_aload_n L_63_4 rfl).trans ?_
  refine (r_iload_n L_63_5 rfl).trans ?_
  refine (r_iconst L_63_6 ki_0).trans ?_
  refine (r_iadd L_63_7).trans ?_
  refine (r_iald L_63_8 ar_30).trans ?_
  refine ck_c ?_
  refine (r_cmpne L_63_9).trans ?_
  refine it_c ?_ ?_
  · refine (r_aload_n L_63_10 rfl).trans ?_
    refine (r_getfr L_63_11 gf_15_5).trans ?_
    refine (r_iload_n L_63_12 rfl).trans ?_
    refine (r_iald L_63_13 ar_17).trans ?_
    refine ck_c ?_
    refine (r_aload_n L_63_14 rfl).trans ?_
    refine (r_iload_n L_63_15 rfl).trans ?_
    refine (r_iconst L_63_16 ki_1).trans ?_
    refine (r_iadd L_63_17).trans ?_
    refine (r_iald L_63_18 ar_30).trans ?_
    refine ck_c ?_
    refine (r_cmpeq L_63_19).trans ?_
    refine it_c ?_ ?_
    · refine (r_iconst L_63_22 ki_0).trans ?_
      refine (r_istore L_63_23 rfl).trans ?_
      rfl
    · refine (r_iconst L_63_20 ki_0).trans ?_
      exact r_ret0 L_63_21 mz_63
  · refine (r_iconst L_63_20 ki_0).trans ?_
    exact r_ret0 L_63_21 mz_63
set_option maxRecDepth 100000 in
set_option maxHeartbeats 4000000 in
theorem q_X5_fits_15_30_at24 (ρ : Nat × (Nat → Int32)) (σ : rd_Sg) (x1 x3 x4 : Int32) : rd_R ρ 63 24 [some (.ref 15), some (.int x1), some (.ref 30), some (.int x3), some (.int x4)] [] σ = (if x4 < 3 then (rd_chk ((x3 + 2) + x4) 9 (((rd_R ρ 64 0 [some (.ref 15), some (.int ((x1 * 3) + x4)), some (.int (σ 30 ((x3 + 2) + x4).toNatClampNeg))] [] σ).bind fun q1 => (if q1.1 = 0 then some (0, q1.2) else rd_R ρ 63 24 [some (.ref 15), some (.int x1), some (.ref 30), some (.int x3), some (.int (x4 + 1))] [] q1.2)))) else some (1, σ)) := by
  refine (r_iload L_63_24 rfl).trans ?_
  refine (r_iconst L_63_25 ki_3).trans ?_
  refine (r_cmpge L_63_26).trans ?_
  refine it_c ?_ ?_
  · refine (r_aload_n L_63_27 rfl).trans ?_
    refine (r_iload_n L_63_28 rfl).trans ?_
    refine (r_iconst L_63_29 ki_3).trans ?_
    refine (r_imul L_63_30).trans ?_
    refine (r_iload L_63_31 rfl).trans ?_
    refine (r_iadd L_63_32).trans ?_
    refine (r_aload_n L_63_33 rfl).trans ?_
    refine (r_iload_n L_63_34 rfl).trans ?_
    refine (r_iconst L_63_35 ki_2).trans ?_
    refine (r_iadd L_63_36).trans ?_
    refine (r_iload L_63_37 rfl).trans ?_
    refine (r_iadd L_63_38).trans ?_
    refine (r_iald L_63_39 ar_30).trans ?_
    refine ck_c ?_
    refine (r_callV L_63_40 rfl isI_64 rfl).trans ?_
    refine bi_c (fun q1 => ?_)
    refine (r_ifne L_63_41).trans ?_
    refine it_c ?_ ?_
    · refine (r_iconst L_63_42 ki_0).trans ?_
      exact r_ret0 L_63_43 mz_63
    · refine (r_iinc L_63_44 rfl ki_1 rfl).trans ?_
      refine (r_goto L_63_45).trans ?_
      rfl
  · refine (r_iconst L_63_46 ki_1).trans ?_
    exact r_ret1 L_63_47 mz_63
set_option maxRecDepth 100000 in
set_option maxHeartbeats 4000000 in
theorem q_X8_thing_9 (ρ : Nat × (Nat → Int32)) (σ : rd_Sg) (x1 : Int32) : rd_R ρ 91 0 [some (.ref 9), some (.int x1)] [] σ = (rd_chk x1 24 (some ((σ 12 x1.toNatClampNeg), σ))) := by
  refine (r_aload_n L_91_0 rfl).trans ?_
  refine (r_getfr L_91_1 gf_9_4).trans ?_
  refine (r_iload_n L_91_2 rfl).trans ?_
  refine (r_iald L_91_3 ar_12).trans ?_
  refine ck_c ?_
  exact r_ret L_91_4 mz_91
set_option maxRecDepth 100000 in
set_option maxHeartbeats 4000000 in
theorem q_X7_failWith_31 (ρ : Nat × (Nat → Int32)) (σ : rd_Sg) (x1 : Int32) : rd_R ρ 85 0 [some (.ref 31), some (.int x1), none] [] σ = ((rd_R ρ 46 0 [some (.ref 1), some (.int (σ 31 6)), some (.int x1)] [] σ).bind fun q0 => (if q0.1 = 0 then (if q0.1 = 0 then some (0, (rd_u (rd_u q0.2 30 5 2) 30 8 8)) else some (0, (rd_u (rd_u q0.2 30 5 2) 30 8 x1))) else (if q0.1 = 0 then some (0, (rd_u (rd_u q0.2 30 5 1) 30 8 8)) else some (0, (rd_u (rd_u q0.2 30 5 1) 30 8 x1))))) := by
  refine (r_aload_n L_85_0 rfl).trans ?_
  refine (r_getfr L_85_1 gf_31_0).trans ?_
  refine (r_aload_n L_85_2 rfl).trans ?_
  refine (r_getfi L_85_3 gf_31_6).trans ?_
  refine (r_iload_n L_85_4 rfl).trans ?_
  refine (r_callV L_85_5 rfl isI_46 rfl).trans ?_
  refine bi_c (fun q0 => ?_)
  refine (r_istore_n L_85_6 rfl).trans ?_
  refine (r_aload_n L_85_7 rfl).trans ?_
  refine (r_getfr L_85_8 gf_31_4).trans ?_
  refine (r_iconst L_85_9 ki_5).trans ?_
  refine (r_iload_n L_85_10 rfl).trans ?_
  refine (r_ifeq L_85_11).trans ?_
  refine it_c ?_ ?_
  · refine (r_iconst L_85_14 ki_2).trans ?_
    refine (r_iastc (m := 5) L_85_15 ar_30 (by decide)).trans ?_
    refine (r_aload_n L_85_16 rfl).trans ?_
    refine (r_getfr L_85_17 gf_31_4).trans ?_
    refine (r_bipush L_85_18 kb_8).trans ?_
    refine (r_iload_n L_85_19 rfl).trans ?_
    refine (r_ifeq L_85_20).trans ?_
    refine it_c ?_ ?_
    · refine (r_bipush L_85_23 kb_8).trans ?_
      refine (r_iastc (m := 8) L_85_24 ar_30 (by decide)).trans ?_
      exact r_retv L_85_25
    · refine (r_iload_n L_85_21 rfl).trans ?_
      refine (r_goto L_85_22).trans ?_
      refine (r_iastc (m := 8) L_85_24 ar_30 (by decide)).trans ?_
      exact r_retv L_85_25
  · refine (r_iconst L_85_12 ki_1).trans ?_
    refine (r_goto L_85_13).trans ?_
    refine (r_iastc (m := 5) L_85_15 ar_30 (by decide)).trans ?_
    refine (r_aload_n L_85_16 rfl).trans ?_
    refine (r_getfr L_85_17 gf_31_4).trans ?_
    refine (r_bipush L_85_18 kb_8).trans ?_
    refine (r_iload_n L_85_19 rfl).trans ?_
    refine (r_ifeq L_85_20).trans ?_
    refine it_c ?_ ?_
    · refine (r_bipush L_85_23 kb_8).trans ?_
      refine (r_iastc (m := 8) L_85_24 ar_30 (by decide)).trans ?_
      exact r_retv L_85_25
    · refine (r_iload_n L_85_21 rfl).trans ?_
      refine (r_goto L_85_22).trans ?_
      refine (r_iastc (m := 8) L_85_24 ar_30 (by decide)).trans ?_
      exact r_retv L_85_25
set_option maxRecDepth 100000 in
set_option maxHeartbeats 4000000 in
theorem q_X7_giveWhole_31 (ρ : Nat × (Nat → Int32)) (σ : rd_Sg) (x1 : Int32) : rd_R ρ 83 0 [some (.ref 31), some (.int x1)] [] σ = ((rd_R ρ 45 0 [some (.ref 1), some (.int (σ 31 6))] [] σ).bind fun q0 => (if q0.1 = 1 then some (0, (rd_u q0.2 30 7 x1)) else some (0, q0.2))) := by
  refine (r_aload_n L_83_0 rfl).trans ?_
  refine (r_getfr L_83_1 gf_31_0).trans ?_
  refine (r_aload_n L_83_2 rfl).trans ?_
  refine (r_getfi L_83_3 gf_31_6).trans ?_
  refine (r_callV L_83_4 rfl isI_45 rfl).trans ?_
  refine bi_c (fun q0 => ?_)
  refine (r_iconst L_83_5 ki_1).trans ?_
  refine (r_cmpne L_83_6).trans ?_
  refine it_c ?_ ?_
  · refine (r_aload_n L_83_7 rfl).trans ?_
    refine (r_getfr L_83_8 gf_31_4).trans ?_
    refine (r_bipush L_83_9 kb_7).trans ?_
    refine (r_iload_n L_83_10 rfl).trans ?_
    refine (r_iastc (m := 7) L_83_11 ar_30 (by decide)).trans ?_
    exact r_retv L_83_12
  · exact r_retv L_83_12
set_option maxRecDepth 100000 in
set_option maxHeartbeats 4000000 in
theorem q_X5_isCatching_15 (ρ : Nat × (Nat → Int32)) (σ : rd_Sg) (x1 x2 : Int32) : rd_R ρ 60 0 [some (.ref 15), some (.int x1), some (.int x2)] [] σ = (rd_chk ((x1 * 3) + x2) 240 ((if (σ 19 ((x1 * 3) + x2).toNatClampNeg) = 6 then some (1, σ) else some (0, σ)))) := by
  refine (r_aload_n L_60_0 rfl).trans ?_
  refine (r_getfr L_60_1 gf_15_7).trans ?_
  refine (r_iload_n L_60_2 rfl).trans ?_
  refine (r_iconst L_60_3 ki_3).trans ?_
  refine (r_imul L_60_4).trans ?_
  refine (r_iload_n L_60_5 rfl).trans ?_
  refine (r_iadd L_60_6).trans ?_
  refine (r_iald L_60_7 ar_19).trans ?_
  refine ck_c ?_
  refine (r_bipush L_60_8 kb_6).trans ?_
  refine (r_cmpne L_60_9).trans ?_
  refine it_c ?_ ?_
  · refine (r_iconst L_60_10 ki_1).trans ?_
    refine (r_goto L_60_11).trans ?_
    exact r_ret1 L_60_13 mz_60
  · refine (r_iconst L_60_12 ki_0).trans ?_
    exact r_ret0 L_60_13 mz_60
set_option maxRecDepth 100000 in
set_option maxHeartbeats 4000000 in
theorem q_X6_answerValue_14 (ρ : Nat × (Nat → Int32)) (σ : rd_Sg) (x1 : Int32) : rd_R ρ 71 0 [some (.ref 14), some (.int x1)] [] σ = (rd_chk x1 480 (some ((σ 24 x1.toNatClampNeg), σ))) := by
  refine (r_aload_n L_71_0 rfl).trans ?_
  refine (r_getfr L_71_1 gf_14_5).trans ?_
  refine (r_iload_n L_71_2 rfl).trans ?_
  refine (r_iald L_71_3 ar_24).trans ?_
  refine ck_c ?_
  exact r_ret L_71_4 mz_71
set_option maxRecDepth 100000 in
set_option maxHeartbeats 4000000 in
theorem q_X6_answerKind_14 (ρ : Nat × (Nat → Int32)) (σ : rd_Sg) (x1 : Int32) : rd_R ρ 70 0 [some (.ref 14), some (.int x1)] [] σ = (rd_chk x1 480 (some ((σ 23 x1.toNatClampNeg), σ))) := by
  refine (r_aload_n L_70_0 rfl).trans ?_
  refine (r_getfr L_70_1 gf_14_4).trans ?_
  refine (r_iload_n L_70_2 rfl).trans ?_
  refine (r_iald L_70_3 ar_23).trans ?_
  refine ck_c ?_
  exact r_ret L_70_4 mz_70
set_option maxRecDepth 100000 in
set_option maxHeartbeats 4000000 in
theorem q_X7_giveParameter_31 (ρ : Nat × (Nat → Int32)) (σ : rd_Sg) (x1 : Int32) : rd_R ρ 82 0 [some (.ref 31), some (.int x1)] [] σ = ((rd_R ρ 44 0 [some (.ref 1), some (.int (σ 31 6)), some (.int x1)] [] σ).bind fun q0 => (if q0.1 = 0 then (rd_chk (2 + x1) 9 (((rd_R ρ 83 0 [some (.ref 31), some (.int (q0.2 30 (2 + x1).toNatClampNeg))] [] q0.2).bind fun q2 => some (0, q2.2)))) else (rd_chk (2 + x1) 9 (((rd_R ρ 84 0 [some (.ref 31), some (.int (q0.2 30 (2 + x1).toNatClampNeg))] [] q0.2).bind fun q2 => some (0, q2.2)))))) := by
  refine (r_aload_n L_82_0 rfl).trans ?_
  refine (r_getfr L_82_1 gf_31_0).trans ?_
  refine (r_aload_n L_82_2 rfl).trans ?_
  refine (r_getfi L_82_3 gf_31_6).trans ?_
  refine (r_iload_n L_82_4 rfl).trans ?_
  refine (r_callV L_82_5 rfl isI_44 rfl).trans ?_
  refine bi_c (fun q0 => ?_)
  refine (r_ifeq L_82_6).trans ?_
  refine it_c ?_ ?_
  · refine (r_aload_n L_82_16 rfl).trans ?_
    refine (r_aload_n L_82_17 rfl).trans ?_
    refine (r_getfr L_82_18 gf_31_4).trans ?_
    refine (r_iconst L_82_19 ki_2).trans ?_
    refine (r_iload_n L_82_20 rfl).trans ?_
    refine (r_iadd L_82_21).trans ?_
    refine (r_iald L_82_22 ar_30).trans ?_
    refine ck_c ?_
    refine (r_callVv L_82_23 rfl isI_83 (by decide) rfl).trans ?_
    refine bi_c (fun q2 => ?_)
    exact r_retv L_82_24
  · refine (r_aload_n L_82_7 rfl).trans ?_
    refine (r_aload_n L_82_8 rfl).trans ?_
    refine (r_getfr L_82_9 gf_31_4).trans ?_
    refine (r_iconst L_82_10 ki_2).trans ?_
    refine (r_iload_n L_82_11 rfl).trans ?_
    refine (r_iadd L_82_12).trans ?_
    refine (r_iald L_82_13 ar_30).trans ?_
    refine ck_c ?_
    refine (r_callVv L_82_14 rfl isI_84 (by decide) rfl).trans ?_
    refine bi_c (fun q2 => ?_)
    refine (r_goto L_82_15).trans ?_
    exact r_retv L_82_24
set_option maxRecDepth 100000 in
set_option maxHeartbeats 4000000 in
theorem q_X7_giveStand_31 (ρ : Nat × (Nat → Int32)) (σ : rd_Sg) (x1 : Int32) : rd_R ρ 84 0 [some (.ref 31), some (.int x1)] [] σ = ((rd_R ρ 45 0 [some (.ref 1), some (.int (σ 31 6))] [] σ).bind fun q0 => (if q0.1 = 2 then some (0, (rd_u q0.2 30 7 x1)) else some (0, q0.2))) := by
  refine (r_aload_n L_84_0 rfl).trans ?_
  refine (r_getfr L_84_1 gf_31_0).trans ?_
  refine (r_aload_n L_84_2 rfl).trans ?_
  refine (r_getfi L_84_3 gf_31_6).trans ?_
  refine (r_callV L_84_4 rfl isI_45 rfl).trans ?_
  refine bi_c (fun q0 => ?_)
  refine (r_iconst L_84_5 ki_2).trans ?_
  refine (r_cmpne L_84_6).trans ?_
  refine it_c ?_ ?_
  · refine (r_aload_n L_84_7 rfl).trans ?_
    refine (r_getfr L_84_8 gf_31_4).trans ?_
    refine (r_bipush L_84_9 kb_7).trans ?_
    refine (r_iload_n L_84_10 rfl).trans ?_
    refine (r_iastc (m := 7) L_84_11 ar_30 (by decide)).trans ?_
    exact r_retv L_84_12
  · exact r_retv L_84_12
set_option maxRecDepth 100000 in
set_option maxHeartbeats 4000000 in
theorem q_X5_holds_34 (ρ : Nat × (Nat → Int32)) (σ : rd_Sg) (x1 x2 : Int32) : rd_R ρ 64 0 [some (.ref 34), some (.int x1), some (.int x2)] [] σ = (rd_chk x1 120 ((if (σ 38 x1.toNatClampNeg) = 1 then (rd_chk x1 120 ((if x2 = (σ 39 x1.toNatClampNeg) then some (1, σ) else some (0, σ)))) else (if (σ 38 x1.toNatClampNeg) = 2 then (rd_chk x1 120 ((if x2 < (σ 39 x1.toNatClampNeg) then some (0, σ) else (rd_chk x1 120 ((if (σ 40 x1.toNatClampNeg) < x2 then some (0, σ) else some (1, σ))))))) else (if (σ 38 x1.toNatClampNeg) = 3 then (rd_chk x1 120 ((if x2 = (σ 39 x1.toNatClampNeg) then some (0, σ) else some (1, σ)))) else (if (σ 38 x1.toNatClampNeg) = 4 then (if x2 = (-1) then some (0, σ) else (rd_chk x1 120 (((rd_R ρ 90 0 [some (.ref 9), some (.int x2), some (.int (σ 39 x1.toNatClampNeg))] [] σ).bind fun q2 => (if q2.1 = 0 then some (0, q2.2) else some (1, q2.2)))))) else (if (σ 38 x1.toNatClampNeg) = 5 then (if x2 = (-1) then some (1, σ) else some (0, σ)) else some (1, σ)))))))) := by
  refine (r_aload_n L_64_0 rfl).trans ?_
  refine (r_getfr L_64_1 gf_34_7).trans ?_
  refine (r_iload_n L_64_2 rfl).trans ?_
  refine (r_iald L_64_3 ar_38).trans ?_
  refine ck_c ?_
  refine (r_tsw L_64_4).trans ?_
  refine (r_swc ki_1 rfl).trans ?_
  refine it_c ?_ ?_
  · refine (r_iload_n L_64_5 rfl).trans ?_
    refine (r_aload_n L_64_6 rfl).trans ?_
    refine (r_getfr L_64_7 gf_34_8).trans ?_
    refine (r_iload_n L_64_8 rfl).trans ?_
    refine (r_iald L_64_9 ar_39).trans ?_
    refine ck_c ?_
    refine (r_cmpne L_64_10).trans ?_
    refine it_c ?_ ?_
    · refine (r_iconst L_64_11 ki_1).trans ?_
      refine (r_goto L_64_12).trans ?_
      exact r_ret1 L_64_14 mz_64
    · refine (r_iconst L_64_13 ki_0).trans ?_
      exact r_ret0 L_64_14 mz_64
  · refine (r_swc ki_2 rfl).trans ?_
    refine it_c ?_ ?_
    · refine (r_aload_n L_64_15 rfl).trans ?_
      refine (r_getfr L_64_16 gf_34_8).trans ?_
      refine (r_iload_n L_64_17 rfl).trans ?_
      refine (r_iald L_64_18 ar_39).trans ?_
      refine ck_c ?_
      refine (r_iload_n L_64_19 rfl).trans ?_
      refine (r_cmpgt L_64_20).trans ?_
      refine it_c ?_ ?_
      · refine (r_iconst L_64_29 ki_0).trans ?_
        exact r_ret0 L_64_30 mz_64
      · refine (r_iload_n L_64_21 rfl).trans ?_
        refine (r_aload_n L_64_22 rfl).trans ?_
        refine (r_getfr L_64_23 gf_34_9).trans ?_
        refine (r_iload_n L_64_24 rfl).trans ?_
        refine (r_iald L_64_25 ar_40).trans ?_
        refine ck_c ?_
        refine (r_cmpgt L_64_26).trans ?_
        refine it_c ?_ ?_
        · refine (r_iconst L_64_29 ki_0).trans ?_
          exact r_ret0 L_64_30 mz_64
        · refine (r_iconst L_64_27 ki_1).trans ?_
          refine (r_goto L_64_28).trans ?_
          exact r_ret1 L_64_30 mz_64
    · refine (r_swc ki_3 rfl).trans ?_
      refine it_c ?_ ?_
      · refine (r_iload_n L_64_31 rfl).trans ?_
        refine (r_aload_n L_64_32 rfl).trans ?_
        refine (r_getfr L_64_33 gf_34_8).trans ?_
        refine (r_iload_n L_64_34 rfl).trans ?_
        refine (r_iald L_64_35 ar_39).trans ?_
        refine ck_c ?_
        refine (r_cmpeq L_64_36).trans ?_
        refine it_c ?_ ?_
        · refine (r_iconst L_64_39 ki_0).trans ?_
          exact r_ret0 L_64_40 mz_64
        · refine (r_iconst L_64_37 ki_1).trans ?_
          refine (r_goto L_64_38).trans ?_
          exact r_ret1 L_64_40 mz_64
      · refine (r_swc ki_4 rfl).trans ?_
        refine it_c ?_ ?_
        · refine (r_iload_n L_64_41 rfl).trans ?_
          refine (r_iconst L_64_42 ki_m1).trans ?_
          refine (r_cmpeq L_64_43).trans ?_
          refine it_c ?_ ?_
          · refine (r_iconst L_64_55 ki_0).trans ?_
            exact r_ret0 L_64_56 mz_64
          · refine (r_aload_n L_64_44 rfl).trans ?_
            refine (r_getfr L_64_45 gf_34_2).trans ?_
            refine (r_iload_n L_64_46 rfl).trans ?_
            refine (r_aload_n L_64_47 rfl).trans ?_
            refine (r_getfr L_64_48 gf_34_8).trans ?_
            refine (r_iload_n L_64_49 rfl).trans ?_
            refine (r_iald L_64_50 ar_39).trans ?_
            refine ck_c ?_
            refine (r_callV L_64_51 rfl isI_90 rfl).trans ?_
            refine bi_c (fun q2 => ?_)
            refine (r_ifeq L_64_52).trans ?_
            refine it_c ?_ ?_
            · refine (r_iconst L_64_55 ki_0).trans ?_
              exact r_ret0 L_64_56 mz_64
            · refine (r_iconst L_64_53 ki_1).trans ?_
              refine (r_goto L_64_54).trans ?_
              exact r_ret1 L_64_56 mz_64
        · refine (r_swc ki_5 rfl).trans ?_
          refine it_c ?_ ?_
          · refine (r_iload_n L_64_57 rfl).trans ?_
            refine (r_iconst L_64_58 ki_m1).trans ?_
            refine (r_cmpne L_64_59).trans ?_
            refine it_c ?_ ?_
            · refine (r_iconst L_64_60 ki_1).trans ?_
              refine (r_goto L_64_61).trans ?_
              exact r_ret1 L_64_63 mz_64
            · refine (r_iconst L_64_62 ki_0).trans ?_
              exact r_ret0 L_64_63 mz_64
          · refine (r_swn).trans ?_
            refine (r_iconst L_64_64 ki_1).trans ?_
            exact r_ret1 L_64_65 mz_64
set_option maxRecDepth 100000 in
set_option maxHeartbeats 4000000 in
theorem q_X2_isTooFew_33 (ρ : Nat × (Nat → Int32)) (σ : rd_Sg) (x1 : Int32) : rd_R ρ 28 0 [some (.ref 33), some (.int x1)] [] σ = (rd_chk x1 40 ((rd_chk x1 40 ((if (σ 45 x1.toNatClampNeg) < (σ 41 x1.toNatClampNeg) then some (1, σ) else some (0, σ)))))) := by
  refine (r_aload_n L_28_0 rfl).trans ?_
  refine (r_getfr L_28_1 gf_33_6).trans ?_
  refine (r_iload_n L_28_2 rfl).trans ?_
  refine (r_iald L_28_3 ar_45).trans ?_
  refine ck_c ?_
  refine (r_aload_n L_28_4 rfl).trans ?_
  refine (r_getfr L_28_5 gf_33_1).trans ?_
  refine (r_iload_n L_28_6 rfl).trans ?_
  refine (r_iald L_28_7 ar_41).trans ?_
  refine ck_c ?_
  refine (r_cmpge L_28_8).trans ?_
  refine it_c ?_ ?_
  · refine (r_iconst L_28_9 ki_1).trans ?_
    refine (r_goto L_28_10).trans ?_
    exact r_ret1 L_28_12 mz_28
  · refine (r_iconst L_28_11 ki_0).trans ?_
    exact r_ret0 L_28_12 mz_28
set_option maxRecDepth 100000 in
set_option maxHeartbeats 4000000 in
theorem q_X2_isTooMany_33 (ρ : Nat × (Nat → Int32)) (σ : rd_Sg) (x1 : Int32) : rd_R ρ 29 0 [some (.ref 33), some (.int x1)] [] σ = (rd_chk x1 40 ((rd_chk x1 40 ((if (σ 42 x1.toNatClampNeg) < (σ 45 x1.toNatClampNeg) then some (1, σ) else some (0, σ)))))) := by
  refine (r_aload_n L_29_0 rfl).trans ?_
  refine (r_getfr L_29_1 gf_33_6).trans ?_
  refine (r_iload_n L_29_2 rfl).trans ?_
  refine (r_iald L_29_3 ar_45).trans ?_
  refine ck_c ?_
  refine (r_aload_n L_29_4 rfl).trans ?_
  refine (r_getfr L_29_5 gf_33_2).trans ?_
  refine (r_iload_n L_29_6 rfl).trans ?_
  refine (r_iald L_29_7 ar_42).trans ?_
  refine ck_c ?_
  refine (r_cmple L_29_8).trans ?_
  refine it_c ?_ ?_
  · refine (r_iconst L_29_9 ki_1).trans ?_
    refine (r_goto L_29_10).trans ?_
    exact r_ret1 L_29_12 mz_29
  · refine (r_iconst L_29_11 ki_0).trans ?_
    exact r_ret0 L_29_12 mz_29
set_option maxRecDepth 100000 in
set_option maxHeartbeats 4000000 in
theorem q_X2_meeting_33 (ρ : Nat × (Nat → Int32)) (σ : rd_Sg) (x1 : Int32) : rd_R ρ 27 0 [some (.ref 33), some (.int x1)] [] σ = (rd_chk x1 40 (some ((σ 45 x1.toNatClampNeg), σ))) := by
  refine (r_aload_n L_27_0 rfl).trans ?_
  refine (r_getfr L_27_1 gf_33_6).trans ?_
  refine (r_iload_n L_27_2 rfl).trans ?_
  refine (r_iald L_27_3 ar_45).trans ?_
  refine ck_c ?_
  exact r_ret L_27_4 mz_27
set_option maxRecDepth 100000 in
set_option maxHeartbeats 4000000 in
theorem q_X2_callAhead_33 (ρ : Nat × (Nat → Int32)) (σ : rd_Sg) (x1 : Int32) : rd_R ρ 31 0 [some (.ref 33), some (.int x1), none, none] [] σ = (rd_chk x1 40 ((rd_chk (σ 44 x1.toNatClampNeg) 40 ((rd_chk x1 40 ((rd_chk (σ 43 x1.toNatClampNeg) 40 ((if (σ 46 (σ 44 x1.toNatClampNeg).toNatClampNeg) = (-1) then some (((-1) : Int32), σ) else (if (σ 46 (σ 44 x1.toNatClampNeg).toNatClampNeg) < (σ 47 (σ 43 x1.toNatClampNeg).toNatClampNeg) then some ((σ 46 (σ 44 x1.toNatClampNeg).toNatClampNeg), σ) else some (((-1) : Int32), σ))))))))))) := by
  refine (r_aload_n L_31_0 rfl).trans ?_
  refine (r_getfr L_31_1 gf_33_7).trans ?_
  refine (r_aload_n L_31_2 rfl).trans ?_
  refine (r_getfr L_31_3 gf_33_5).trans ?_
  refine (r_iload_n L_31_4 rfl).trans ?_
  refine (r_iald L_31_5 ar_44).trans ?_
  refine ck_c ?_
  refine (r_iald L_31_6 ar_46).trans ?_
  refine ck_c ?_
  refine (r_istore_n L_31_7 rfl).trans ?_
  refine (r_aload_n L_31_8 rfl).trans ?_
  refine (r_getfr L_31_9 gf_33_8).trans ?_
  refine (r_aload_n L_31_10 rfl).trans ?_
  refine (r_getfr L_31_11 gf_33_4).trans ?_
  refine (r_iload_n L_31_12 rfl).trans ?_
  refine (r_iald L_31_13 ar_43).trans ?_
  refine ck_c ?_
  refine (r_iald L_31_14 ar_47).trans ?_
  refine ck_c ?_
  refine (r_istore_n L_31_15 rfl).trans ?_
  refine (r_iload_n L_31_16 rfl).trans ?_
  refine (r_iconst L_31_17 ki_m1).trans ?_
  refine (r_cmpeq L_31_18).trans ?_
  refine it_c ?_ ?_
  · refine (r_iconst L_31_24 ki_m1).trans ?_
    exact r_ret L_31_25 mz_31
  · refine (r_iload_n L_31_19 rfl).trans ?_
    refine (r_iload_n L_31_20 rfl).trans ?_
    refine (r_cmpge L_31_21).trans ?_
    refine it_c ?_ ?_
    · refine (r_iload_n L_31_22 rfl).trans ?_
      refine (r_goto L_31_23).trans ?_
      exact r_ret L_31_25 mz_31
    · refine (r_iconst L_31_24 ki_m1).trans ?_
      exact r_ret L_31_25 mz_31
set_option maxRecDepth 100000 in
set_option maxHeartbeats 4000000 in
theorem q_X0_bringAll_56 (ρ : Nat × (Nat → Int32)) (σ : rd_Sg) (x1 : Int32) : rd_R ρ 7 0 [some (.ref 56), some (.int x1), none, none, none] [] σ = rd_R ρ 7 6 [some (.ref 56), some (.int x1), some (.int 0), some (.int 0), some (.int 0)] [] σ := by
  refine (r_iconst L_7_0 ki_0).trans ?_
  refine (r_istore_n L_7_1 rfl).trans ?_
  refine (r_iconst L_7_2 ki_0).trans ?_
  refine (r_istore_n L_7_3 rfl).trans ?_
  refine (r_iconst L_7_4 ki_0).trans ?_
  refine (r_istore L_7_5 rfl).trans ?_
  rfl
set_option maxRecDepth 100000 in
set_option maxHeartbeats 4000000 in
theorem q_X0_bringAll_56_at6 (ρ : Nat × (Nat → Int32)) (σ : rd_Sg) (x1 x2 x3 x4 : Int32) : rd_R ρ 7 6 [some (.ref 56), some (.int x1), some (.int x2), some (.int x3), some (.int x4)] [] σ = (if x4 < 3 then ((rd_R ρ 44 0 [some (.ref 1), some (.int x1), some (.int x4)] [] σ).bind fun q1 => (if q1.1 = 0 then (rd_chk x2 8 (((rd_R ρ 78 0 [some (.ref 31), some (.int x4), some (.int (q1.2 61 x2.toNatClampNeg))] [] q1.2).bind fun q3 => rd_R ρ 7 34 [some (.ref 56), some (.int x1), some (.int (x2 + 1)), some (.int x3), some (.int x4)] [] q3.2))) else (rd_chk x3 4 (((rd_R ρ 78 0 [some (.ref 31), some (.int x4), some (.int (q1.2 62 x3.toNatClampNeg))] [] q1.2).bind fun q3 => rd_R ρ 7 34 [some (.ref 56), some (.int x1), some (.int x2), some (.int (x3 + 1)), some (.int x4)] [] q3.2))))) else some (0, σ)) := by
  refine (r_iload L_7_6 rfl).trans ?_
  refine (r_iconst L_7_7 ki_3).trans ?_
  refine (r_cmpge L_7_8).trans ?_
  refine it_c ?_ ?_
  · refine (r_aload_n L_7_9 rfl).trans ?_
    refine (r_getfr L_7_10 gf_56_1).trans ?_
    refine (r_iload_n L_7_11 rfl).trans ?_
    refine (r_iload L_7_12 rfl).trans ?_
    refine (r_callV L_7_13 rfl isI_44 rfl).trans ?_
    refine bi_c (fun q1 => ?_)
    refine (r_ifeq L_7_14).trans ?_
    refine it_c ?_ ?_
    · refine (r_aload_n L_7_25 rfl).trans ?_
      refine (r_getfr L_7_26 gf_56_3).trans ?_
      refine (r_iload L_7_27 rfl).trans ?_
      refine (r_aload_n L_7_28 rfl).trans ?_
      refine (r_getfr L_7_29 gf_56_5).trans ?_
      refine (r_iload_n L_7_30 rfl).trans ?_
      refine (r_iald L_7_31 ar_61).trans ?_
      refine ck_c ?_
      refine (r_callVv L_7_32 rfl isI_78 (by decide) rfl).trans ?_
      refine bi_c (fun q3 => ?_)
      refine (r_iinc L_7_33 rfl ki_1 rfl).trans ?_
      rfl
    · refine (r_aload_n L_7_15 rfl).trans ?_
      refine (r_getfr L_7_16 gf_56_3).trans ?_
      refine (r_iload L_7_17 rfl).trans ?_
      refine (r_aload_n L_7_18 rfl).trans ?_
      refine (r_getfr L_7_19 gf_56_6).trans ?_
      refine (r_iload_n L_7_20 rfl).trans ?_
      refine (r_iald L_7_21 ar_62).trans ?_
      refine ck_c ?_
      refine (r_callVv L_7_22 rfl isI_78 (by decide) rfl).trans ?_
      refine bi_c (fun q3 => ?_)
      refine (r_iinc L_7_23 rfl ki_1 rfl).trans ?_
      refine (r_goto L_7_24).trans ?_
      rfl
  · exact r_retv L_7_36
set_option maxRecDepth 100000 in
set_option maxHeartbeats 4000000 in
theorem q_X0_bringAll_56_at34 (ρ : Nat × (Nat → Int32)) (σ : rd_Sg) (x1 x2 x3 x4 : Int32) : rd_R ρ 7 34 [some (.ref 56), some (.int x1), some (.int x2), some (.int x3), some (.int x4)] [] σ = rd_R ρ 7 6 [some (.ref 56), some (.int x1), some (.int x2), some (.int x3), some (.int (x4 + 1))] [] σ := by
  refine (r_iinc L_7_34 rfl ki_1 rfl).trans ?_
  refine (r_goto L_7_35).trans ?_
  rfl
set_option maxRecDepth 100000 in
set_option maxHeartbeats 4000000 in
theorem q_X5_holds_15 (ρ : Nat × (Nat → Int32)) (σ : rd_Sg) (x1 x2 : Int32) : rd_R ρ 64 0 [some (.ref 15), some (.int x1), some (.int x2)] [] σ = (rd_chk x1 240 ((if (σ 19 x1.toNatClampNeg) = 1 then (rd_chk x1 240 ((if x2 = (σ 20 x1.toNatClampNeg) then some (1, σ) else some (0, σ)))) else (if (σ 19 x1.toNatClampNeg) = 2 then (rd_chk x1 240 ((if x2 < (σ 20 x1.toNatClampNeg) then some (0, σ) else (rd_chk x1 240 ((if (σ 21 x1.toNatClampNeg) < x2 then some (0, σ) else some (1, σ))))))) else (if (σ 19 x1.toNatClampNeg) = 3 then (rd_chk x1 240 ((if x2 = (σ 20 x1.toNatClampNeg) then some (0, σ) else some (1, σ)))) else (if (σ 19 x1.toNatClampNeg) = 4 then (if x2 = (-1) then some (0, σ) else (rd_chk x1 240 (((rd_R ρ 90 0 [some (.ref 9), some (.int x2), some (.int (σ 20 x1.toNatClampNeg))] [] σ).bind fun q2 => (if q2.1 = 0 then some (0, q2.2) else some (1, q2.2)))))) else (if (σ 19 x1.toNatClampNeg) = 5 then (if x2 = (-1) then some (1, σ) else some (0, σ)) else some (1, σ)))))))) := by
  refine (r_aload_n L_64_0 rfl).trans ?_
  refine (r_getfr L_64_1 gf_15_7).trans ?_
  refine (r_iload_n L_64_2 rfl).trans ?_
  refine (r_iald L_64_3 ar_19).trans ?_
  refine ck_c ?_
  refine (r_tsw L_64_4).trans ?_
  refine (r_swc ki_1 rfl).trans ?_
  refine it_c ?_ ?_
  · refine (r_iload_n L_64_5 rfl).trans ?_
    refine (r_aload_n L_64_6 rfl).trans ?_
    refine (r_getfr L_64_7 gf_15_8).trans ?_
    refine (r_iload_n L_64_8 rfl).trans ?_
    refine (r_iald L_64_9 ar_20).trans ?_
    refine ck_c ?_
    refine (r_cmpne L_64_10).trans ?_
    refine it_c ?_ ?_
    · refine (r_iconst L_64_11 ki_1).trans ?_
      refine (r_goto L_64_12).trans ?_
      exact r_ret1 L_64_14 mz_64
    · refine (r_iconst L_64_13 ki_0).trans ?_
      exact r_ret0 L_64_14 mz_64
  · refine (r_swc ki_2 rfl).trans ?_
    refine it_c ?_ ?_
    · refine (r_aload_n L_64_15 rfl).trans ?_
      refine (r_getfr L_64_16 gf_15_8).trans ?_
      refine (r_iload_n L_64_17 rfl).trans ?_
      refine (r_iald L_64_18 ar_20).trans ?_
      refine ck_c ?_
      refine (r_iload_n L_64_19 rfl).trans ?_
      refine (r_cmpgt L_64_20).trans ?_
      refine it_c ?_ ?_
      · refine (r_iconst L_64_29 ki_0).trans ?_
        exact r_ret0 L_64_30 mz_64
      · refine (r_iload_n L_64_21 rfl).trans ?_
        refine (r_aload_n L_64_22 rfl).trans ?_
        refine (r_getfr L_64_23 gf_15_9).trans ?_
        refine (r_iload_n L_64_24 rfl).trans ?_
        refine (r_iald L_64_25 ar_21).trans ?_
        refine ck_c ?_
        refine (r_cmpgt L_64_26).trans ?_
        refine it_c ?_ ?_
        · refine (r_iconst L_64_29 ki_0).trans ?_
          exact r_ret0 L_64_30 mz_64
        · refine (r_iconst L_64_27 ki_1).trans ?_
          refine (r_goto L_64_28).trans ?_
          exact r_ret1 L_64_30 mz_64
    · refine (r_swc ki_3 rfl).trans ?_
      refine it_c ?_ ?_
      · refine (r_iload_n L_64_31 rfl).trans ?_
        refine (r_aload_n L_64_32 rfl).trans ?_
        refine (r_getfr L_64_33 gf_15_8).trans ?_
        refine (r_iload_n L_64_34 rfl).trans ?_
        refine (r_iald L_64_35 ar_20).trans ?_
        refine ck_c ?_
        refine (r_cmpeq L_64_36).trans ?_
        refine it_c ?_ ?_
        · refine (r_iconst L_64_39 ki_0).trans ?_
          exact r_ret0 L_64_40 mz_64
        · refine (r_iconst L_64_37 ki_1).trans ?_
          refine (r_goto L_64_38).trans ?_
          exact r_ret1 L_64_40 mz_64
      · refine (r_swc ki_4 rfl).trans ?_
        refine it_c ?_ ?_
        · refine (r_iload_n L_64_41 rfl).trans ?_
          refine (r_iconst L_64_42 ki_m1).trans ?_
          refine (r_cmpeq L_64_43).trans ?_
          refine it_c ?_ ?_
          · refine (r_iconst L_64_55 ki_0).trans ?_
            exact r_ret0 L_64_56 mz_64
          · refine (r_aload_n L_64_44 rfl).trans ?_
            refine (r_getfr L_64_45 gf_15_2).trans ?_
            refine (r_iload_n L_64_46 rfl).trans ?_
            refine (r_aload_n L_64_47 rfl).trans ?_
            refine (r_getfr L_64_48 gf_15_8).trans ?_
            refine (r_iload_n L_64_49 rfl).trans ?_
            refine (r_iald L_64_50 ar_20).trans ?_
            refine ck_c ?_
            refine (r_callV L_64_51 rfl isI_90 rfl).trans ?_
            refine bi_c (fun q2 => ?_)
            refine (r_ifeq L_64_52).trans ?_
            refine it_c ?_ ?_
            · refine (r_iconst L_64_55 ki_0).trans ?_
              exact r_ret0 L_64_56 mz_64
            · refine (r_iconst L_64_53 ki_1).trans ?_
              refine (r_goto L_64_54).trans ?_
              exact r_ret1 L_64_56 mz_64
        · refine (r_swc ki_5 rfl).trans ?_
          refine it_c ?_ ?_
          · refine (r_iload_n L_64_57 rfl).trans ?_
            refine (r_iconst L_64_58 ki_m1).trans ?_
            refine (r_cmpne L_64_59).trans ?_
            refine it_c ?_ ?_
            · refine (r_iconst L_64_60 ki_1).trans ?_
              refine (r_goto L_64_61).trans ?_
              exact r_ret1 L_64_63 mz_64
            · refine (r_iconst L_64_62 ki_0).trans ?_
              exact r_ret0 L_64_63 mz_64
          · refine (r_swn).trans ?_
            refine (r_iconst L_64_64 ki_1).trans ?_
            exact r_ret1 L_64_65 mz_64
set_option maxRecDepth 100000 in
set_option maxHeartbeats 4000000 in
theorem q_X3_mayFail_1 (ρ : Nat × (Nat → Int32)) (σ : rd_Sg) (x1 x2 : Int32) : rd_R ρ 46 0 [some (.ref 1), some (.int x1), some (.int x2)] [] σ = (rd_chk x1 96 ((if (((σ 8 x1.toNatClampNeg) >>> (x2 &&& 31)) &&& 1) = 1 then some (1, σ) else some (0, σ)))) := by
  refine (r_aload_n L_46_0 rfl).trans ?_
  refine (r_getfr L_46_1 gf_1_7).trans ?_
  refine (r_iload_n L_46_2 rfl).trans ?_
  refine (r_iald L_46_3 ar_8).trans ?_
  refine ck_c ?_
  refine (r_iload_n L_46_4 rfl).trans ?_
  refine (r_ishr L_46_5).trans ?_
  refine (r_iconst L_46_6 ki_1).trans ?_
  refine (r_iand L_46_7).trans ?_
  refine (r_iconst L_46_8 ki_1).trans ?_
  refine (r_cmpne L_46_9).trans ?_
  refine it_c ?_ ?_
  · refine (r_iconst L_46_10 ki_1).trans ?_
    refine (r_goto L_46_11).trans ?_
    exact r_ret1 L_46_13 mz_46
  · refine (r_iconst L_46_12 ki_0).trans ?_
    exact r_ret0 L_46_13 mz_46
