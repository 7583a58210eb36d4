/-! Each instruction that makes. -/
theorem rd_clfact {z oc idx ci : Nat} {own : String} (h : rd_clis z oc idx ci = true) (ho : rd_nth rd_cn oc = some own) : ∃ (C : String) (T : u_T) (N : Nat), rd_nth vwCl ci = some (C, T, N) ∧ Cond.classLink own idx C ∈ rd_tb ∧ Cond.instantiable C N ∈ rd_tb ∧ Cond.initialized C ∈ rd_tb := by
  unfold rd_clis at h
  cases hf : rd_nth rd_cl z with
  | none => rw [hf] at h; cases h
  | some q =>
    obtain ⟨a, b, c, p, p1, p2⟩ := q
    rw [hf] at h
    simp only [Bool.and_eq_true] at h
    obtain ⟨⟨h1, h2⟩, h3⟩ := h
    cases rd_beq h1; cases rd_beq h2; cases rd_beq h3
    have hc := rd_all_at rd_cl_ok hf
    unfold rd_clc at hc
    dsimp only at hc
    rw [ho] at hc
    cases hv : rd_nth vwCl ci with
    | none => rw [hv] at hc; cases hc
    | some w =>
      obtain ⟨C, T, N⟩ := w
      rw [hv] at hc
      simp only [Bool.and_eq_true, decide_eq_true_eq] at hc
      exact ⟨C, T, N, rfl, rd_tb_mem hc.1.1 rfl, rd_tb_mem hc.1.2 rfl, rd_tb_mem hc.2 rfl⟩
theorem rd_arrI : Cond.arrayClass .int ∈ rd_tb := by decide +kernel
theorem rd_arrZ : Cond.arrayClass .boolean ∈ rd_tb := by decide +kernel
theorem rd_oiI : Cond.instanceMethod objectInit ∈ rd_tb := by decide +kernel
theorem rd_oiC : Cond.code objectInit ⟨#[0xb1]⟩ 1 none ∈ rd_tb := by decide +kernel
section RDB
variable {l : Launch} {D : va_G} {cI cZ : ClassId} {base : Nat} {ρ : Nat × (Nat → Int32)}
theorem rd_aok_of {S : List rd_Sh} {w : rd_Wr} {vs : rd_Lv} {st : List Value} (h : rd_aok S w vs st = true) : S.all (rd_sok S.length) = true ∧ w.all (fun e => Nat.blt e.1 S.length) = true ∧ vs.all (rd_ook S.length) = true ∧ st.all (rd_vok S.length) = true := by
  unfold rd_aok at h
  simp only [Bool.and_eq_true] at h
  exact ⟨h.1.1.1, h.1.1.2, h.1.2, h.2⟩
theorem rd_pc_of {k i pc pc0 len : Nat} {ins : Instr} {aux : List Nat} (hlk : rd_look k i = some (pc0, ins, len, aux)) (hpc : rd_pc k i = some pc) : pc = pc0 := by
  unfold rd_pc at hpc
  rw [hlk] at hpc
  exact (Option.some.inj hpc).symm
theorem rd_newmap {ad : Nat → Nat} {st : List Value} {n q : Nat} (hn : n < 100000) (hv : st.all (rd_vok n) = true) : (Value.ref n :: st).map (rd_cv (rd_adn ad n q)) = .ref q :: st.map (rd_cv ad) := by
  rw [List.map_cons, rd_map_agr (rd_adn_agr hn) hv]
  simp only [rd_cv]
  unfold rd_adn
  rw [if_pos rfl]
set_option maxHeartbeats 4000000 in
theorem rd_WA_new {k pc0 len idx ci n z : Nat} {q q1 : rd_Cf} (hlk : rd_look k q.1 = some (pc0, .new idx, len, [ci, n, z])) (h : rd_mkN k ci n q = some q1) : rd_WA l D cI cZ base ρ k q q1 ∧ q.2.2.2.1.length ≤ q1.2.2.2.1.length := by
  obtain ⟨i, vs, st, S, w, cu, su⟩ := q
  simp only [rd_mkN] at h
  cases hks : rd_ks ci with
  | none => rw [hks] at h; cases h
  | some ks =>
  rw [hks] at h
  dsimp only at h
  split at h
  case isFalse => cases h
  rename_i hcond
  cases h
  obtain ⟨hok, hlen, hS5, hcc, hss⟩ := hcond
  obtain ⟨o1, o2, o3, o4⟩ := rd_aok_of hok
  refine ⟨?_, by simp⟩
  intro p e R s m args below meth c Q H locs ls pc ad hF hR hn hA fin
  obtain ⟨hI, hpc, hH, hl, hst, hc, hs⟩ := hA
  dsimp only at hlk hpc hH hl hst hc hs fin ⊢
  obtain ⟨y, b, L, ret, fr, mc, ms, lo, hm, hx, hb, hml, hown, hw, hrm, hfr, hlo⟩ := hF
  obtain ⟨hoc, -, -, -, -⟩ := rd_mfact hm
  have hdg := rd_dec hlk hm
  have hck := rd_ck_ok hlk
  simp only [rd_ck, Bool.and_eq_true] at hck
  obtain ⟨⟨hl3, hnx⟩, hcl⟩ := hck
  cases rd_beq hl3
  have hpce := rd_pc_of hlk hpc
  subst hpce
  obtain ⟨C, T, N, hv, k1, k2, k3⟩ := rd_clfact hcl hoc
  obtain ⟨hin, ty0, hty0, hnm⟩ := rd_cfact hv
  obtain ⟨e1, e2, e3⟩ := rd_ks_val (ad := ad) (f := rd_num w S.length) hv hks hty0 (rd_num_new o2)
  have hv' : vwCl[ci]? = some (C, T, N) := by rw [← rd_nth_get]; exact hv
  have hnN : N = n := by omega
  subst hnN
  refine va_new (ci := ci) (fs := rd_fs ad (rd_num w S.length) 0 ks) hx hb hw hin ty0 hty0 hown (hw _ k1) (hw _ k2) (hw _ k3) hI.1 hH.1 hH.2.1 hH.2.2 (fun q hq => Nat.le_trans hI.2.2.2.2.2.2 hq) hv' e3 (by omega) (by omega) hdg (fun qa H1 hP hD hSS => ?_)
  have hwd : rd_wd cI cZ (rd_adn ad S.length qa) (rd_num w) 0 (S ++ [.inr (ci, ks)]) = rd_wd cI cZ ad (rd_num w) 0 S ++ [(qa, .inr (ci, rd_fs ad (rd_num w S.length) 0 ks))] := rd_wd_new hS5 o1 (e2 _)
  have hf := fin (rd_adn ad S.length qa) H1 locs ls (pc + 3) (rd_adn_agr hS5) ⟨hI.agr (rd_adn_agr hS5), rd_nx_nat hnx, ⟨by dsimp only; rw [hwd]; exact hP, by dsimp only; rw [hwd]; exact hD, hSS⟩, hl.agr (rd_adn_agr hS5) o3, by simp only [List.all_cons, rd_one, Bool.true_and]; exact hst, hcc, hss⟩
  rw [rd_newmap hS5 o4] at hf
  exact hf
set_option maxHeartbeats 4000000 in
theorem rd_WA_arr {k pc0 len : Nat} {b0 : Bool} {ty : ArrayType} {aux : List Nat} {q q1 : rd_Cf} (hty : ty = if b0 = true then .boolean else .int) (hlk : rd_look k q.1 = some (pc0, .newarray ty, len, aux)) (h : rd_mkA k b0 q = some q1) : rd_WA l D cI cZ base ρ k q q1 ∧ q.2.2.2.1.length ≤ q1.2.2.2.1.length := by
  obtain ⟨i, vs, st, S, w, cu, su⟩ := q
  unfold rd_mkA at h
  split at h
  case h_2 => cases h
  rename_i i vs n st S w cu su heq
  cases heq
  split at h
  case isFalse => cases h
  rename_i hcond
  cases h
  obtain ⟨hok, hS5, hn0, hn1, hcc, hss⟩ := hcond
  obtain ⟨o1, o2, o3, o4⟩ := rd_aok_of hok
  refine ⟨?_, by simp⟩
  intro p e R s m args below meth c Q H locs ls pc ad hF hR hn hA fin
  obtain ⟨hI, hpc, hH, hl, hst, hc, hs⟩ := hA
  dsimp only at hlk hpc hH hl hst hc hs fin ⊢
  obtain ⟨y, b, L, ret, fr, mc, ms, lo, hm, hx, hb, hml, hown, hw, hrm, hfr, hlo⟩ := hF
  have hdg := rd_dec hlk hm
  have hck := rd_ck_ok hlk
  simp only [rd_ck, Bool.and_eq_true, rd_ln] at hck
  obtain ⟨hl3, hnx⟩ := hck
  cases rd_beq hl3
  have hpce := rd_pc_of hlk hpc
  subst hpce
  have hz : rd_num w S.length = fun _ => 0 := funext (rd_num_new o2)
  have hst' : st.all rd_one = true := by simpa [rd_one] using hst
  have fin2 : ∀ (qa : Nat) (H1 : Heap), va_P D vwCl (rd_wd cI cZ ad (rd_num w) 0 S ++ [(qa, .inl (if b0 = true then cZ else cI, n.toNatClampNeg, .inl (rd_num w S.length)))]) H1 → va_D (fun q => base ≤ q) (rd_wd cI cZ ad (rd_num w) 0 S ++ [(qa, .inl (if b0 = true then cZ else cI, n.toNatClampNeg, .inl (rd_num w S.length)))]) → va_S (fun q => base ≤ q) s.heap H1 locs → W p l e R s m args below meth c H1 locs (cu + 1) (su + n.toNatClampNeg) Q (F0 m (pc + 2) ls (.ref qa :: st.map (rd_cv ad))) := by
    intro qa H1 hP hD hSS
    have hwd : rd_wd cI cZ (rd_adn ad S.length qa) (rd_num w) 0 (S ++ [.inl (n.toNatClampNeg, b0)]) = rd_wd cI cZ ad (rd_num w) 0 S ++ [(qa, .inl (if b0 = true then cZ else cI, n.toNatClampNeg, .inl (rd_num w S.length)))] := rd_wd_new hS5 o1 rfl
    have hf := fin (rd_adn ad S.length qa) H1 locs ls (pc + 2) (rd_adn_agr hS5) ⟨hI.agr (rd_adn_agr hS5), rd_nx_nat hnx, ⟨by dsimp only; rw [hwd]; exact hP, by dsimp only; rw [hwd]; exact hD, hSS⟩, hl.agr (rd_adn_agr hS5) o3, by simp only [List.all_cons, rd_one, Bool.true_and]; exact hst', hcc, hss⟩
    rw [rd_newmap hS5 o4] at hf
    exact hf
  show W p l e R s m args below meth c H locs cu su Q (F0 m pc ls (.int n :: st.map (rd_cv ad)))
  cases b0 with
  | false =>
    have hty : ty = .int := hty
    subst hty
    refine va_newa hx hb (atype := .int) (hw _ rd_arrI) (ty := .int) rfl hI.1 hH.1 hH.2.1 hH.2.2 (fun q hq => Nat.le_trans hI.2.2.2.2.2.2 hq) (n := n) (N' := n.toNatClampNeg) (a0 := (n.toNatClampNeg, .inl (rd_num w S.length))) (fun cA => by rw [hz]; rfl) hn0 rfl (by simp only [componentBytes]; omega) (by omega) (by omega) hdg (fun qa cA H1 hK hP hD hSS => ?_)
    have e1 : s.vm.findClass _ = some cA := (hK.2 2 (cA, .int) rfl).2
    have e2 : s.vm.findClass _ = some cI := (hI.1.2 0 (cI, .int) rfl).2
    have e3 : cA = cI := Option.some.inj (e1.symm.trans e2)
    subst e3
    exact fin2 qa H1 hP hD hSS
  | true =>
    have hty : ty = .boolean := hty
    subst hty
    refine va_newa hx hb (atype := .boolean) (hw _ rd_arrZ) (ty := .boolean) rfl hI.1 hH.1 hH.2.1 hH.2.2 (fun q hq => Nat.le_trans hI.2.2.2.2.2.2 hq) (n := n) (N' := n.toNatClampNeg) (a0 := (n.toNatClampNeg, .inl (rd_num w S.length))) (fun cA => by rw [hz]; rfl) hn0 rfl (by simp only [componentBytes]; omega) (by omega) (by omega) hdg (fun qa cA H1 hK hP hD hSS => ?_)
    have e1 : s.vm.findClass _ = some cA := (hK.2 2 (cA, .boolean) rfl).2
    have e2 : s.vm.findClass _ = some cZ := (hI.1.2 1 (cZ, .boolean) rfl).2
    have e3 : cA = cZ := Option.some.inj (e1.symm.trans e2)
    subst e3
    exact fin2 qa H1 hP hD hSS
theorem rd_WA_obj {k pc0 len idx z zq : Nat} {q q1 : rd_Cf} (hlk : rd_look k q.1 = some (pc0, .invokespecial idx, len, [z, zq])) (h : rd_mkO q = some q1) : rd_WA l D cI cZ base ρ k q q1 ∧ q.2.2.2.1.length ≤ q1.2.2.2.1.length := by
  obtain ⟨i, vs, st, S, w, cu, su⟩ := q
  unfold rd_mkO at h
  split at h
  case h_2 => cases h
  rename_i i vs a st S w cu su heq
  cases heq
  split at h
  case isFalse => cases h
  rename_i hfew
  cases h
  refine ⟨?_, Nat.le_refl _⟩
  intro p e R s m args below meth c Q H locs ls pc ad hF hR hn hA fin
  obtain ⟨hI, hpc, hH, hl, hst, hc, hs⟩ := hA
  dsimp only at hlk hpc hH hl hst hc hs fin ⊢
  obtain ⟨y, b, L, ret, fr, mc, ms, lo, hm, hx, hb, hml, hown, hw, hrm, hfr, hlo⟩ := hF
  obtain ⟨hoc, -, -, -, -⟩ := rd_mfact hm
  have hdg := rd_dec hlk hm
  have hck := rd_ck_ok hlk
  simp only [rd_ck, Bool.and_eq_true] at hck
  obtain ⟨⟨hl3, hnx⟩, ⟨h20, hml2⟩, hrl⟩ := hck
  cases rd_beq hl3
  have hpce := rd_pc_of hlk hpc
  subst hpce
  obtain ⟨-, -, hlink, -⟩ := rd_mlfact hml2 hoc
  unfold rd_rmle at hrl
  rw [hrm] at hrl
  simp only [Bool.and_eq_true, Nat.ble_eq] at hrl
  obtain ⟨f1, f2⟩ := rd_few_spec hfew
  have hroom := lv_room (m := m) (pc := pc) (ls := ls) (rest := (Value.ref a :: st).map (rd_cv ad)) (st := st.map (rd_cv ad)) (by rw [rd_cat_sum f1]; exact f2)
  refine W.objInit hx hb hown (hw _ (hlink rfl)) (hw _ rd_oiI) (hw _ rd_oiC) (g := F0 m pc ls ((Value.ref a :: st).map (rd_cv ad))) rfl hl.1 (a := ad a) (rest := st.map (rd_cv ad)) rfl hdg (by omega) (by omega) ?_
  refine W.eq (g2 := F0 m (pc + 3) ls (st.map (rd_cv ad))) rfl ?_
  exact fin ad H locs ls (pc + 3) rd_agr.rf ⟨hI, rd_nx_nat hnx, hH, hl, f1, hc, hs⟩
end RDB
