/-! Writing fields, filling, calling a constructor. -/
theorem rd_own {ci k : Nat} {y : MethodName} {b : ByteArray} {L : Nat} {ret : Option FieldType} {C : String} {T : u_T} {n : Nat} (hm : rd_nth rd_mt k = some (y, b, L, ret)) (hv : rd_nth vwCl ci = some (C, T, n)) (h : rd_at rd_oc k = ci) : C = y.cls := by
  obtain ⟨hoc, -⟩ := rd_mfact hm
  rw [h] at hoc
  have hlt : ci < 13 := rd_nth_lt hv
  have := of_decide_eq_true (List.all_eq_true.mp rd_cnc ci (List.mem_range.mpr hlt))
  rw [hoc, hv] at this
  exact (Option.some.inj this).symm
theorem rd_fill4 {S : List rd_Sh} {ro : Nat → Option (Nat × (Nat → Int32))} {c : Nat} {x : Int32} {σ : rd_Sg} (hc : rd_nth S c = some (.inl (4, false))) : rd_R0 S ro 193 0 [some (.ref c), some (.int x), none, none] [] σ = some (0, rd_u (rd_u (rd_u (rd_u σ c 0 x) c 1 x) c 2 x) c 3 x) := by
  have H5 : ∀ (σ : rd_Sg) (x2 x3 : Int32), rd_R0 S ro 193 5 [some (.ref c), some (.int x), some (.int x2), some (.int x3)] [] σ = (if x2 < x3 then (rd_chk x2 4 (rd_R0 S ro 193 5 [some (.ref c), some (.int x), some (.int (x2 + 1)), some (.int x3)] [] (rd_u σ c x2.toNatClampNeg x))) else some (0, σ)) := by
    intro σ x2 x3
    refine (r_iload_n L_193_5 rfl).trans ?_
    refine (r_iload_n L_193_6 rfl).trans ?_
    refine (r_cmpge L_193_7).trans ?_
    refine it_c ?_ ?_
    · refine (r_aload_n L_193_8 rfl).trans ?_
      refine (r_iload_n L_193_9 rfl).trans ?_
      refine (r_iload_n L_193_10 rfl).trans ?_
      refine (r_iast L_193_11 hc).trans ?_
      refine ck_c ?_
      refine (r_iinc L_193_12 rfl ki_1 rfl).trans ?_
      refine (r_goto L_193_13).trans ?_
      rfl
    · exact r_retv L_193_14
  have H0 : rd_R0 S ro 193 0 [some (.ref c), some (.int x), none, none] [] σ = rd_R0 S ro 193 5 [some (.ref c), some (.int x), some (.int 0), some (.int 4)] [] σ := by
    refine (r_iconst L_193_0 ki_0).trans ?_
    refine (r_istore_n L_193_1 rfl).trans ?_
    refine (r_aload_n L_193_2 rfl).trans ?_
    refine (r_alen L_193_3 hc kn_4).trans ?_
    refine (r_istore_n L_193_4 rfl).trans ?_
    rfl
  have st : ∀ (n : Nat) (σ : rd_Sg), n < 4 → rd_R0 S ro 193 5 [some (.ref c), some (.int x), some (.int (nI n)), some (.int 4)] [] σ = rd_R0 S ro 193 5 [some (.ref c), some (.int x), some (.int (nI (n + 1))), some (.int 4)] [] (rd_u σ c n x) := by
    intro n σ hn
    rw [H5, if_pos (lt_lit 4 4 (by decide) hn (by decide)), b_chk hn (by decide), nI_clamp (by omega), nI_1]
  rw [H0]
  refine (st 0 σ (by decide)).trans ?_
  rw [st 1 _ (by decide), st 2 _ (by decide), st 3 _ (by decide), H5, if_neg (by decide)]
theorem rd_ret193 : rd_ret 193 = none := by decide +kernel
theorem rd_fill_ev {S : List rd_Sh} {ro : Nat → Option (Nat × (Nat → Int32))} {c : Nat} {x : Int32} {σ : rd_Sg} (hc : rd_nth S c = some (.inl (4, false))) : ∃ n, rd_ev S ro n 193 0 [some (.ref c), some (.int x), none, none] [] σ = some (none, rd_u (rd_u (rd_u (rd_u σ c 0 x) c 1 x) c 2 x) c 3 x) := by
  have h := rd_fill4 (ro := ro) (x := x) (σ := σ) hc
  unfold rd_R0 at h
  cases hE : rd_E S ro 193 0 [some (.ref c), some (.int x), none, none] [] σ with
  | none => rw [hE] at h; cases h
  | some q =>
    obtain ⟨r, σ1⟩ := q
    rw [hE] at h
    obtain ⟨n, hn⟩ := rd_E_iff.mp hE
    rcases rd_ev_ret n hn with ⟨-, hr⟩ | ⟨hr | hr, -⟩
    · subst hr
      have h : some ((0 : Int32), σ1) = some (0, _) := h
      refine ⟨n, ?_⟩
      rw [hn]
      have e := (Prod.mk.inj (Option.some.inj h)).2
      rw [e]
    · cases hr
    · exact absurd rd_ret193 hr
theorem rd_ent193 (a b : Value) : rd_ent 193 [a, b] = [some a, some b, none, none] := rfl
section RDP
variable {l : Launch} {D : va_G} {cI cZ : ClassId} {base : Nat} {ρ : Nat × (Nat → Int32)}
theorem rd_WA_fill {k pc0 len idx z : Nat} {q q1 : rd_Cf} (hlk : rd_look k q.1 = some (pc0, .invokestatic idx, len, [193, 2, z])) (h : rd_mkF q = some q1) : rd_WA l D cI cZ base ρ k q q1 ∧ q.2.2.2.1.length ≤ q1.2.2.2.1.length := by
  obtain ⟨i, vs, st, S, w, cu, su⟩ := q
  unfold rd_mkF at h
  split at h
  case h_2 => cases h
  rename_i i vs x c0 S w cu su heq
  cases heq
  split at h
  case isFalse => cases h
  rename_i hS
  cases h
  refine ⟨?_, Nat.le_refl _⟩
  intro p e R s m args below meth c Q H locs ls pc ad hF hR hn hA fin
  obtain ⟨hI, hpc, hH, hl, hst, hc, hs⟩ := hA
  dsimp only at hlk hpc hH hl hst hc hs fin ⊢
  obtain ⟨nn, hev⟩ := rd_fill_ev (ro := rd_ro ρ) (x := x) (σ := rd_num w) hS
  rw [← rd_ent193] at hev
  have hact : rd_act S (rd_ro ρ) k i vs [.int x, .ref c0] (rd_num w) = some (.inr (.inr (193, [.ref c0, .int x], []))) := by
    unfold rd_act
    rw [hlk]
    rfl
  refine rd_call hF hI hact hpc hH hl hst ⟨by omega, by omega⟩ (fun y b L ret fr lo hm hrm has hlen hmi => rd_met (rd_ok nn) hev hm hrm has hlen hmi) (fun pc' H' locs' h1 h2 h3 => ?_)
  exact fin ad H' locs' ls pc' rd_agr.rf ⟨hI, h1, by dsimp only; rw [rd_num_4]; exact h2, hl, rfl, hc, hs⟩
set_option maxHeartbeats 4000000 in
theorem rd_WA_put {k pc0 len idx ci sl f t : Nat} {q q1 : rd_Cf} (hlk : rd_look k q.1 = some (pc0, .putfield idx, len, [ci, sl, f, t])) (h : rd_mkP k ci sl t q = some q1) : rd_WA l D cI cZ base ρ k q q1 ∧ q.2.2.2.1.length ≤ q1.2.2.2.1.length := by
  obtain ⟨i, vs, st, S, w, cu, su⟩ := q
  unfold rd_mkP at h
  split at h
  case h_3 => cases h
  · rename_i i vs x c0 st S w cu su heq
    cases heq
    split at h
    case h_2 => cases h
    rename_i cj ks hsh
    split at h
    case isFalse => cases h
    rename_i hcond
    cases h
    obtain ⟨rfl, hkn, ht⟩ := hcond
    refine ⟨?_, Nat.le_refl _⟩
    intro p e R s m args below meth c Q H locs ls pc ad hF hR hn hA fin
    obtain ⟨hI, hpc, hH, hl, hst, hc, hs⟩ := hA
    dsimp only at hlk hpc hH hl hst hc hs fin ⊢
    rcases ht with ht | ⟨ht, hmi, hoc2⟩
    · have hact : rd_act S (rd_ro ρ) k i vs (.int x :: .ref c0 :: st) (rd_num w) = some (.inr (.inl (i + 1, vs, st, rd_u (rd_num w) c0 sl x))) := by
        unfold rd_act
        rw [hlk]
        simp only [rd_ins, rd_putf, hsh, hkn]
        rw [if_pos trivial, if_pos ht]
      exact rd_jump hF hI hact hpc hH hl hst ⟨by omega, by omega⟩ (fun pc' H' locs' ls' h1 h2 h3 h4 => fin ad H' locs' ls' pc' rd_agr.rf ⟨hI, h1, by dsimp only; rw [rd_num_u]; exact h2, h3, h4, hc, hs⟩)
    · subst ht
      obtain ⟨y, b, L, ret, fr, mc, ms, lo, hm, hx, hb, hml, hown, hw, hrm, hfr, hlo⟩ := hF
      obtain ⟨hoc, -, -, -, -⟩ := rd_mfact hm
      have hdg := rd_dec hlk hm
      have hck := rd_ck_ok hlk
      simp only [rd_ck, Bool.and_eq_true] at hck
      obtain ⟨⟨hl3, hnx⟩, ⟨hfl, hty⟩, h998⟩ := hck
      cases rd_beq hl3
      have hpce := rd_pc_of hlk hpc
      subst hpce
      have h9 := Nat.le_of_ble_eq_true h998
      obtain ⟨C, T, n, hv, hsl, hlk2⟩ := rd_flfact hfl hoc (by omega)
      obtain ⟨hin, ty0, hty0, hnm⟩ := rd_cfact hv
      obtain ⟨e1, e2⟩ := rd_fty_3 hv (rd_beq hty).symm
      have hv' : vwCl[cj]? = some (C, T, n) := by rw [← rd_nth_get]; exact hv
      have hwd := rd_wd_0 (cI := cI) (cZ := cZ) (ad := ad) (σ := rd_num w) hsh
      have hst0 : st.all rd_one = true := by simpa [rd_one] using hst
      have hset := rd_wd_set (cI := cI) (cZ := cZ) (ad := ad) (σ := rd_num w) (σ' := rd_u (rd_num w) c0 sl x) hsh rd_u_o
      have hfs : (rd_fs ad (rd_num w c0) 0 ks).set sl (.int x) = rd_fs ad (rd_u (rd_num w) c0 sl x c0) 0 ks := rd_fs_set hkn (by simp [rd_u]) (fun j hj => by simp [rd_u, hj])
      have hlen : sl < (rd_fs ad (rd_num w c0) 0 ks).length := by
        have : (rd_fs ad (rd_num w c0) 0 ks)[sl]? = some (.int (rd_num w c0 (0 + sl))) := by rw [rd_fs_at, hkn]; rfl
        exact (List.getElem?_eq_some_iff.mp this).1
      show W p l e R s m args below meth c H locs cu su Q (F0 m pc ls (.int x :: .ref (ad c0) :: st.map (rd_cv ad)))
      refine va_putF (ci := cj) (v := .int x) (ty := .int) hx hb hw hin ty0 hty0 hnm hown hI.1 hH.1 hH.2.1 hH.2.2 c0 hwd hv' sl hsl (hw _ hlk2) (fun _ h => h) e2 (hn hmi) ((rd_ffact hv hsl).1.trans (rd_own hm hv hoc2)) (by rw [e1]; decide +kernel) rfl rfl hlen hdg (fun H1 locs1 g1 g2 g3 => ?_)
      refine fin ad H1 locs1 ls (pc + 3) rd_agr.rf ⟨hI, rd_nx_nat hnx, ⟨?_, ?_, g3⟩, hl, hst0, hc, hs⟩
      · dsimp only
        rw [rd_num_u, ← hset]; rw [hfs] at g1; exact g1
      · dsimp only
        rw [rd_num_u, ← hset]; rw [hfs] at g2; exact g2
  · rename_i i vs v c0 st S w cu su heq
    cases heq
    split at h
    case h_2 => cases h
    rename_i cj ks hsh
    split at h
    case isFalse => cases h
    rename_i hcond
    cases h
    obtain ⟨rfl, hkl, rfl, hmi, hoc2⟩ := hcond
    refine ⟨?_, by simp⟩
    intro p e R s m args below meth c Q H locs ls pc ad hF hR hn hA fin
    obtain ⟨hI, hpc, hH, hl, hst, hc, hs⟩ := hA
    dsimp only at hlk hpc hH hl hst hc hs fin ⊢
    obtain ⟨y, b, L, ret, fr, mc, ms, lo, hm, hx, hb, hml, hown, hw, hrm, hfr, hlo⟩ := hF
    obtain ⟨hoc, -, -, -, -⟩ := rd_mfact hm
    have hdg := rd_dec hlk hm
    have hck := rd_ck_ok hlk
    simp only [rd_ck, Bool.and_eq_true] at hck
    obtain ⟨⟨hl3, hnx⟩, ⟨hfl, hty⟩, h998⟩ := hck
    cases rd_beq hl3
    have hpce := rd_pc_of hlk hpc
    subst hpce
    have h9 := Nat.le_of_ble_eq_true h998
    obtain ⟨C, T, n, hv, hsl, hlk2⟩ := rd_flfact hfl hoc (by omega)
    obtain ⟨hin, ty0, hty0, hnm⟩ := rd_cfact hv
    obtain ⟨e0, e1, e2⟩ := rd_fty_2 hv (rd_beq hty).symm
    obtain ⟨t1, t2⟩ := rd_ffact hv hsl
    obtain ⟨ty, t3, t4⟩ : ∃ ty, parseFieldDescriptor (T sl).2.2.1 = some ty ∧ rd_isR ty = true := by
      rcases t2 with t2 | t2 | t2
      · exact absurd t2 e0
      · exact absurd t2 e1
      · exact t2
    have hv' : vwCl[cj]? = some (C, T, n) := by rw [← rd_nth_get]; exact hv
    have hwd := rd_wd_0 (cI := cI) (cZ := cZ) (ad := ad) (σ := rd_num w) hsh
    have hst0 : st.all rd_one = true := by simpa [rd_one] using hst
    have hlen : sl < (rd_fs ad (rd_num w c0) 0 ks).length := by
      have : (rd_fs ad (rd_num w c0) 0 ks)[sl]? = (rd_nth ks sl).map (fun o => rd_fv ad (rd_num w c0 (0 + sl)) o) := rd_fs_at ..
      rw [rd_nth_get, List.getElem?_eq_getElem hkl] at this
      exact (List.getElem?_eq_some_iff.mp this).1
    have hset := rd_wd_ref (cI := cI) (cZ := cZ) (ad := ad) (σ := rd_num w) (v := v) hsh hkl
    show W p l e R s m args below meth c H locs cu su Q (F0 m pc ls (.ref (ad v) :: .ref (ad c0) :: st.map (rd_cv ad)))
    refine va_putF (ci := cj) (v := .ref (ad v)) (ty := ty) hx hb hw hin ty0 hty0 hnm hown hI.1 hH.1 hH.2.1 hH.2.2 c0 hwd hv' sl hsl (hw _ hlk2) (fun _ h => h) e2 (hn hmi) (t1.trans (rd_own hm hv hoc2)) t3 (rd_fits t4 _).1 (rd_fits t4 _).2.1 hlen hdg (fun H1 locs1 g1 g2 g3 => ?_)
    refine fin ad H1 locs1 ls (pc + 3) rd_agr.rf ⟨hI, rd_nx_nat hnx, ⟨?_, ?_, g3⟩, hl, hst0, hc, hs⟩
    · dsimp only
      rw [← hset]; exact g1
    · dsimp only
      rw [← hset]; exact g2
end RDP
