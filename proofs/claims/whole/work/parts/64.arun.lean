/-! A constructor's contract, and the whole run of the making machine. -/
def rd_QA (D : va_G) (cI cZ : ClassId) (ad : Nat → Nat) (base n : Nat) (S2 : List rd_Sh) (w2 : rd_Wr) : Array Value → State → Outcome → State → Prop :=
  fun _ st o t => o = .returned none ∧ ∃ ad', rd_agr n ad ad' ∧ va_P D vwCl (rd_wd cI cZ ad' (rd_num w2) 0 S2) t.heap ∧ va_D (fun q => base ≤ q) (rd_wd cI cZ ad' (rd_num w2) 0 S2) ∧ va_F (fun q => base ≤ q) st t
theorem rd_contA {p : Program} {l : Launch} {e : Env} {R : Room} {s : State} {m : MethodId} {args : Array Value} {below : List Frame} {meth : Method} {c : Code} {cells slots : Nat} {Q : State → Prop} {D : va_G} {cI cZ : ClassId} {ad : Nat → Nat} {base n : Nat} {H : Heap} {locs : List Loc} {ls : Array Slot}
    {pc mc ms : Nat} {st0 rest : List Value} {a : Array Value} {S2 : List rd_Sh} {w2 : rd_Wr}
    (hr : va_Run p l e R s m args below meth c H locs cells slots mc ms (F0 m pc ls st0) rest (rd_QA D cI cZ ad base n S2 w2 a) (fun q => base ≤ q)) (hS : va_S (fun q => base ≤ q) s.heap H locs)
    (kk : ∀ (ad' : Nat → Nat) (H1 : Heap) (locs1 : List Loc), rd_agr n ad ad' → rd_Hp D cI cZ ad' base S2 s H1 locs1 (rd_num w2) → W p l e R s m args below meth c H1 locs1 (cells + mc) (slots + ms) Q (F0 m (pc + 3) ls rest)) :
    W p l e R s m args below meth c H locs cells slots Q (F0 m pc ls st0) := by
  intro T hT X
  obtain ⟨v, st₀, t, T', L, h0, X', hL, e1, e2, ⟨hv, ad', hag, hP, hD, hz, hk⟩, st⟩ := hr T hT X
  cases hv
  rw [h0] at hz hk
  obtain ⟨t2, a1, b1⟩ := kk ad' T'.heap (locs ++ L) hag ⟨by rw [e1]; exact hP, hD, ⟨Nat.le_trans hS.1 (by rw [e1]; exact hz), fun q h1 h2 => by rw [e1, hk q (Nat.lt_of_lt_of_le h1 hS.1) h2]; exact hS.2.1 q h1 h2, fun q hq => by
      rcases List.mem_append.mp hq with h | h
      · exact hS.2.2 q h
      · exact hL q h⟩⟩ T' rfl X'
  exact ⟨t2, st t2 a1, b1⟩
section RDZ
variable {l : Launch} {D : va_G} {cI cZ : ClassId} {base : Nat} {ρ : Nat × (Nat → Int32)}
theorem rd_metA {k : Nat} {as : List Value} {S S2 : List rd_Sh} {w w2 : rd_Wr} {i2 cu2 su2 : Nat} {vs2 : rd_Lv} (hWA : rd_WA l D cI cZ base ρ k (0, rd_ent k as, [], S, w, 0, 0) (i2, vs2, [], S2, w2, cu2, su2)) (hret : ∃ pc1 len aux, rd_look k i2 = some (pc1, .return_, len, aux))
    (hc2 : cu2 ≤ (rd_mc k).1) (hs2 : su2 ≤ (rd_mc k).2) {ad : Nat → Nat}
    {y : MethodName} {b : ByteArray} {L : Nat} {fr mc ms lo : Nat} (hm : rd_nth rd_mt k = some (y, b, L, none)) (hrm : rd_nth rd_rm k = some (fr, mc, ms, lo)) (has : as.all rd_one = true) (hlen : as.length ≤ L) (hmi : rd_mi k = 2) :
    Met l y (rd_ws y b L none) { frames := fr, cells := mc, slots := ms, locals := lo } (rd_Pc D cI cZ ad base ρ S (rd_num w) as) (rd_QA D cI cZ ad base S.length S2 w2) mc ms (fun q => base ≤ q) := by
  obtain ⟨hoc, hnh, hpar, hL, hrest⟩ := rd_mfact hm
  obtain ⟨hpl, -, -, -, -, hi2⟩ := hrest (by omega)
  obtain ⟨-, hyn, -⟩ := hi2 hmi
  have hmc : rd_mc k = (mc, ms) := by unfold rd_mc; rw [hrm]
  refine Met.ofW (cc := b) (maxL := L) (ret := none) hpl rfl ?_
  intro p e s m args below meth c s₁ B hml hv
  obtain ⟨rfl, hI, hP, hD⟩ := hv
  have hts := atoms_spec (ws := rd_ws y b L none) B.pre
  have hF : rd_Fr p (headSpec (rd_ws y b L none) { frames := fr, cells := mc, slots := ms, locals := lo }).room s m (as.map (rd_cv ad)).toArray c k :=
    ⟨y, b, L, none, fr, mc, ms, lo, hm, B.exec, B.bytes, hml, findClass_of_methodNamed B.named, fun w hw => hts w (List.mem_cons_of_mem _ hw), hrm, Nat.le_refl _, Nat.le_refl _⟩
  have hin : meth.name = "<init>" := (name_of_methodNamed B.named B.method).1.trans hyn
  rw [lg_entry_eq]
  have hpc0 : rd_pc k 0 = some 0 := by
    have hk : k < 195 := by
      have h := rd_nth_lt hm
      have e0 : rd_mt.length = 195 := by decide +kernel
      omega
    exact rd_pc0 hk
  refine hWA p e _ s m _ below meth c _ s.heap [] _ 0 ad hF (by rw [hmc]; exact ⟨Nat.le_refl _, Nat.le_refl _⟩) (fun _ => hin) ⟨hI, hpc0, ⟨hP, hD, va_S.rf⟩, by rw [hml]; exact rd_ent_ls has hlen hL, rfl, Nat.zero_le _, Nat.zero_le _⟩ ?_
  intro ad' H' locs' ls' pc' hag hA
  obtain ⟨-, hpc', hH', -, -, -, -⟩ := hA
  obtain ⟨pc1, len, aux, hlk⟩ := hret
  have hpce := rd_pc_of hlk hpc'
  subst hpce
  have hr := B.returns
  have hlocks := B.notSynchronized
  have hdg := rd_dec hlk hm
  have hck := rd_ck_ok hlk
  simp only [rd_ck, Bool.and_eq_true, decide_eq_true_eq] at hck
  cases rd_beq hck.1
  rw [hmc] at hc2 hs2
  refine W.widen (k := mc) (n := ms) hc2 hs2 ?_
  exact W.vret B.exec B.bytes hr (fun t ht hW => ⟨rfl, ad', hag, by rw [ht]; exact hH'.1, hH'.2.1, hH'.2.2.F ht⟩) hH'.2.2.2.2 hdg
set_option maxHeartbeats 4000000 in
theorem rd_WA_call {k pc0 len idx k2 na z : Nat} {i : Nat} {vs : rd_Lv} {st : List Value} {S : List rd_Sh} {w : rd_Wr} {cu su : Nat} {as rest : List Value} {c0 i2 cu2 su2 : Nat} {vs2 : rd_Lv} {S2 : List rd_Sh} {w2 : rd_Wr}
    (hlk : rd_look k i = some (pc0, .invokespecial idx, len, [k2, na, z])) (hpop : rd_pop na [] st = some (as, .ref c0 :: rest)) (hfew : rd_few rest = true) (hmi : rd_mi k2 = 2) (hvs : vs.all (rd_ook S.length) = true) (hre : rest.all (rd_vok S.length) = true)
    (hcu : cu + (rd_mc k2).1 ≤ (rd_mc k).1) (hsu : su + (rd_mc k2).2 ≤ (rd_mc k).2) (hWA : rd_WA l D cI cZ base ρ k2 (0, rd_ent k2 (.ref c0 :: as), [], S, w, 0, 0) (i2, vs2, [], S2, w2, cu2, su2)) (hret : ∃ pc1 len aux, rd_look k2 i2 = some (pc1, .return_, len, aux))
    (hc2 : cu2 ≤ (rd_mc k2).1) (hs2 : su2 ≤ (rd_mc k2).2) : rd_WA l D cI cZ base ρ k (i, vs, st, S, w, cu, su) (i + 1, vs, rest, S2, w2, cu + (rd_mc k2).1, su + (rd_mc k2).2) := by
  intro p e R s m args below meth c Q H locs ls pc ad hF hR hn hA fin
  obtain ⟨hI, hpc, hH, hl, hst, hc, hs⟩ := hA
  dsimp only at hpc hH hl hst hc hs fin ⊢
  obtain ⟨y, b, L, ret, fr, mc, ms, lo, hm, hx, hb, hml, hown, hw, hrm, hfr, hlo⟩ := hF
  obtain ⟨hoc, -, -, -, -⟩ := rd_mfact hm
  have hdg := rd_dec hlk hm
  have hck := rd_ck_ok hlk
  simp only [rd_ck, Bool.and_eq_true] at hck
  obtain ⟨⟨hl3, hnx⟩, ⟨⟨⟨h1, h2⟩, h3⟩, h5⟩, h7⟩ := hck
  cases rd_beq hl3
  have hpce := rd_pc_of hlk hpc
  subst hpce
  obtain ⟨ps, hp1, hp2, hp3⟩ := rd_pop_spec hpop
  rw [List.append_nil] at hp2
  obtain ⟨hf1, hf2⟩ := rd_few_spec hfew
  obtain ⟨-, -, -, hml3⟩ := rd_mlfact h1 hoc
  have hk2 : k2 ≠ 1000 ∧ k2 ≠ 1001 ∧ k2 ≠ 2000 := by
    refine ⟨?_, ?_, ?_⟩ <;> (intro e0; subst e0; revert hmi; decide +kernel)
  obtain ⟨y2, b2, L2, ret2, hm2, hlk2⟩ := hml3 hk2.1 hk2.2.1 hk2.2.2
  obtain ⟨-, hnh, hpar, hL2, hrest2⟩ := rd_mfact hm2
  obtain ⟨hpl2, hcode, hini, -, -, hi2⟩ := hrest2 (by omega)
  obtain ⟨hinst, hyn, hrn⟩ := hi2 hmi
  subst hrn
  unfold rd_rmok at h5
  rw [hrm] at h5
  cases hrm2 : rd_nth rd_rm k2 with
  | none => rw [hrm2] at h5; cases h5
  | some qr =>
  obtain ⟨fr2, mc2, ms2, lo2⟩ := qr
  rw [hrm2] at h5
  simp only [Bool.and_eq_true, Nat.ble_eq] at h5
  have hmc2 : rd_mc k2 = (mc2, ms2) := by unfold rd_mc; rw [hrm2]
  have hst' : (ps ++ Value.ref c0 :: rest).all rd_one = true := by rw [← hp3]; exact hst
  rw [List.all_append, Bool.and_eq_true] at hst'
  have has : (Value.ref c0 :: as).all rd_one = true := by
    rw [hp2]
    simp only [List.all_cons, rd_one, Bool.true_and]
    rw [List.all_reverse]
    exact hst'.1
  have hlen2 : (Value.ref c0 :: as).length ≤ L2 := by
    rw [hp2, hL2]
    simp only [List.length_cons, List.length_reverse, hp1]
    exact Nat.le_of_ble_eq_true h7
  have hM := rd_metA (ad := ad) hWA hret hc2 hs2 hm2 hrm2 has hlen2 hmi
  have hnn : na = rd_at rd_np k2 := rd_beq h3
  have hcb : CallB R s args y.cls idx y2 b2 L2 none (rd_ws y2 b2 L2 none) { frames := fr2, cells := mc2, slots := ms2, locals := lo2 } mc2 ms2 na :=
    callB_of na hw (rd_goodIn hcode) rfl rfl rfl (hw _ hini) (hw _ hlk2) ⟨hnh.1, hnh.2, by rw [hpar, hnn]⟩ ⟨by dsimp only; omega, by dsimp only; rw [hL2]; omega⟩
  have hX : ∀ U : State, U.heap = H → s.WarmedH U.vm → rd_In D cI cZ ad base ρ U ∧ va_P D vwCl (rd_wd cI cZ ad (rd_num w) 0 S) U.heap ∧ va_D (fun q => base ≤ q) (rd_wd cI cZ ad (rd_num w) 0 S) := fun U hU hW => ⟨hI.at (σ := rd_num w) hH.2.2 hU hW.alike, by rw [hU]; exact hH.1, hH.2.1⟩
  rw [hmc2] at hcu hsu fin
  dsimp only at hcu hsu fin
  have hrun := va_runI (p := p) (l := l) (e := e) (R := R) (s := s) (m := m) (args := args) (below := below) (meth := meth) (c := c) (H := H) (locs := locs) (cells := cu) (slots := su) (As := as.map (rd_cv ad)) (rest := rest.map (rd_cv ad)) (b := ad c0) (g := F0 m pc ls (st.map (rd_cv ad))) (nL := c.maxLocals) ⟨hx, hb, rfl, hown, hw⟩ hM ⟨hcb, hyn, hw _ hinst⟩ ⟨rd_blind, fun U hU hW => ⟨rfl, hX U hU hW⟩⟩ rfl (by rw [List.length_map, hp2, List.length_reverse, hp1]) hl.1 (by rw [hp3, hp2]; simp [rd_cv]) (lv_room (by rw [rd_cat_sum hf1]; exact hf2)) hdg ⟨by omega, by omega⟩
  refine rd_contA hrun hH.2.2 (fun ad' H1 locs1 hag hh => ?_)
  have hf := fin ad' H1 locs1 ls (pc + 3) hag ⟨hI.agr hag, rd_nx_nat hnx, hh, hl.agr hag hvs, hf1, hcu, hsu⟩
  rw [rd_map_agr hag hre] at hf
  exact hf
theorem rd_mk_ok {k pc0 len : Nat} {ins : Instr} {aux : List Nat} {q q1 : rd_Cf} (hlk : rd_look k q.1 = some (pc0, ins, len, aux)) (h : rd_mk k ins aux q = some q1) : rd_WA l D cI cZ base ρ k q q1 ∧ q.2.2.2.1.length ≤ q1.2.2.2.1.length := by
  cases ins with
  | new idx =>
    simp only [rd_mk] at h
    split at h
    · exact rd_WA_new hlk h
    · cases h
  | newarray ty =>
    simp only [rd_mk] at h
    split at h
    · exact rd_WA_arr (b0 := false) rfl hlk h
    · exact rd_WA_arr (b0 := true) rfl hlk h
    · cases h
  | putfield idx =>
    simp only [rd_mk] at h
    split at h
    · exact rd_WA_put hlk h
    · cases h
  | invokespecial idx =>
    simp only [rd_mk] at h
    split at h
    · split at h
      · exact rd_WA_obj hlk h
      · cases h
    · cases h
  | invokestatic idx =>
    simp only [rd_mk] at h
    split at h
    · split at h
      · rename_i hc
        obtain ⟨rfl, rfl⟩ := hc
        exact rd_WA_fill hlk h
      · cases h
    · cases h
  | iconst _ => exact rd_WA_pur hlk rfl h
  | bipush _ => exact rd_WA_pur hlk rfl h
  | sipush _ => exact rd_WA_pur hlk rfl h
  | iload_n _ => exact rd_WA_pur hlk rfl h
  | iload _ => exact rd_WA_pur hlk rfl h
  | aload_n _ => exact rd_WA_pur hlk rfl h
  | aload _ => exact rd_WA_pur hlk rfl h
  | istore_n _ => exact rd_WA_pur hlk rfl h
  | istore _ => exact rd_WA_pur hlk rfl h
  | astore_n _ => exact rd_WA_pur hlk rfl h
  | astore _ => exact rd_WA_pur hlk rfl h
  | dup => exact rd_WA_pur hlk rfl h
  | imul => exact rd_WA_pur hlk rfl h
  | getfield _ => exact rd_WA_pur hlk rfl h
  | _ => cases h
theorem rd_isSp_of {ins : Instr} {aux : List Nat} {k2 na : Nat} (h : rd_isSp ins aux = some (k2, na)) : ∃ idx z, ins = .invokespecial idx ∧ aux = [k2, na, z] := by
  unfold rd_isSp at h
  split at h
  · cases h; exact ⟨_, _, rfl, rfl⟩
  · cases h
theorem rd_isRet_of {ins : Instr} (h : rd_isRet ins = true) : ins = .return_ := by
  unfold rd_isRet at h
  split at h
  · rfl
  · cases h
theorem rd_mi194 : rd_mi 194 = 3 := by decide +kernel
theorem rd_av_ok : ∀ (n k : Nat) (q q' : rd_Cf), rd_av n k q = some q' → rd_WA l D cI cZ base ρ k q q' ∧ ((k = 194 ∧ q'.1 = 10) ∨ ∃ pc1 len aux, rd_look k q'.1 = some (pc1, .return_, len, aux)) := by
  intro n
  induction n with
  | zero => intro k q q' h; cases h
  | succ n ih =>
    intro k q q' h
    rw [rd_av] at h
    split at h
    · rename_i hc
      cases h
      exact ⟨rd_WA.rf, Or.inl hc⟩
    split at h
    · cases h
    rename_i pc0 ins len aux hlk
    split at h
    · rename_i hr
      cases h
      have := rd_isRet_of hr
      subst this
      exact ⟨rd_WA.rf, Or.inr ⟨_, _, _, hlk⟩⟩
    split at h
    · rename_i k2 na hsp
      obtain ⟨idx, z, rfl, rfl⟩ := rd_isSp_of hsp
      split at h
      · rename_i as c0 rest hpop
        split at h
        · rename_i hcond
          obtain ⟨c1, c2, c3, c4, c5, c6⟩ := hcond
          split at h
          · rename_i i2 vs2 st2 S2 w2 cu2 su2 hav
            split at h
            · rename_i hc2
              obtain ⟨rfl, d2, d3, d4⟩ := hc2
              obtain ⟨a1, a2⟩ := ih _ _ _ hav
              obtain ⟨b1, b2⟩ := ih _ _ _ h
              have hre : ∃ pc1 len aux, rd_look k2 i2 = some (pc1, .return_, len, aux) := by
                rcases a2 with ⟨e, -⟩ | a2
                · subst e; rw [rd_mi194] at c2; cases c2
                · exact a2
              obtain ⟨i, vs, st, S, w, cu, su⟩ := q
              exact ⟨(rd_WA_call hlk hpop c1 c2 c3 c4 c5 c6 a1 hre d2 d3).tr d4 b1, b2⟩
            · cases h
          · cases h
        · cases h
      · cases h
    · split at h
      · rename_i q1 hmk
        obtain ⟨a1, a2⟩ := rd_mk_ok (l := l) (D := D) (cI := cI) (cZ := cZ) (base := base) (ρ := ρ) hlk hmk
        obtain ⟨b1, b2⟩ := ih _ _ _ h
        exact ⟨a1.tr a2 b1, b2⟩
      · cases h
end RDZ
