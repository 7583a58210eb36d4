/-! Calls, contracts, and the whole run. -/
def rd_Pc (D : va_G) (cI cZ : ClassId) (ad : Nat → Nat) (base : Nat) (ρ : Nat × (Nat → Int32)) (S : List rd_Sh) (σ : rd_Sg) (as : List Value) : Array Value → State → Prop :=
  va_Pc (as.map (rd_cv ad)) (fun U => rd_In D cI cZ ad base ρ U ∧ va_P D vwCl (rd_wd cI cZ ad σ 0 S) U.heap ∧ va_D (fun q => base ≤ q) (rd_wd cI cZ ad σ 0 S))
def rd_Qc (D : va_G) (cI cZ : ClassId) (ad : Nat → Nat) (base : Nat) (S : List rd_Sh) (r : Option Value) (σ' : rd_Sg) : Array Value → State → Outcome → State → Prop :=
  fun _ st o t => o = .returned (r.map (rd_cv ad)) ∧ va_P D vwCl (rd_wd cI cZ ad σ' 0 S) t.heap ∧ va_D (fun q => base ≤ q) (rd_wd cI cZ ad σ' 0 S) ∧ va_F (fun q => base ≤ q) st t
theorem rd_pop_spec : ∀ {n : Nat} {acc st as rest : List Value}, rd_pop n acc st = some (as, rest) → ∃ ps : List Value, ps.length = n ∧ as = ps.reverse ++ acc ∧ st = ps ++ rest := by
  intro n
  induction n with
  | zero => intro acc st as rest h; rw [rd_pop] at h; cases h; exact ⟨[], rfl, rfl, rfl⟩
  | succ n ih =>
    intro acc st as rest h
    cases st with
    | nil => rw [rd_pop] at h; cases h
    | cons v st =>
      rw [rd_pop] at h
      obtain ⟨ps, h1, h2, h3⟩ := ih h
      exact ⟨v :: ps, by simp [h1], by simp [h2], by simp [h3]⟩
theorem rd_few_spec {rest : List Value} (h : rd_few rest = true) : rest.all rd_one = true ∧ rest.length ≤ 8 := by
  unfold rd_few at h
  rw [Bool.and_eq_true] at h
  exact ⟨h.1, Nat.le_of_ble_eq_true h.2⟩
theorem rd_sl_len {ad : Nat → Nat} : ∀ {as : List Value}, as.all rd_one = true → (lg_sl (as.map (rd_cv ad))).length = as.length := by
  intro as
  induction as with
  | nil => intro _; rfl
  | cons v as ih =>
    intro h
    rw [List.all_cons, Bool.and_eq_true] at h
    have hc := rd_one_cat (rd_cv_one (ad := ad) h.1)
    have h2 := ih h.2
    unfold lg_sl at h2 ⊢
    simp only [List.map_cons, List.flatMap_cons, List.length_append, List.length_cons]
    rw [h2, if_neg (by rw [hc]; decide)]
    simp
    omega
theorem rd_args_mem {ad : Nat → Nat} : ∀ {as : List Value} {j0 j : Nat} {v : Value}, as.all rd_one = true → rd_nth as j = some v → (j0 + j, rd_cv ad v) ∈ lv_args j0 (as.map (rd_cv ad)) := by
  intro as
  induction as with
  | nil => intro j0 j v _ h; cases h
  | cons a as ih =>
    intro j0 j v h hj
    rw [List.all_cons, Bool.and_eq_true] at h
    have hc := rd_one_cat (rd_cv_one (ad := ad) h.1)
    rw [List.map_cons, lv_args, if_neg (by rw [hc]; decide)]
    cases j with
    | zero => rw [rd_nth] at hj; cases hj; exact List.mem_cons_self
    | succ j =>
      rw [rd_nth] at hj
      refine List.mem_cons_of_mem _ ?_
      have := ih (j0 := j0 + 1) h.2 hj
      rwa [show j0 + 1 + j = j0 + (j + 1) by omega] at this
theorem rd_ent_at {k : Nat} {v : Value} : ∀ {as : List Value} {n j : Nat}, rd_nth (as.map some ++ List.replicate n none) j = some (some v) → rd_nth as j = some v := by
  intro as
  induction as with
  | nil =>
    intro n j h
    rw [rd_nth_get, List.map_nil, List.nil_append] at h
    have h2 := List.mem_of_getElem? h
    have h3 := List.eq_of_mem_replicate h2
    cases h3
  | cons a as ih =>
    intro n j h
    cases j with
    | zero => simp only [List.map_cons, List.cons_append, rd_nth] at h ⊢; cases h; rfl
    | succ j => simp only [List.map_cons, List.cons_append, rd_nth] at h ⊢; exact ih h
theorem rd_ent_ls {ad : Nat → Nat} {k L : Nat} {as : List Value} (h1 : as.all rd_one = true) (hlen : as.length ≤ L) (hL : L = rd_mL k) : rd_Ls ad ((lg_sl (as.map (rd_cv ad)) ++ List.replicate (L - (lg_sl (as.map (rd_cv ad))).length) Slot.unset).toArray) L (rd_ent k as) := by
  have h := lv_entry (as.map (rd_cv ad)) (n := L) (by rw [rd_sl_len h1]; exact hlen)
  refine ⟨h.1, h.2.1, ?_, fun j v hj => ?_⟩
  · unfold rd_ent
    simp only [List.length_append, List.length_map, List.length_replicate]
    omega
  · have hj' := rd_ent_at (k := k) hj
    refine ⟨List.all_eq_true.mp h1 v (rd_nth_mem hj'), ?_⟩
    have := h.2.2 _ (rd_args_mem (ad := ad) (j0 := 0) h1 hj')
    simpa using this
section RDC
variable {p : Program} {l : Launch} {e : Env} {R : Room} {s : State} {m : MethodId} {args : Array Value} {below : List Frame} {meth : Method} {c : Code} {cells slots : Nat} {Q : State → Prop}
variable {D : va_G} {cI cZ : ClassId} {ad : Nat → Nat} {base : Nat} {ρ : Nat × (Nat → Int32)} {S : List rd_Sh}
variable {H : Heap} {locs : List Loc} {ls : Array Slot} {cc : ByteArray}
theorem rd_In.at {U : State} {σ : rd_Sg} (hI : rd_In D cI cZ ad base ρ s) (hS : va_S (fun q => base ≤ q) s.heap H locs) (hU : U.heap = H) (hvm : s.vm.Alike U.vm) : rd_In D cI cZ ad base ρ U :=
  ⟨va_K.moved hvm hI.1, by rw [hU]; exact (hI.2.kept hS).moved hvm⟩
theorem rd_blind {σ : rd_Sg} {as : List Value} : FrameBlind (rd_Pc D cI cZ ad base ρ S σ as) := by
  intro a U g mk h
  obtain ⟨h1, ⟨hK, hX⟩, hP, hD⟩ := h
  exact ⟨h1, ⟨va_K.moved (u := U) (U := U.calling g mk a) (Vm.Alike.refl U.vm) hK, rd_X.moved (s := U) (u := U.calling g mk a) (Vm.Alike.refl U.vm) hX⟩, hP, hD⟩
theorem rd_cont {pc mc ms : Nat} {st0 rest : List Value} {a : Array Value} {r : Option Value} {σ' : rd_Sg}
    (hr : va_Run p l e R s m args below meth c H locs cells slots mc ms (F0 m pc ls st0) rest (rd_Qc D cI cZ ad base S r σ' a) (fun q => base ≤ q)) (hS : va_S (fun q => base ≤ q) s.heap H locs)
    (kk : ∀ (H1 : Heap) (locs1 : List Loc), rd_Hp D cI cZ ad base S s H1 locs1 σ' → W p l e R s m args below meth c H1 locs1 (cells + mc) (slots + ms) Q (F0 m (pc + 3) ls ((r.map (rd_cv ad)).toList ++ rest))) :
    W p l e R s m args below meth c H locs cells slots Q (F0 m pc ls st0) := by
  intro T hT X
  obtain ⟨v, st₀, t, T', L, h0, X', hL, e1, e2, ⟨hv, hP, hD, hz, hk⟩, st⟩ := hr T hT X
  cases hv
  rw [h0] at hz hk
  obtain ⟨t2, a1, b1⟩ := kk T'.heap (locs ++ L) ⟨by rw [e1]; exact hP, hD, ⟨Nat.le_trans hS.1 (by rw [e1]; exact hz), fun q h1 h2 => by rw [e1, hk q (Nat.lt_of_lt_of_le h1 hS.1) h2]; exact hS.2.1 q h1 h2, fun q hq => by
      rcases List.mem_append.mp hq with h | h
      · exact hS.2.2 q h
      · exact hL q h⟩⟩ T' rfl X'
  exact ⟨t2, st t2 a1, b1⟩
set_option maxHeartbeats 4000000 in
theorem rd_call {k i : Nat} {vs : rd_Lv} {st : List Value} {σ σ' : rd_Sg} {k2 : Nat} {as rest : List Value} {pc : Nat} {r : Option Value} (hF : rd_Fr p R s m args c k) (hI : rd_In D cI cZ ad base ρ s)
    (ha : rd_act S (rd_ro ρ) k i vs st σ = some (.inr (.inr (k2, as, rest)))) (hpc : rd_pc k i = some pc) (hH : rd_Hp D cI cZ ad base S s H locs σ) (hl : rd_Ls ad ls c.maxLocals vs) (hst : st.all rd_one = true) (hcs : cells ≤ R.cells ∧ slots ≤ R.slots)
    (hmet : ∀ (y : MethodName) (b : ByteArray) (L : Nat) (ret : Option FieldType) (fr lo : Nat), rd_nth rd_mt k2 = some (y, b, L, ret) → rd_nth rd_rm k2 = some (fr, 0, 0, lo) → as.all rd_one = true → as.length ≤ L → rd_mi k2 ≠ 3 → Met l y (rd_ws y b L ret) { frames := fr, cells := 0, slots := 0, locals := lo } (rd_Pc D cI cZ ad base ρ S σ as) (rd_Qc D cI cZ ad base S r σ') 0 0 (fun q => base ≤ q))
    (kk : ∀ (pc' : Nat) (H' : Heap) (locs' : List Loc), rd_pc k (i + 1) = some pc' → rd_Hp D cI cZ ad base S s H' locs' σ' → rest.all rd_one = true → W p l e R s m args below meth c H' locs' cells slots Q (F0 m pc' ls ((r.toList ++ rest).map (rd_cv ad)))) :
    W p l e R s m args below meth c H locs cells slots Q (F0 m pc ls (st.map (rd_cv ad))) := by
  obtain ⟨y, b, L, ret, fr, mc, ms, lo, hm, hx, hb, hml, hown, hw, hrm, hfr, hlo⟩ := hF
  obtain ⟨hoc, -, -, -, -⟩ := rd_mfact hm
  have hlist : (r.toList ++ rest).map (rd_cv ad) = (r.map (rd_cv ad)).toList ++ rest.map (rd_cv ad) := by cases r <;> simp
  rw [hlist] at kk
  unfold rd_act at ha
  unfold rd_pc at hpc
  split at ha
  case h_2 => cases ha
  case h_1 pc0 ins len aux hlk =>
  rw [hlk] at hpc
  cases hpc
  have hdg := rd_dec hlk hm
  have hck := rd_ck_ok hlk
  have rmk : ∀ {k2 : Nat}, rd_rmok k k2 = true → rd_z k2 = true → ∃ fr2 lo2, rd_nth rd_rm k2 = some (fr2, 0, 0, lo2) ∧ fr2 + 1 ≤ R.frames ∧ 8 + (rd_mL k2 + 11) + lo2 ≤ R.locals := by
    intro k2 h1 h2
    unfold rd_rmok at h1
    unfold rd_z at h2
    rw [hrm] at h1
    split at h2
    · rename_i f2 lo2 h3
      rw [h3] at h1
      simp only [Bool.and_eq_true, Nat.ble_eq] at h1
      exact ⟨f2, lo2, h3, by omega, by omega⟩
    · cases h2
  have hX : ∀ U : State, U.heap = H → s.WarmedH U.vm → rd_In D cI cZ ad base ρ U ∧ va_P D vwCl (rd_wd cI cZ ad σ 0 S) U.heap ∧ va_D (fun q => base ≤ q) (rd_wd cI cZ ad σ 0 S) := fun U hU hW => ⟨hI.at (σ := σ) hH.2.2 hU hW.alike, by rw [hU]; exact hH.1, hH.2.1⟩
  cases ins with
  | invokevirtual idx =>
    simp only [rd_ins] at ha
    simp only [rd_ck] at hck
    split at ha
    · rename_i k2' n q ci
      simp only [Bool.and_eq_true] at hck
      obtain ⟨⟨hlen, hnx⟩, ⟨⟨⟨⟨⟨h1, h2⟩, h3⟩, h4⟩, h5⟩, h6⟩, h7⟩ := hck
      cases rd_beq hlen
      unfold rd_callV at ha
      split at ha
      · rename_i as' cl rest' hpop
        split at ha
        · rename_i cj ks hsh
          split at ha
          · rename_i hcc
            cases ha
            obtain ⟨ps, hp1, hp2, hp3⟩ := rd_pop_spec hpop
            rw [List.append_nil] at hp2
            obtain ⟨hf1, hf2⟩ := rd_few_spec hcc.2
            have hmi := rd_beq h2
            obtain ⟨-, -, -, hml3⟩ := rd_mlfact h1 hoc
            have hk2 : k2 ≠ 1000 ∧ k2 ≠ 1001 ∧ k2 ≠ 2000 := by
              refine ⟨?_, ?_, ?_⟩ <;> (intro e0; subst e0; revert hmi; decide +kernel)
            obtain ⟨y2, b2, L2, ret2, hm2, hlk2⟩ := hml3 hk2.1 hk2.2.1 hk2.2.2
            obtain ⟨-, hnh, hpar, hL2, hrest2⟩ := rd_mfact hm2
            obtain ⟨hpl2, hcode, hini, -, hv2, -⟩ := hrest2 (by rw [hmi]; decide)
            obtain ⟨hins, hsel, hcn⟩ := hv2 hmi
            obtain ⟨fr2, lo2, hrm2, hr1, hr2⟩ := rmk h5 h6
            have hst' : (ps ++ Value.ref cl :: rest).all rd_one = true := by rw [← hp3]; exact hst
            rw [List.all_append, Bool.and_eq_true] at hst'
            have has : (Value.ref cl :: as').all rd_one = true := by
              rw [hp2]
              simp only [List.all_cons, rd_one, Bool.true_and]
              rw [List.all_reverse]
              exact hst'.1
            have hlen2 : (Value.ref cl :: as').length ≤ L2 := by
              rw [hp2, hL2]
              simp only [List.length_cons, List.length_reverse, hp1]
              exact Nat.le_of_ble_eq_true h7
            have hM := hmet y2 b2 L2 ret2 fr2 lo2 hm2 hrm2 has hlen2 (by rw [hmi]; decide)
            have hn : n = rd_at rd_np k2 := rd_beq h3
            have hcb : CallB R s args y.cls idx y2 b2 L2 ret2 (rd_ws y2 b2 L2 ret2) { frames := fr2, cells := 0, slots := 0, locals := lo2 } 0 0 n :=
              callB_of n hw (rd_goodIn hcode) rfl rfl rfl (hw _ hini) (hw _ hlk2) ⟨hnh.1, hnh.2, by rw [hpar, hn]⟩ ⟨hr1, by rw [hL2]; exact hr2⟩
            have hcl : vwCl[cj]?.map (fun q => q.1) = some y2.cls := by
              rw [rd_nth_get, List.getElem?_map] at hcn
              rw [hcc.1, rd_beq h4]
              exact hcn
            cases hvc : vwCl[cj]? with
            | none => rw [hvc] at hcl; cases hcl
            | some qc =>
              rw [hvc] at hcl
              have hqc : qc.1 = y2.cls := Option.some.inj hcl
              have hrecv := va_recv hI.1 hH.1 hvc (rd_wd_0 (cI := cI) (cZ := cZ) (ad := ad) (σ := σ) hsh)
              rw [hqc] at hrecv
              have hrun := va_runV (p := p) (l := l) (e := e) (R := R) (s := s) (m := m) (args := args) (below := below) (meth := meth) (c := c) (H := H) (locs := locs) (cells := cells) (slots := slots) (As := as'.map (rd_cv ad)) (rest := rest.map (rd_cv ad)) (b := ad cl) (g := F0 m pc0 ls (st.map (rd_cv ad))) (nL := c.maxLocals) ⟨hx, hb, rfl, hown, hw⟩ hM ⟨hcb, hw _ hins, hw _ hsel⟩ ⟨rd_blind, hrecv, fun U hU hW => ⟨rfl, hX U hU hW⟩⟩ rfl (by rw [List.length_map, hp2, List.length_reverse, hp1]) hl.1 (by rw [hp3, hp2]; simp [rd_cv]) (lv_room (by rw [rd_cat_sum hf1]; exact hf2)) hdg ⟨by omega, by omega⟩
              exact rd_cont hrun hH.2.2 (fun H1 locs1 hh => kk _ _ _ (rd_nx_nat hnx) hh hf1)
          · cases ha
        · cases ha
      · cases ha
    · cases ha
  | invokestatic idx =>
    simp only [rd_ins] at ha
    simp only [rd_ck] at hck
    split at ha
    · rename_i k2' n q
      simp only [Bool.and_eq_true] at hck
      obtain ⟨⟨hlen, hnx⟩, ⟨⟨⟨⟨h1, h2⟩, h3⟩, h5⟩, h6⟩, h7⟩ := hck
      cases rd_beq hlen
      unfold rd_callS at ha
      split at ha
      · rename_i as' rest' hpop
        split at ha
        · rename_i hcc
          cases ha
          obtain ⟨ps, hp1, hp2, hp3⟩ := rd_pop_spec hpop
          rw [List.append_nil] at hp2
          obtain ⟨hf1, hf2⟩ := rd_few_spec hcc
          have hmi := rd_beq h2
          obtain ⟨-, -, -, hml3⟩ := rd_mlfact h1 hoc
          have hk2 : k2 ≠ 1000 ∧ k2 ≠ 1001 ∧ k2 ≠ 2000 := by
            refine ⟨?_, ?_, ?_⟩ <;> (intro e0; subst e0; revert hmi; decide +kernel)
          obtain ⟨y2, b2, L2, ret2, hm2, hlk2⟩ := hml3 hk2.1 hk2.2.1 hk2.2.2
          obtain ⟨-, hnh, hpar, hL2, hrest2⟩ := rd_mfact hm2
          obtain ⟨hpl2, hcode, hini, hs2, -, -⟩ := hrest2 (by rw [hmi]; decide)
          have hstat := hs2 hmi
          obtain ⟨fr2, lo2, hrm2, hr1, hr2⟩ := rmk h5 h6
          have hst' : (ps ++ rest).all rd_one = true := by rw [← hp3]; exact hst
          rw [List.all_append, Bool.and_eq_true] at hst'
          have has : as.all rd_one = true := by
            rw [hp2, List.all_reverse]
            exact hst'.1
          have hlen2 : as.length ≤ L2 := by
            rw [hp2, hL2]
            simp only [List.length_reverse, hp1]
            exact Nat.le_of_ble_eq_true h7
          have hM := hmet y2 b2 L2 ret2 fr2 lo2 hm2 hrm2 has hlen2 (by rw [hmi]; decide)
          have hn : n = rd_at rd_np k2 := rd_beq h3
          have hcb : CallB R s args y.cls idx y2 b2 L2 ret2 (rd_ws y2 b2 L2 ret2) { frames := fr2, cells := 0, slots := 0, locals := lo2 } 0 0 n :=
            callB_of n hw (rd_goodIn hcode) rfl rfl rfl (hw _ hini) (hw _ hlk2) ⟨hnh.1, hnh.2, by rw [hpar, hn]⟩ ⟨hr1, by rw [hL2]; exact hr2⟩
          have hrun := va_runS (p := p) (l := l) (e := e) (R := R) (s := s) (m := m) (args := args) (below := below) (meth := meth) (c := c) (H := H) (locs := locs) (cells := cells) (slots := slots) (As := as.map (rd_cv ad)) (rest := rest.map (rd_cv ad)) (g := F0 m pc0 ls (st.map (rd_cv ad))) (nL := c.maxLocals) ⟨hx, hb, rfl, hown, hw⟩ hM ⟨hcb, hw _ hstat⟩ ⟨rd_blind, fun U hU hW => ⟨rfl, hX U hU hW⟩⟩ rfl (by rw [List.length_map, hp2, List.length_reverse, hp1]) hl.1 (by rw [hp3, hp2]; simp) (lv_room (by rw [rd_cat_sum hf1]; exact hf2)) hdg ⟨by omega, by omega⟩
          exact rd_cont hrun hH.2.2 (fun H1 locs1 hh => kk _ _ _ (rd_nx_nat hnx) hh hf1)
        · cases ha
      · cases ha
    · split at ha
      · unfold rd_copy at ha
        split at ha
        · split at ha
          · split at ha <;> cases ha
          · cases ha
        · cases ha
      · unfold rd_min at ha
        split at ha
        · split at ha <;> cases ha
        · cases ha
    · cases ha
  | iconst _ => cases ha
  | bipush _ => cases ha
  | sipush _ => cases ha
  | iload_n _ => simp only [rd_ins, rd_iload] at ha; split at ha <;> cases ha
  | iload _ => simp only [rd_ins, rd_iload] at ha; split at ha <;> cases ha
  | aload_n _ => simp only [rd_ins, rd_aload] at ha; split at ha <;> cases ha
  | aload _ => simp only [rd_ins, rd_aload] at ha; split at ha <;> cases ha
  | istore_n _ => simp only [rd_ins, rd_istore] at ha; split at ha <;> (try split at ha) <;> cases ha
  | istore _ => simp only [rd_ins, rd_istore] at ha; split at ha <;> (try split at ha) <;> cases ha
  | astore_n _ => simp only [rd_ins, rd_astore] at ha; split at ha <;> (try split at ha) <;> cases ha
  | astore _ => simp only [rd_ins, rd_astore] at ha; split at ha <;> (try split at ha) <;> cases ha
  | iinc _ _ => simp only [rd_ins] at ha; split at ha <;> (try split at ha) <;> cases ha
  | iadd => simp only [rd_ins, rd_bin] at ha; split at ha <;> cases ha
  | isub => simp only [rd_ins, rd_bin] at ha; split at ha <;> cases ha
  | imul => simp only [rd_ins, rd_bin] at ha; split at ha <;> cases ha
  | iand => simp only [rd_ins, rd_bin] at ha; split at ha <;> cases ha
  | ior => simp only [rd_ins, rd_bin] at ha; split at ha <;> cases ha
  | ishl => simp only [rd_ins, rd_bin] at ha; split at ha <;> cases ha
  | ishr => simp only [rd_ins, rd_bin] at ha; split at ha <;> cases ha
  | dup => simp only [rd_ins] at ha; split at ha <;> cases ha
  | dup2 => simp only [rd_ins] at ha; split at ha <;> cases ha
  | goto _ => simp only [rd_ins] at ha; split at ha <;> cases ha
  | ifCond cd _ => simp only [rd_ins] at ha; split at ha <;> (try (cases cd <;> simp only [rd_if] at ha <;> split at ha)) <;> cases ha
  | if_icmp cd _ => simp only [rd_ins] at ha; split at ha <;> (try (cases cd <;> simp only [rd_icmp] at ha <;> split at ha)) <;> cases ha
  | tableswitch _ _ _ _ => simp only [rd_ins] at ha; split at ha <;> cases ha
  | iaload => simp only [rd_ins, rd_ald] at ha; split at ha <;> (try split at ha) <;> (try split at ha) <;> cases ha
  | baload => simp only [rd_ins, rd_ald] at ha; split at ha <;> (try split at ha) <;> (try split at ha) <;> cases ha
  | iastore => simp only [rd_ins, rd_ast] at ha; split at ha <;> (try split at ha) <;> (try split at ha) <;> (try split at ha) <;> cases ha
  | bastore => simp only [rd_ins, rd_ast] at ha; split at ha <;> (try split at ha) <;> (try split at ha) <;> (try split at ha) <;> cases ha
  | arraylength => simp only [rd_ins, rd_alen] at ha; split at ha <;> (try split at ha) <;> (try split at ha) <;> cases ha
  | getfield _ => simp only [rd_ins, rd_getf] at ha; split at ha <;> (try split at ha) <;> (try split at ha) <;> (try split at ha) <;> (try split at ha) <;> (try split at ha) <;> cases ha
  | putfield _ => simp only [rd_ins, rd_putf] at ha; split at ha <;> (try split at ha) <;> (try split at ha) <;> (try split at ha) <;> (try split at ha) <;> (try split at ha) <;> cases ha
  | getstatic _ => cases ha
  | ireturn => simp only [rd_ins] at ha; split at ha <;> cases ha
  | return_ => simp only [rd_ins] at ha; split at ha <;> cases ha
  | _ => simp only [rd_ins] at ha; cases ha
end RDC
