/-! The run of the small machine is the machine's run. -/
theorem rd_act_end {S : List rd_Sh} {ro : Nat → Option (Nat × (Nat → Int32))} {k i : Nat} {vs : rd_Lv} {st : List Value} {σ σ' : rd_Sg} {r : Option Value} (h : rd_act S ro k i vs st σ = some (.inl (r, σ'))) : σ' = σ ∧ ∃ pc len aux, (rd_look k i = some (pc, .ireturn, len, aux) ∧ ∃ v, st = [.int v] ∧ r = some (.int (rd_bit (rd_mz k) v))) ∨ (rd_look k i = some (pc, .return_, len, aux) ∧ st = [] ∧ r = none) := by
  unfold rd_act at h
  split at h
  case h_2 => cases h
  case h_1 pc0 ins len aux hlk =>
  cases ins with
  | ireturn =>
    simp only [rd_ins] at h
    split at h
    · rename_i v
      cases h
      exact ⟨rfl, pc0, len, aux, Or.inl ⟨hlk, v, rfl, rfl⟩⟩
    · cases h
  | return_ =>
    simp only [rd_ins] at h
    split at h
    · cases h
      exact ⟨rfl, pc0, len, aux, Or.inr ⟨hlk, rfl, rfl⟩⟩
    · cases h
  | invokevirtual _ =>
    simp only [rd_ins, rd_callV] at h
    split at h <;> (try split at h) <;> (try split at h) <;> (try split at h) <;> cases h
  | invokestatic _ =>
    simp only [rd_ins, rd_callS, rd_copy, rd_min] at h
    split at h <;> (try split at h) <;> (try split at h) <;> (try split at h) <;> (try split at h) <;> cases h
  | iconst _ => cases h
  | bipush _ => cases h
  | sipush _ => cases h
  | iload_n _ => simp only [rd_ins, rd_iload] at h; split at h <;> cases h
  | iload _ => simp only [rd_ins, rd_iload] at h; split at h <;> cases h
  | aload_n _ => simp only [rd_ins, rd_aload] at h; split at h <;> cases h
  | aload _ => simp only [rd_ins, rd_aload] at h; split at h <;> cases h
  | istore_n _ => simp only [rd_ins, rd_istore] at h; split at h <;> (try split at h) <;> cases h
  | istore _ => simp only [rd_ins, rd_istore] at h; split at h <;> (try split at h) <;> cases h
  | astore_n _ => simp only [rd_ins, rd_astore] at h; split at h <;> (try split at h) <;> cases h
  | astore _ => simp only [rd_ins, rd_astore] at h; split at h <;> (try split at h) <;> cases h
  | iinc _ _ => simp only [rd_ins] at h; split at h <;> (try split at h) <;> cases h
  | iadd => simp only [rd_ins, rd_bin] at h; split at h <;> cases h
  | isub => simp only [rd_ins, rd_bin] at h; split at h <;> cases h
  | imul => simp only [rd_ins, rd_bin] at h; split at h <;> cases h
  | iand => simp only [rd_ins, rd_bin] at h; split at h <;> cases h
  | ior => simp only [rd_ins, rd_bin] at h; split at h <;> cases h
  | ishl => simp only [rd_ins, rd_bin] at h; split at h <;> cases h
  | ishr => simp only [rd_ins, rd_bin] at h; split at h <;> cases h
  | dup => simp only [rd_ins] at h; split at h <;> cases h
  | dup2 => simp only [rd_ins] at h; split at h <;> cases h
  | goto _ => simp only [rd_ins] at h; split at h <;> cases h
  | ifCond cd _ => simp only [rd_ins] at h; split at h <;> (try (cases cd <;> simp only [rd_if] at h <;> split at h)) <;> cases h
  | if_icmp cd _ => simp only [rd_ins] at h; split at h <;> (try (cases cd <;> simp only [rd_icmp] at h <;> split at h)) <;> cases h
  | tableswitch _ _ _ _ => simp only [rd_ins] at h; split at h <;> cases h
  | iaload => simp only [rd_ins, rd_ald] at h; split at h <;> (try split at h) <;> (try split at h) <;> cases h
  | baload => simp only [rd_ins, rd_ald] at h; split at h <;> (try split at h) <;> (try split at h) <;> cases h
  | iastore => simp only [rd_ins, rd_ast] at h; split at h <;> (try split at h) <;> (try split at h) <;> (try split at h) <;> cases h
  | bastore => simp only [rd_ins, rd_ast] at h; split at h <;> (try split at h) <;> (try split at h) <;> (try split at h) <;> cases h
  | arraylength => simp only [rd_ins, rd_alen] at h; split at h <;> (try split at h) <;> (try split at h) <;> cases h
  | getfield _ => simp only [rd_ins, rd_getf] at h; split at h <;> (try split at h) <;> (try split at h) <;> (try split at h) <;> (try split at h) <;> (try split at h) <;> cases h
  | putfield _ => simp only [rd_ins, rd_putf] at h; split at h <;> (try split at h) <;> (try split at h) <;> (try split at h) <;> (try split at h) <;> (try split at h) <;> cases h
  | getstatic _ => cases h
  | _ => simp only [rd_ins] at h; cases h
theorem rd_pc0_all : (List.range 195).all (fun k => decide (rd_pc k 0 = some 0)) = true := by decide +kernel
theorem rd_pc0 {k : Nat} (hk : k < 195) : rd_pc k 0 = some 0 := of_decide_eq_true (List.all_eq_true.mp rd_pc0_all k (List.mem_range.mpr hk))
theorem rd_ev_one {S : List rd_Sh} {ro : Nat → Option (Nat × (Nat → Int32))} : ∀ (n : Nat) {k i : Nat} {vs : rd_Lv} {st : List Value} {σ σ' : rd_Sg} {r : Option Value}, rd_ev S ro n k i vs st σ = some (r, σ') → r.toList.all rd_one = true := by
  intro n
  induction n with
  | zero => intro k i vs st σ σ' r h; cases h
  | succ n ih =>
    intro k i vs st σ σ' r h
    rw [rd_ev] at h
    cases ha : rd_act S ro k i vs st σ with
    | none => rw [ha] at h; cases h
    | some a =>
      rw [ha] at h
      rcases a with q | ⟨i', vs', st', σ1⟩ | ⟨k2, as, rest⟩
      · cases h
        obtain ⟨-, pc, len, aux, h1 | h1⟩ := rd_act_end ha
        · obtain ⟨-, v, -, hr⟩ := h1
          rw [hr]; rfl
        · rw [h1.2.2]; rfl
      · exact ih h
      · dsimp only at h
        cases hc : rd_ev S ro n k2 0 (rd_ent k2 as) [] σ with
        | none => rw [hc] at h; cases h
        | some q => rw [hc] at h; exact ih h
section RDR
variable {l : Launch} {D : va_G} {cI cZ : ClassId} {ad : Nat → Nat} {base : Nat} {ρ : Nat × (Nat → Int32)} {S : List rd_Sh}
/-- n units of fuel: whatever the small machine does with them, the machine does -/
def rd_Ok (l : Launch) (D : va_G) (cI cZ : ClassId) (ad : Nat → Nat) (base : Nat) (ρ : Nat × (Nat → Int32)) (S : List rd_Sh) (n : Nat) : Prop :=
  ∀ (k i : Nat) (vs : rd_Lv) (st : List Value) (σ σ' : rd_Sg) (r : Option Value), rd_ev S (rd_ro ρ) n k i vs st σ = some (r, σ') →
  ∀ (p : Program) (e : Env) (R : Room) (s : State) (m : MethodId) (args : Array Value) (below : List Frame) (meth : Method) (c : Code) (cells slots : Nat) (Q : State → Prop) (H : Heap) (locs : List Loc) (ls : Array Slot) (pc : Nat),
  rd_Fr p R s m args c k → rd_In D cI cZ ad base ρ s → rd_pc k i = some pc → rd_Hp D cI cZ ad base S s H locs σ → rd_Ls ad ls c.maxLocals vs → st.all rd_one = true → cells ≤ R.cells ∧ slots ≤ R.slots →
  (∀ (i' pc' : Nat) (vs' : rd_Lv) (st' : List Value) (H' : Heap) (locs' : List Loc) (ls' : Array Slot), rd_pc k i' = some pc' → rd_act S (rd_ro ρ) k i' vs' st' σ' = some (.inl (r, σ')) → rd_Hp D cI cZ ad base S s H' locs' σ' → W p l e R s m args below meth c H' locs' cells slots Q (F0 m pc' ls' (st'.map (rd_cv ad)))) →
  W p l e R s m args below meth c H locs cells slots Q (F0 m pc ls (st.map (rd_cv ad)))
theorem rd_zret {p : Program} {e : Env} {R : Room} {s : State} {m : MethodId} {args : Array Value} {below : List Frame} {meth : Method} {c : Code} {cells slots : Nat} {H : Heap} {locs : List Loc} {cc : ByteArray} {Qc : Array Value → State → Outcome → State → Prop} {free : Addr → Prop} {v : Int32} (hexec : p.tables.exec = Jvm.exec) (hb : c.code = cc) (hr : meth.sig.returnType = some .boolean)
    (hq : ∀ t : State, t.heap = H → s.WarmedH t.vm → Qc args s (.returned (some (.int (v &&& 1)))) t) (hf : ∀ q ∈ locs, free q.base)
    {pc : Nat} {ls : Array Slot} (hdg : decode cc pc = .ok (.ireturn, 1)) (hlocks : meth.locks = false) : W p l e R s m args below meth c H locs cells slots (MQ below Qc args s cells slots free) (F0 m pc ls [.int v]) := by
  intro T hT X
  obtain ⟨fs, hret, hrun, hended, hW, hframe⟩ := X.leave (v := some (.int (v &&& 1))) (hlocks := hlocks) (fun h => by rw [hr] at h; cases h)
  have hmeth' : T.vm.method? m = some meth := X.method'
  refine ⟨T.setFrames fs, ?_, .returned (some (.int (v &&& 1))), hrun, hended, hq _ hT hW, locs, ⟨⟨_, rfl⟩, hW, hframe⟩, hf⟩
  jvm_step X.here [X.here.top, hexec, hb, hdg, hmeth', hr, narrow]
  (try refine ⟨rfl, ?_⟩); (try refine ⟨rfl, ?_⟩)
  first | (intro acts; rw [hret _ acts rfl rfl rfl]) | rw [hret _ _ rfl rfl rfl]
  exact Steps.refl _
theorem rd_met {n : Nat} (ih : rd_Ok l D cI cZ ad base ρ S n) {k : Nat} {as : List Value} {σ σ' : rd_Sg} {r : Option Value} (hev : rd_ev S (rd_ro ρ) n k 0 (rd_ent k as) [] σ = some (r, σ'))
    {y : MethodName} {b : ByteArray} {L : Nat} {ret : Option FieldType} {fr lo : Nat} (hm : rd_nth rd_mt k = some (y, b, L, ret)) (hrm : rd_nth rd_rm k = some (fr, 0, 0, lo)) (has : as.all rd_one = true) (hlen : as.length ≤ L) (hmi : rd_mi k ≠ 3) :
    Met l y (rd_ws y b L ret) { frames := fr, cells := 0, slots := 0, locals := lo } (rd_Pc D cI cZ ad base ρ S σ as) (rd_Qc D cI cZ ad base S r σ') 0 0 (fun q => base ≤ q) := by
  obtain ⟨hoc, hnh, hpar, hL, hrest⟩ := rd_mfact hm
  obtain ⟨hpl, -⟩ := hrest hmi
  refine Met.ofW (cc := b) (maxL := L) (ret := ret) hpl rfl ?_
  intro p e s m args below meth c s₁ B hml hv
  obtain ⟨rfl, hI, hP, hD⟩ := hv
  have hts := atoms_spec (ws := rd_ws y b L ret) B.pre
  have hF : rd_Fr p (headSpec (rd_ws y b L ret) { frames := fr, cells := 0, slots := 0, locals := lo }).room s m (as.map (rd_cv ad)).toArray c k :=
    ⟨y, b, L, ret, fr, 0, 0, lo, hm, B.exec, B.bytes, hml, findClass_of_methodNamed B.named, fun w hw => hts w (List.mem_cons_of_mem _ hw), hrm, Nat.le_refl _, Nat.le_refl _⟩
  rw [lg_entry_eq]
  have hpc0 : rd_pc k 0 = some 0 := by
    cases n with
    | zero => cases hev
    | succ n =>
      have hk : k < 195 := by
        have h := rd_nth_lt hm
        have e0 : rd_mt.length = 195 := by decide +kernel
        omega
      exact rd_pc0 hk
  refine ih k 0 (rd_ent k as) [] σ σ' r hev p e _ s m _ below meth c 0 0 _ s.heap [] _ 0 hF hI hpc0 ⟨hP, hD, va_S.rf⟩ (by rw [hml]; exact rd_ent_ls has hlen hL) rfl ⟨Nat.zero_le _, Nat.zero_le _⟩ ?_
  intro i' pc' vs' st' H' locs' ls' hpc' hact hH'
  obtain ⟨-, pc1, len, aux, h⟩ := rd_act_end hact
  have hr := B.returns
  have hlocks := B.notSynchronized
  rcases h with ⟨hlk, v, hst, hrv⟩ | ⟨hlk, hst, hrv⟩
  · have e1 : pc1 = pc' := by
      unfold rd_pc at hpc'
      rw [hlk] at hpc'
      exact Option.some.inj hpc'
    subst e1
    have hdg := rd_dec hlk hm
    have hck := rd_ck_ok hlk
    simp only [rd_ck, Bool.and_eq_true, Bool.or_eq_true, decide_eq_true_eq] at hck
    cases rd_beq hck.1
    have hret : rd_ret k = ret := by unfold rd_ret; rw [hm]
    rw [hret] at hck
    subst hst
    rcases hck.2 with (h194 | ⟨h1, h2⟩) | ⟨h1, h2⟩
    · exact absurd (by rw [rd_beq h194]; decide +kernel) hmi
    · subst h1
      have hz : rd_mz k = false := by simpa using h2
      rw [hz] at hrv
      have hrv : r = some (.int v) := hrv
      refine W.iret (v := v) B.exec B.bytes hr (fun t ht hW => ⟨by rw [hrv]; rfl, by rw [ht]; exact hH'.1, hH'.2.1, hH'.2.2.F ht⟩) hH'.2.2.2.2 hdg
    · subst h1
      rw [h2] at hrv
      have hrv : r = some (.int (v &&& 1)) := hrv
      exact rd_zret (v := v) B.exec B.bytes hr (fun t ht hW => ⟨by rw [hrv]; rfl, by rw [ht]; exact hH'.1, hH'.2.1, hH'.2.2.F ht⟩) hH'.2.2.2.2 hdg hlocks
  · have e1 : pc1 = pc' := by
      unfold rd_pc at hpc'
      rw [hlk] at hpc'
      exact Option.some.inj hpc'
    subst e1
    have hdg := rd_dec hlk hm
    have hck := rd_ck_ok hlk
    simp only [rd_ck, Bool.and_eq_true, decide_eq_true_eq] at hck
    cases rd_beq hck.1
    have hret : rd_ret k = ret := by unfold rd_ret; rw [hm]
    rw [hret] at hck
    subst hst
    have hrn : ret = none := hck.2
    subst hrn
    exact W.vret B.exec B.bytes hr (fun t ht hW => ⟨by rw [hrv]; rfl, by rw [ht]; exact hH'.1, hH'.2.1, hH'.2.2.F ht⟩) hH'.2.2.2.2 hdg
theorem rd_ok : ∀ n : Nat, rd_Ok l D cI cZ ad base ρ S n := by
  intro n
  induction n with
  | zero => intro k i vs st σ σ' r h; cases h
  | succ n ih =>
    intro k i vs st σ σ' r h p e R s m args below meth c cells slots Q H locs ls pc hF hI hpc hH hl hst hcs fin
    rw [rd_ev] at h
    cases ha : rd_act S (rd_ro ρ) k i vs st σ with
    | none => rw [ha] at h; cases h
    | some a =>
      rw [ha] at h
      rcases a with q | ⟨i', vs', st', σ1⟩ | ⟨k2, as, rest⟩
      · cases h
        obtain ⟨e1, -⟩ := rd_act_end ha
        subst e1
        exact fin i pc vs st H locs ls hpc ha hH
      · exact rd_jump hF hI ha hpc hH hl hst hcs (fun pc' H' locs' ls' h1 h2 h3 h4 => ih k i' vs' st' σ1 σ' r h p e R s m args below meth c cells slots Q H' locs' ls' pc' hF hI h1 h2 h3 h4 hcs fin)
      · dsimp only at h
        cases hc : rd_ev S (rd_ro ρ) n k2 0 (rd_ent k2 as) [] σ with
        | none => rw [hc] at h; cases h
        | some q =>
          rw [hc] at h
          obtain ⟨r1, σ1⟩ := q
          refine rd_call (r := r1) (σ' := σ1) hF hI ha hpc hH hl hst hcs (fun y b L ret fr lo hm hrm has hlen hmi => rd_met ih hc hm hrm has hlen hmi) (fun pc' H' locs' h1 h2 h3 => ?_)
          have h : rd_ev S (rd_ro ρ) n k (i + 1) vs (r1.toList ++ rest) σ1 = some (r, σ') := h
          refine ih k (i + 1) vs (r1.toList ++ rest) σ1 σ' r h p e R s m args below meth c cells slots Q H' locs' ls pc' hF hI h1 h2 hl ?_ hcs fin
          rw [List.all_append, Bool.and_eq_true]
          exact ⟨rd_ev_one n hc, h3⟩
end RDR
